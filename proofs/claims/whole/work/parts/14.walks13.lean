theorem t_X9_init {Z : gZ} {d mc ms : Nat} {Acc : Option Value → (Nat → Nat) → gT → gM → Prop} {AccX : Nat → (Nat → Nat) → gT → gM → Prop} {ad : Nat → Nat} {T : gT} {M : gM} {m_a0 : Nat} {a0 : Nat} {o : gT × gM} (hF : gFix Z cX9_init RX9 "<init>" none d mc ms Acc AccX) (hn : Z.2.2.2.2.2.1 = 1) (hd : 1 ≤ d) (hmc : 46 ≤ mc) (hms : 17456 ≤ ms) (q0 : T[a0]? = some (9, m_a0)) (h : f_X9_init T M a0 = some o) (hR : ∀ ad1 : Nat → Nat, gExt T o.1 → (∀ a : Nat, a < T.length → ad1 a = ad a) → Acc none ad1 o.1 o.2) : gG Z ad T M 0 0 0 [(0, .ref a0)] [] := by
  unfold f_X9_init at h
  refine g_aload_n hF 0 rfl rfl dX9_init_0 ?_
  refine g_obj hF kw_1086 kw_134 kw_135 (by omega) (Nat.le_of_ble_eq_true rfl) dX9_init_1 ?_
  refine g_aload_n hF 0 rfl rfl dX9_init_4 ?_
  refine g_sipush (v := (800 : Int32)) hF rfl dX9_init_5 ?_
  obtain ⟨x2, h2, h⟩ := gbnd h
  have g2 : gnew T M (11, 800) = some (x2.1, x2.2.1, x2.2.2) := h2
  refine g_newa_int (N := 800) hF (by decide) (by decide) (by decide) kw_199 g2 (gnew_lt g2) (gFr_r (gT_ne q0) gFr_0) (gFr_r (gT_ne q0) gFr_0) (by omega) (by omega) dX9_init_8 (fun ad2 z2 => ?_)
  have X2 := gExt.tr gExt.rf (gnew_ext g2)
  have W2 := gad_new g2 z2 gExt.rf (fun _ _ => rfl)
  have q_3 := gnew_ext g2 _ _ q0
  have q_y2 := gnew_at g2
  refine g_putF_r hF (fun _ => rfl) (fun _ => rfl) (gT_lt q_y2) rfl (fun R9 T9 N9 t9 q9 => g_own9 q9) fl_RX9_9 q_3 dX9_init_10 ?_
  refine g_aload_n hF 0 rfl rfl dX9_init_13 ?_
  refine g_iconst (v := (-1 : Int32)) hF rfl dX9_init_14 ?_
  refine g_put_i hF rfl rfl fl_RX9_13 q_3 dX9_init_15 ?_
  refine g_aload_n hF 0 rfl rfl dX9_init_18 ?_
  refine g_sipush (v := (1498 : Int32)) hF rfl dX9_init_19 ?_
  obtain ⟨x4, h4, h⟩ := gbnd h
  have g4 : gnew x2.2.1 (si (sr x2.2.2 a0 1 (some x2.1)) a0 7 (-1 : Int32)) (11, 1498) = some (x4.1, x4.2.1, x4.2.2) := h4
  refine g_newa_int (N := 1498) hF (by decide) (by decide) (by decide) kw_199 g4 (gnew_lt g4) (gFr_r (gT_ne q_3) gFr_0) (gFr_r (gT_ne q_3) gFr_0) (by omega) (by omega) dX9_init_22 (fun ad4 z4 => ?_)
  have X4 := gExt.tr X2 (gnew_ext g4)
  have W4 := gad_new g4 z4 X2 W2
  have q_5 := gnew_ext g4 _ _ q_3
  have q_y4 := gnew_at g4
  refine g_putF_r hF (fun _ => rfl) (fun _ => rfl) (gT_lt q_y4) rfl (fun R9 T9 N9 t9 q9 => g_own9 q9) fl_RX9_17 q_5 dX9_init_24 ?_
  refine g_aload_n hF 0 rfl rfl dX9_init_27 ?_
  refine g_sipush (v := (1498 : Int32)) hF rfl dX9_init_28 ?_
  obtain ⟨x6, h6, h⟩ := gbnd h
  have g6 : gnew x4.2.1 (sr x4.2.2 a0 8 (some x4.1)) (11, 1498) = some (x6.1, x6.2.1, x6.2.2) := h6
  refine g_newa_int (N := 1498) hF (by decide) (by decide) (by decide) kw_199 g6 (gnew_lt g6) (gFr_r (gT_ne q_5) gFr_0) (gFr_r (gT_ne q_5) gFr_0) (by omega) (by omega) dX9_init_31 (fun ad6 z6 => ?_)
  have X6 := gExt.tr X4 (gnew_ext g6)
  have W6 := gad_new g6 z6 X4 W4
  have q_7 := gnew_ext g6 _ _ q_5
  have q_y6 := gnew_at g6
  refine g_putF_r hF (fun _ => rfl) (fun _ => rfl) (gT_lt q_y6) rfl (fun R9 T9 N9 t9 q9 => g_own9 q9) fl_RX9_20 q_7 dX9_init_33 ?_
  refine g_aload_n hF 0 rfl rfl dX9_init_36 ?_
  refine g_bipush (v := (8 : Int32)) hF rfl dX9_init_37 ?_
  refine g_sipush (v := (1498 : Int32)) hF rfl dX9_init_39 ?_
  obtain ⟨x8, h8, h⟩ := gbnd h
  refine g_multi (N := 8) (K := 1498) hF (by decide) (by decide) (by decide) (by decide) (by decide) (by decide) kw_1087 kw_199 h8 (gOld_r (gT_lt q_7) gOld_0) (gOld_r (gT_lt q_7) gOld_0) (by omega) (by omega) dX9_init_42 (fun ad8 y8 => ?_)
  have X8 := gExt.tr X6 (gnewm_ext h8)
  have W8 := gad_call y8 X6 W6
  have q_9 := gnewm_ext h8 _ _ q_7
  have q_y8 := gnewm_at h8
  refine g_putF_r hF (fun _ => rfl) (fun _ => rfl) (gT_lt q_y8) rfl (fun R9 T9 N9 t9 q9 => g_own9 q9) fl_RX9_25 q_9 dX9_init_46 ?_
  refine g_aload_n hF 0 rfl rfl dX9_init_49 ?_
  refine g_bipush (v := (8 : Int32)) hF rfl dX9_init_50 ?_
  obtain ⟨x10, h10, h⟩ := gbnd h
  have g10 : gnew x8.2.1 (sr x8.2.2 a0 10 (some x8.1)) (12, 8) = some (x10.1, x10.2.1, x10.2.2) := h10
  refine g_newa_long (N := 8) hF (by decide) (by decide) (by decide) kw_305 g10 (gnew_lt g10) (gFr_r (gT_ne q_9) gFr_0) (gFr_r (gT_ne q_9) gFr_0) (by omega) (by omega) dX9_init_52 (fun ad10 z10 => ?_)
  have X10 := gExt.tr X8 (gnew_ext g10)
  have W10 := gad_new g10 z10 X8 W8
  have q_11 := gnew_ext g10 _ _ q_9
  have q_y10 := gnew_at g10
  refine g_putF_r hF (fun _ => rfl) (fun _ => rfl) (gT_lt q_y10) rfl (fun R9 T9 N9 t9 q9 => g_own9 q9) fl_RX9_28 q_11 dX9_init_54 ?_
  refine g_aload_n hF 0 rfl rfl dX9_init_57 ?_
  refine g_bipush (v := (12 : Int32)) hF rfl dX9_init_58 ?_
  obtain ⟨x12, h12, h⟩ := gbnd h
  have g12 : gnew x10.2.1 (sr x10.2.2 a0 15 (some x10.1)) (12, 12) = some (x12.1, x12.2.1, x12.2.2) := h12
  refine g_newa_long (N := 12) hF (by decide) (by decide) (by decide) kw_305 g12 (gnew_lt g12) (gFr_r (gT_ne q_11) gFr_0) (gFr_r (gT_ne q_11) gFr_0) (by omega) (by omega) dX9_init_60 (fun ad12 z12 => ?_)
  have X12 := gExt.tr X10 (gnew_ext g12)
  have W12 := gad_new g12 z12 X10 W10
  have q_13 := gnew_ext g12 _ _ q_11
  have q_y12 := gnew_at g12
  refine g_putF_r hF (fun _ => rfl) (fun _ => rfl) (gT_lt q_y12) rfl (fun R9 T9 N9 t9 q9 => g_own9 q9) fl_RX9_32 q_13 dX9_init_62 ?_
  refine g_aload_n hF 0 rfl rfl dX9_init_65 ?_
  refine g_sipush (v := (1300 : Int32)) hF rfl dX9_init_66 ?_
  obtain ⟨x14, h14, h⟩ := gbnd h
  have g14 : gnew x12.2.1 (sr x12.2.2 a0 16 (some x12.1)) (12, 1300) = some (x14.1, x14.2.1, x14.2.2) := h14
  refine g_newa_long (N := 1300) hF (by decide) (by decide) (by decide) kw_305 g14 (gnew_lt g14) (gFr_r (gT_ne q_13) gFr_0) (gFr_r (gT_ne q_13) gFr_0) (by omega) (by omega) dX9_init_69 (fun ad14 z14 => ?_)
  have X14 := gExt.tr X12 (gnew_ext g14)
  have W14 := gad_new g14 z14 X12 W12
  have q_15 := gnew_ext g14 _ _ q_13
  have q_y14 := gnew_at g14
  refine g_putF_r hF (fun _ => rfl) (fun _ => rfl) (gT_lt q_y14) rfl (fun R9 T9 N9 t9 q9 => g_own9 q9) fl_RX9_35 q_15 dX9_init_71 ?_
  refine g_aload_n hF 0 rfl rfl dX9_init_74 ?_
  refine g_bipush (v := (8 : Int32)) hF rfl dX9_init_75 ?_
  obtain ⟨x16, h16, h⟩ := gbnd h
  have g16 : gnew x14.2.1 (sr x14.2.2 a0 18 (some x14.1)) (11, 8) = some (x16.1, x16.2.1, x16.2.2) := h16
  refine g_newa_int (N := 8) hF (by decide) (by decide) (by decide) kw_199 g16 (gnew_lt g16) (gFr_r (gT_ne q_15) gFr_0) (gFr_r (gT_ne q_15) gFr_0) (by omega) (by omega) dX9_init_77 (fun ad16 z16 => ?_)
  have X16 := gExt.tr X14 (gnew_ext g16)
  have W16 := gad_new g16 z16 X14 W14
  have q_17 := gnew_ext g16 _ _ q_15
  have q_y16 := gnew_at g16
  refine g_putF_r hF (fun _ => rfl) (fun _ => rfl) (gT_lt q_y16) rfl (fun R9 T9 N9 t9 q9 => g_own9 q9) fl_RX9_38 q_17 dX9_init_79 ?_
  refine g_aload_n hF 0 rfl rfl dX9_init_82 ?_
  refine g_bipush (v := (8 : Int32)) hF rfl dX9_init_83 ?_
  obtain ⟨x18, h18, h⟩ := gbnd h
  have g18 : gnew x16.2.1 (sr x16.2.2 a0 19 (some x16.1)) (11, 8) = some (x18.1, x18.2.1, x18.2.2) := h18
  refine g_newa_int (N := 8) hF (by decide) (by decide) (by decide) kw_199 g18 (gnew_lt g18) (gFr_r (gT_ne q_17) gFr_0) (gFr_r (gT_ne q_17) gFr_0) (by omega) (by omega) dX9_init_85 (fun ad18 z18 => ?_)
  have X18 := gExt.tr X16 (gnew_ext g18)
  have W18 := gad_new g18 z18 X16 W16
  have q_19 := gnew_ext g18 _ _ q_17
  have q_y18 := gnew_at g18
  refine g_putF_r hF (fun _ => rfl) (fun _ => rfl) (gT_lt q_y18) rfl (fun R9 T9 N9 t9 q9 => g_own9 q9) fl_RX9_41 q_19 dX9_init_87 ?_
  refine g_aload_n hF 0 rfl rfl dX9_init_90 ?_
  refine g_bipush (v := (12 : Int32)) hF rfl dX9_init_91 ?_
  obtain ⟨x20, h20, h⟩ := gbnd h
  have g20 : gnew x18.2.1 (sr x18.2.2 a0 20 (some x18.1)) (11, 12) = some (x20.1, x20.2.1, x20.2.2) := h20
  refine g_newa_int (N := 12) hF (by decide) (by decide) (by decide) kw_199 g20 (gnew_lt g20) (gFr_r (gT_ne q_19) gFr_0) (gFr_r (gT_ne q_19) gFr_0) (by omega) (by omega) dX9_init_93 (fun ad20 z20 => ?_)
  have X20 := gExt.tr X18 (gnew_ext g20)
  have W20 := gad_new g20 z20 X18 W18
  have q_21 := gnew_ext g20 _ _ q_19
  have q_y20 := gnew_at g20
  refine g_putF_r hF (fun _ => rfl) (fun _ => rfl) (gT_lt q_y20) rfl (fun R9 T9 N9 t9 q9 => g_own9 q9) fl_RX9_44 q_21 dX9_init_95 ?_
  refine g_aload_n hF 0 rfl rfl dX9_init_98 ?_
  refine g_bipush (v := (8 : Int32)) hF rfl dX9_init_99 ?_
  refine g_bipush (v := (12 : Int32)) hF rfl dX9_init_101 ?_
  obtain ⟨x22, h22, h⟩ := gbnd h
  refine g_multi (N := 8) (K := 12) hF (by decide) (by decide) (by decide) (by decide) (by decide) (by decide) kw_1087 kw_199 h22 (gOld_r (gT_lt q_21) gOld_0) (gOld_r (gT_lt q_21) gOld_0) (by omega) (by omega) dX9_init_103 (fun ad22 y22 => ?_)
  have X22 := gExt.tr X20 (gnewm_ext h22)
  have W22 := gad_call y22 X20 W20
  have q_23 := gnewm_ext h22 _ _ q_21
  have q_y22 := gnewm_at h22
  refine g_putF_r hF (fun _ => rfl) (fun _ => rfl) (gT_lt q_y22) rfl (fun R9 T9 N9 t9 q9 => g_own9 q9) fl_RX9_47 q_23 dX9_init_107 ?_
  refine g_aload_n hF 0 rfl rfl dX9_init_110 ?_
  refine g_bipush (v := (8 : Int32)) hF rfl dX9_init_111 ?_
  refine g_bipush (v := (12 : Int32)) hF rfl dX9_init_113 ?_
  obtain ⟨x24, h24, h⟩ := gbnd h
  refine g_multi (N := 8) (K := 12) hF (by decide) (by decide) (by decide) (by decide) (by decide) (by decide) kw_1087 kw_199 h24 (gOld_r (gT_lt q_23) gOld_0) (gOld_r (gT_lt q_23) gOld_0) (by omega) (by omega) dX9_init_115 (fun ad24 y24 => ?_)
  have X24 := gExt.tr X22 (gnewm_ext h24)
  have W24 := gad_call y24 X22 W22
  have q_25 := gnewm_ext h24 _ _ q_23
  have q_y24 := gnewm_at h24
  refine g_putF_r hF (fun _ => rfl) (fun _ => rfl) (gT_lt q_y24) rfl (fun R9 T9 N9 t9 q9 => g_own9 q9) fl_RX9_50 q_25 dX9_init_119 ?_
  refine g_aload_n hF 0 rfl rfl dX9_init_122 ?_
  refine g_bipush (v := (8 : Int32)) hF rfl dX9_init_123 ?_
  refine g_bipush (v := (12 : Int32)) hF rfl dX9_init_125 ?_
  obtain ⟨x26, h26, h⟩ := gbnd h
  refine g_multi (N := 8) (K := 12) hF (by decide) (by decide) (by decide) (by decide) (by decide) (by decide) kw_1087 kw_199 h26 (gOld_r (gT_lt q_25) gOld_0) (gOld_r (gT_lt q_25) gOld_0) (by omega) (by omega) dX9_init_127 (fun ad26 y26 => ?_)
  have X26 := gExt.tr X24 (gnewm_ext h26)
  have W26 := gad_call y26 X24 W24
  have q_27 := gnewm_ext h26 _ _ q_25
  have q_y26 := gnewm_at h26
  refine g_putF_r hF (fun _ => rfl) (fun _ => rfl) (gT_lt q_y26) rfl (fun R9 T9 N9 t9 q9 => g_own9 q9) fl_RX9_53 q_27 dX9_init_131 ?_
  refine g_aload_n hF 0 rfl rfl dX9_init_134 ?_
  refine g_bipush (v := (8 : Int32)) hF rfl dX9_init_135 ?_
  obtain ⟨x28, h28, h⟩ := gbnd h
  have g28 : gnew x26.2.1 (sr x26.2.2 a0 24 (some x26.1)) (11, 8) = some (x28.1, x28.2.1, x28.2.2) := h28
  refine g_newa_int (N := 8) hF (by decide) (by decide) (by decide) kw_199 g28 (gnew_lt g28) (gFr_r (gT_ne q_27) gFr_0) (gFr_r (gT_ne q_27) gFr_0) (by omega) (by omega) dX9_init_137 (fun ad28 z28 => ?_)
  have X28 := gExt.tr X26 (gnew_ext g28)
  have W28 := gad_new g28 z28 X26 W26
  have q_29 := gnew_ext g28 _ _ q_27
  have q_y28 := gnew_at g28
  refine g_putF_r hF (fun _ => rfl) (fun _ => rfl) (gT_lt q_y28) rfl (fun R9 T9 N9 t9 q9 => g_own9 q9) fl_RX9_56 q_29 dX9_init_139 ?_
  refine g_aload_n hF 0 rfl rfl dX9_init_142 ?_
  obtain ⟨b30, h30, h⟩ := gbnd h
  obtain ⟨g30, l30, q_b30⟩ := ldr_sp h30
  refine g_get_r hF g30 fl_RX9_17 q_29 dX9_init_143 ?_
  refine g_iconst (v := (0 : Int32)) hF rfl dX9_init_146 ?_
  refine g_bipush (v := (50 : Int32)) hF rfl dX9_init_147 ?_
  obtain ⟨M31, h31, h⟩ := gbnd h
  obtain ⟨i31h, e31v⟩ := ast_sp q_b30 h31
  refine g_iast hF q_b30 i31h dX9_init_149 ?_
  rw [← e31v]
  cases h
  exact g_ret_v hF rfl dX9_init_150 (hR ad28 X28 W28) (by omega) (by omega)
theorem c_X9_init {d : Nat} {T : gT} {M : gM} {m_a0 : Nat} {a0 : Nat} {r : gT × gM} (hd : 1 ≤ d) (q0 : T[a0]? = some (9, m_a0)) (h : f_X9_init T M a0 = some (r)) : gRet d yX9_init cX9_init 1 none 46 17456 [.ref a0] T M (gMade T none r.1 r.2) := by
  refine gRet_of (own := RX9) (by decide) rfl (Nat.le_of_ble_eq_true rfl) (fun Z ad0 hn h0 hF => ?_)
  exact t_X9_init hF hn hd (Nat.le_refl _) (Nat.le_refl _) q0 h (fun ad1 x1 y1 => ⟨rfl, rfl, rfl, x1, y1⟩)
theorem t_X9_thrown {Z : gZ} {d mc ms : Nat} {Acc : Option Value → (Nat → Nat) → gT → gM → Prop} {AccX : Nat → (Nat → Nat) → gT → gM → Prop} {ad : Nat → Nat} {T : gT} {M : gM} {m_a0 : Nat} {a0 : Nat} {o : Int32} (hF : gFix Z cX9_thrown RX9 "thrown" (some .int) d mc ms Acc AccX) (hn : Z.2.2.2.2.2.1 = 1) (hd : 1 ≤ d) (q0 : T[a0]? = some (9, m_a0)) (h : f_X9_thrown T M a0 = some o) (hR : Acc (some (.int o)) ad T M) : gG Z ad T M 0 0 0 [(0, .ref a0)] [] := by
  unfold f_X9_thrown at h
  refine g_aload_n hF 0 rfl rfl dX9_thrown_0 ?_
  refine g_get_i hF fl_RX9_59 q0 dX9_thrown_1 ?_
  cases h
  exact g_ret_i hF rfl rfl dX9_thrown_4 hR (Nat.zero_le _) (Nat.zero_le _)
theorem c_X9_thrown {d : Nat} {T : gT} {M : gM} {m_a0 : Nat} {a0 : Nat} {r : Int32} (hd : 1 ≤ d) (q0 : T[a0]? = some (9, m_a0)) (h : f_X9_thrown T M a0 = some (r)) : gRet d yX9_thrown cX9_thrown 1 (some .int) 0 0 [.ref a0] T M (gSame T (some (.int r)) M) := by
  refine gRet_of (own := RX9) (by decide) rfl (Nat.le_of_ble_eq_true rfl) (fun Z ad0 hn h0 hF => ?_)
  exact t_X9_thrown hF hn hd q0 h ⟨rfl, rfl, rfl, rfl⟩
theorem t_X9_fails_16 {Z : gZ} {d mc ms : Nat} {Acc : Option Value → (Nat → Nat) → gT → gM → Prop} {AccX : Nat → (Nat → Nat) → gT → gM → Prop} {ad : Nat → Nat} {T : gT} {M : gM} {m_a0 : Nat} {a0 : Nat} {o : Int32 × gM} (hF : gFix Z cX9_fails RX9 "fails" (some .boolean) d mc ms Acc AccX) (hn : Z.2.2.2.2.2.1 = 3) (hd : 1 ≤ d) (q0 : T[a0]? = some (9, m_a0)) (h : f_X9_fails_16 T M a0 = some o) (hR : Acc (some (.int o.1)) ad T o.2) : gG Z ad T M 0 0 16 [(0, .ref a0)] [] := by
  unfold f_X9_fails_16 at h
  refine g_aload_n hF 0 rfl rfl dX9_fails_16 ?_
  refine g_get_i hF fl_RX9_59 q0 dX9_fails_17 ?_
  refine g_if_eq (tgt := 27) hF dX9_fails_20 (by decide) (fun c1 => ?_) (fun c1 => ?_)
  · replace h := gif_t c1 h
    refine g_iconst (v := (0 : Int32)) hF rfl dX9_fails_27 ?_
    cases h
    exact g_ret_i hF rfl rfl dX9_fails_28 hR (Nat.zero_le _) (Nat.zero_le _)
  · replace h := gif_f c1 h
    refine g_iconst (v := (1 : Int32)) hF rfl dX9_fails_23 ?_
    refine g_goto (tgt := 28) hF dX9_fails_24 (by decide) ?_
    cases h
    exact g_ret_i hF rfl rfl dX9_fails_28 hR (Nat.zero_le _) (Nat.zero_le _)
theorem t_X9_fails {Z : gZ} {d mc ms : Nat} {Acc : Option Value → (Nat → Nat) → gT → gM → Prop} {AccX : Nat → (Nat → Nat) → gT → gM → Prop} {ad : Nat → Nat} {T : gT} {M : gM} {m_a0 : Nat} {a0 : Nat} {i1 : Int32} {i2 : Int32} {o : Int32 × gM} (hF : gFix Z cX9_fails RX9 "fails" (some .boolean) d mc ms Acc AccX) (hn : Z.2.2.2.2.2.1 = 3) (hd : 1 ≤ d) (q0 : T[a0]? = some (9, m_a0)) (h : f_X9_fails T M a0 i1 i2 = some o) (hR : Acc (some (.int o.1)) ad T o.2) : gG Z ad T M 0 0 0 [(0, .ref a0), (1, .int i1), (2, .int i2)] [] := by
  unfold f_X9_fails at h
  refine g_iload_n hF 1 rfl rfl dX9_fails_0 ?_
  refine g_if_eq (tgt := 16) hF dX9_fails_1 (by decide) (fun c2 => ?_) (fun c2 => ?_)
  · replace h := gif_t c2 h
    exact gG_sub [0] rfl (t_X9_fails_16 hF hn hd q0 h hR)
  · replace h := gif_f c2 h
    refine g_aload_n hF 0 rfl rfl dX9_fails_4 ?_
    refine g_get_i hF fl_RX9_59 q0 dX9_fails_5 ?_
    refine g_if_ne (tgt := 16) hF dX9_fails_8 (by decide) (fun c3 => ?_) (fun c3 => ?_)
    · replace h := gif_t c3 h
      exact gG_sub [0] rfl (t_X9_fails_16 hF hn hd q0 h hR)
    · replace h := gif_n c3 h
      refine g_aload_n hF 0 rfl rfl dX9_fails_11 ?_
      refine g_iload_n hF 2 rfl rfl dX9_fails_12 ?_
      refine g_put_i hF rfl rfl fl_RX9_59 q0 dX9_fails_13 ?_
      exact gG_sub [0] rfl (t_X9_fails_16 hF hn hd q0 h hR)
theorem c_X9_fails {d : Nat} {T : gT} {M : gM} {m_a0 : Nat} {a0 : Nat} {i1 : Int32} {i2 : Int32} {r : Int32 × gM} (hd : 1 ≤ d) (q0 : T[a0]? = some (9, m_a0)) (h : f_X9_fails T M a0 i1 i2 = some (r)) : gRet d yX9_fails cX9_fails 3 (some .boolean) 0 0 [.ref a0, .int i1, .int i2] T M (gSame T (some (.int r.1)) r.2) := by
  refine gRet_of (own := RX9) (by decide) rfl (Nat.le_of_ble_eq_true rfl) (fun Z ad0 hn h0 hF => ?_)
  exact t_X9_fails hF hn hd q0 h ⟨rfl, rfl, rfl, rfl⟩
theorem t_X9_in_14 {Z : gZ} {d mc ms : Nat} {Acc : Option Value → (Nat → Nat) → gT → gM → Prop} {AccX : Nat → (Nat → Nat) → gT → gM → Prop} {ad : Nat → Nat} {T : gT} {M : gM} {o : Int32} (hF : gFix Z cX9_in RX9 "in" (some .boolean) d mc ms Acc AccX) (hn : Z.2.2.2.2.2.1 = 3) (hd : 1 ≤ d)  (h : f_X9_in_14 T M  = some o) (hR : Acc (some (.int o)) ad T M) : gG Z ad T M 0 0 14 [] [] := by
  unfold f_X9_in_14 at h
  refine g_iconst (v := (0 : Int32)) hF rfl dX9_in_14 ?_
  cases h
  exact g_ret_i hF rfl rfl dX9_in_15 hR (Nat.zero_le _) (Nat.zero_le _)
theorem t_X9_in {Z : gZ} {d mc ms : Nat} {Acc : Option Value → (Nat → Nat) → gT → gM → Prop} {AccX : Nat → (Nat → Nat) → gT → gM → Prop} {ad : Nat → Nat} {T : gT} {M : gM} {i0 : Int32} {i1 : Int32} {i2 : Int32} {o : Int32} (hF : gFix Z cX9_in RX9 "in" (some .boolean) d mc ms Acc AccX) (hn : Z.2.2.2.2.2.1 = 3) (hd : 1 ≤ d)  (h : f_X9_in T M i0 i1 i2 = some o) (hR : Acc (some (.int o)) ad T M) : gG Z ad T M 0 0 0 [(0, .int i0), (1, .int i1), (2, .int i2)] [] := by
  unfold f_X9_in at h
  refine g_iload_n hF 0 rfl rfl dX9_in_0 ?_
  refine g_iload_n hF 1 rfl rfl dX9_in_1 ?_
  refine g_icmp_lt (tgt := 14) hF dX9_in_2 (by decide) (fun c1 => ?_) (fun c1 => ?_)
  · replace h := gif_t c1 h
    exact gG_sub [] rfl (t_X9_in_14 hF hn hd  h hR)
  · replace h := gif_f c1 h
    refine g_iload_n hF 0 rfl rfl dX9_in_5 ?_
    refine g_iload_n hF 2 rfl rfl dX9_in_6 ?_
    refine g_icmp_gt (tgt := 14) hF dX9_in_7 (by decide) (fun c2 => ?_) (fun c2 => ?_)
    · replace h := gif_t c2 h
      exact gG_sub [] rfl (t_X9_in_14 hF hn hd  h hR)
    · replace h := gif_f c2 h
      refine g_iconst (v := (1 : Int32)) hF rfl dX9_in_10 ?_
      refine g_goto (tgt := 15) hF dX9_in_11 (by decide) ?_
      cases h
      exact g_ret_i hF rfl rfl dX9_in_15 hR (Nat.zero_le _) (Nat.zero_le _)
theorem c_X9_in {d : Nat} {T : gT} {M : gM} {i0 : Int32} {i1 : Int32} {i2 : Int32} {r : Int32} (hd : 1 ≤ d)  (h : f_X9_in T M i0 i1 i2 = some (r)) : gRet d yX9_in cX9_in 3 (some .boolean) 0 0 [.int i0, .int i1, .int i2] T M (gSame T (some (.int r)) M) := by
  refine gRet_of (own := RX9) (by decide) rfl (Nat.le_of_ble_eq_true rfl) (fun Z ad0 hn h0 hF => ?_)
  exact t_X9_in hF hn hd  h ⟨rfl, rfl, rfl, rfl⟩
theorem t_X9_min {Z : gZ} {d mc ms : Nat} {Acc : Option Value → (Nat → Nat) → gT → gM → Prop} {AccX : Nat → (Nat → Nat) → gT → gM → Prop} {ad : Nat → Nat} {T : gT} {M : gM} {i0 : Int32} {i1 : Int32} {o : Int32} (hF : gFix Z cX9_min RX9 "min" (some .int) d mc ms Acc AccX) (hn : Z.2.2.2.2.2.1 = 2) (hd : 1 ≤ d)  (h : f_X9_min T M i0 i1 = some o) (hR : Acc (some (.int o)) ad T M) : gG Z ad T M 0 0 0 [(0, .int i0), (1, .int i1)] [] := by
  unfold f_X9_min at h
  refine g_iload_n hF 0 rfl rfl dX9_min_0 ?_
  refine g_iload_n hF 1 rfl rfl dX9_min_1 ?_
  refine g_icmp_ge (tgt := 9) hF dX9_min_2 (by decide) (fun c1 => ?_) (fun c1 => ?_)
  · replace h := gif_t c1 h
    refine g_iload_n hF 1 rfl rfl dX9_min_9 ?_
    cases h
    exact g_ret_i hF rfl rfl dX9_min_10 hR (Nat.zero_le _) (Nat.zero_le _)
  · replace h := gif_f c1 h
    refine g_iload_n hF 0 rfl rfl dX9_min_5 ?_
    refine g_goto (tgt := 10) hF dX9_min_6 (by decide) ?_
    cases h
    exact g_ret_i hF rfl rfl dX9_min_10 hR (Nat.zero_le _) (Nat.zero_le _)
theorem c_X9_min {d : Nat} {T : gT} {M : gM} {i0 : Int32} {i1 : Int32} {r : Int32} (hd : 1 ≤ d)  (h : f_X9_min T M i0 i1 = some (r)) : gRet d yX9_min cX9_min 2 (some .int) 0 0 [.int i0, .int i1] T M (gSame T (some (.int r)) M) := by
  refine gRet_of (own := RX9) (by decide) rfl (Nat.le_of_ble_eq_true rfl) (fun Z ad0 hn h0 hF => ?_)
  exact t_X9_min hF hn hd  h ⟨rfl, rfl, rfl, rfl⟩
theorem t_X9_copy_B2 {Z : gZ} {d mc ms : Nat} {Acc : Option Value → (Nat → Nat) → gT → gM → Prop} {AccX : Nat → (Nat → Nat) → gT → gM → Prop} {ad : Nat → Nat} {T : gT} {M : gM} {m_a0 m_a1 : Nat} {a0 : Nat} {a1 : Nat} {i2 : Int32} {o : (gM) ⊕ (Int32 × gM)} (hF : gFix Z cX9_copy RX9 "copy" none d mc ms Acc AccX) (hn : Z.2.2.2.2.2.1 = 3) (hd : 1 ≤ d) (q0 : T[a0]? = some (11, m_a0)) (q1 : T[a1]? = some (11, m_a1)) (h : f_X9_copy_B2 T M a0 a1 i2 = some o) (hE : ∀ e9, o = .inl e9 → gG Z ad T e9 0 0 21 [] []) (hN : ∀ n9, o = .inr n9 → gG Z ad T n9.2 0 0 2 [(0, .ref a0), (1, .ref a1), (2, .int n9.1)] []) : gG Z ad T M 0 0 2 [(0, .ref a0), (1, .ref a1), (2, .int i2)] [] := by
  unfold f_X9_copy_B2 at h
  refine g_iload_n hF 2 rfl rfl dX9_copy_2 ?_
  refine g_sipush (v := (1498 : Int32)) hF rfl dX9_copy_3 ?_
  refine g_icmp_ge (tgt := 21) hF dX9_copy_6 (by decide) (fun c1 => ?_) (fun c1 => ?_)
  · replace h := gif_t c1 h
    exact gG_sub [] rfl (hE _ (Option.some.inj h).symm)
  · replace h := gif_f c1 h
    refine g_aload_n hF 1 rfl rfl dX9_copy_9 ?_
    refine g_iload_n hF 2 rfl rfl dX9_copy_10 ?_
    refine g_aload_n hF 0 rfl rfl dX9_copy_11 ?_
    refine g_iload_n hF 2 rfl rfl dX9_copy_12 ?_
    obtain ⟨v2, h2, h⟩ := gbnd h
    obtain ⟨i2h, e2v⟩ := ald_sp q0 h2
    refine g_iald hF q0 i2h dX9_copy_13 ?_
    rw [← e2v]
    obtain ⟨M3, h3, h⟩ := gbnd h
    obtain ⟨i3h, e3v⟩ := ast_sp q1 h3
    refine g_iast hF q1 i3h dX9_copy_14 ?_
    rw [← e3v]
    refine g_iinc (n := 1) (v := (i2 + (1 : Int32))) (ls' := [(2, .int (i2 + (1 : Int32))), (0, .ref a0), (1, .ref a1)]) hF 2 rfl rfl (by rw [hn]; decide) rfl dX9_copy_15 ?_
    refine g_goto (tgt := 2) hF dX9_copy_18 (by decide) ?_
    exact gG_sub [1, 2, 0] rfl (hN _ (Option.some.inj h).symm)
theorem t_X9_copy_L2 {Z : gZ} {d mc ms : Nat} {Acc : Option Value → (Nat → Nat) → gT → gM → Prop} {AccX : Nat → (Nat → Nat) → gT → gM → Prop} {ad : Nat → Nat} {T : gT} {M : gM} {m_a0 m_a1 : Nat} {a0 : Nat} {a1 : Nat} {i2 : Int32} {o : gM} (hF : gFix Z cX9_copy RX9 "copy" none d mc ms Acc AccX) (hn : Z.2.2.2.2.2.1 = 3) (hd : 1 ≤ d) (q0 : T[a0]? = some (11, m_a0)) (q1 : T[a1]? = some (11, m_a1)) (h : gloop (fun x => f_X9_copy_B2 T x.2 a0 a1 x.1) gFU (i2, M) = some o) (hE : gG Z ad T o 0 0 21 [] []) : gG Z ad T M 0 0 2 [(0, .ref a0), (1, .ref a1), (2, .int i2)] [] := by
  refine gloop_ind (P := fun x0 : Int32 × gM => gG Z ad T x0.2 0 0 2 [(0, .ref a0), (1, .ref a1), (2, .int x0.1)] []) (e := o) (fun x0 y hy hl hr => ?_) gFU (i2, M) h
  exact t_X9_copy_B2 hF hn hd q0 q1 hy (fun e9 q9 => by rw [hl _ q9]; exact hE) (fun n9 q9 => hr n9 q9)
theorem t_X9_copy {Z : gZ} {d mc ms : Nat} {Acc : Option Value → (Nat → Nat) → gT → gM → Prop} {AccX : Nat → (Nat → Nat) → gT → gM → Prop} {ad : Nat → Nat} {T : gT} {M : gM} {m_a0 m_a1 : Nat} {a0 : Nat} {a1 : Nat} {o : gM} (hF : gFix Z cX9_copy RX9 "copy" none d mc ms Acc AccX) (hn : Z.2.2.2.2.2.1 = 3) (hd : 1 ≤ d) (q0 : T[a0]? = some (11, m_a0)) (q1 : T[a1]? = some (11, m_a1)) (h : f_X9_copy T M a0 a1 = some o) (hR : Acc none ad T o) : gG Z ad T M 0 0 0 [(0, .ref a0), (1, .ref a1)] [] := by
  unfold f_X9_copy at h
  refine g_iconst (v := (0 : Int32)) hF rfl dX9_copy_0 ?_
  refine g_istore_n (ls' := [(2, .int (0 : Int32)), (0, .ref a0), (1, .ref a1)]) hF rfl (by rw [hn]; decide) rfl dX9_copy_1 ?_
  obtain ⟨x4, h4, h⟩ := gbnd h
  refine gG_sub [1, 2, 0] rfl (t_X9_copy_L2 hF hn hd q0 q1 h4 ?_)
  cases h
  exact g_ret_v hF rfl dX9_copy_21 hR (Nat.zero_le _) (Nat.zero_le _)
theorem c_X9_copy {d : Nat} {T : gT} {M : gM} {m_a0 m_a1 : Nat} {a0 : Nat} {a1 : Nat} {r : gM} (hd : 1 ≤ d) (q0 : T[a0]? = some (11, m_a0)) (q1 : T[a1]? = some (11, m_a1)) (h : f_X9_copy T M a0 a1 = some (r)) : gRet d yX9_copy cX9_copy 3 none 0 0 [.ref a0, .ref a1] T M (gSame T none r) := by
  refine gRet_of (own := RX9) (by decide) rfl (Nat.le_of_ble_eq_true rfl) (fun Z ad0 hn h0 hF => ?_)
  exact t_X9_copy hF hn hd q0 q1 h ⟨rfl, rfl, rfl, rfl⟩
theorem t_X9_at {Z : gZ} {d mc ms : Nat} {Acc : Option Value → (Nat → Nat) → gT → gM → Prop} {AccX : Nat → (Nat → Nat) → gT → gM → Prop} {ad : Nat → Nat} {T : gT} {M : gM} {i0 : Int32} {o : Int32} (hF : gFix Z cX9_at RX9 "at" (some .int) d mc ms Acc AccX) (hn : Z.2.2.2.2.2.1 = 1) (hd : 1 ≤ d)  (h : f_X9_at T M i0 = some o) (hR : Acc (some (.int o)) ad T M) : gG Z ad T M 0 0 0 [(0, .int i0)] [] := by
  unfold f_X9_at at h
  refine g_bipush (v := (6 : Int32)) hF rfl dX9_at_0 ?_
  refine g_bipush (v := (24 : Int32)) hF rfl dX9_at_2 ?_
  refine g_iload_n hF 0 rfl rfl dX9_at_4 ?_
  refine g_imul hF dX9_at_5 ?_
  refine g_iadd hF dX9_at_6 ?_
  cases h
  exact g_ret_i hF rfl rfl dX9_at_7 hR (Nat.zero_le _) (Nat.zero_le _)
theorem c_X9_at {d : Nat} {T : gT} {M : gM} {i0 : Int32} {r : Int32} (hd : 1 ≤ d)  (h : f_X9_at T M i0 = some (r)) : gRet d yX9_at cX9_at 1 (some .int) 0 0 [.int i0] T M (gSame T (some (.int r)) M) := by
  refine gRet_of (own := RX9) (by decide) rfl (Nat.le_of_ble_eq_true rfl) (fun Z ad0 hn h0 hF => ?_)
  exact t_X9_at hF hn hd  h ⟨rfl, rfl, rfl, rfl⟩
theorem t_X9_append_76 {Z : gZ} {d mc ms : Nat} {Acc : Option Value → (Nat → Nat) → gT → gM → Prop} {AccX : Nat → (Nat → Nat) → gT → gM → Prop} {ad : Nat → Nat} {T : gT} {M : gM} {m_a0 : Nat} {a0 : Nat} {i1 : Int32} {i2 : Int32} {i3 : Int32} {i4 : Int32} {i5 : Int32} {i6 : Int32} {k0 : Int32} {o : (gM) ⊕ (Int32 × gM)} (hF : gFix Z cX9_append RX9 "append" (some .int) d mc ms Acc AccX) (hn : Z.2.2.2.2.2.1 = 8) (hd : 1 ≤ d) (q0 : T[a0]? = some (9, m_a0)) (h : f_X9_append_76 T M a0 i1 i2 i3 i4 i5 i6 k0 = some o) (hE : ∀ e9, o = .inl e9 → gG Z ad T e9 0 0 120 [(0, .ref a0)] []) (hN : ∀ n9, o = .inr n9 → gG Z ad T n9.2 0 0 23 [(0, .ref a0), (1, .int i1), (2, .int i2), (3, .int i3), (4, .int i4), (5, .int i5), (6, .int n9.1)] []) : gG Z ad T M 0 0 76 [(0, .ref a0), (1, .int i1), (2, .int i2), (3, .int i3), (4, .int i4), (5, .int i5), (6, .int i6)] [.int k0] := by
  unfold f_X9_append_76 at h
  refine g_istore (ls' := [(7, .int k0), (0, .ref a0), (1, .int i1), (2, .int i2), (3, .int i3), (4, .int i4), (5, .int i5), (6, .int i6)]) hF (by rw [hn]; decide) rfl dX9_append_76 ?_
  refine g_aload_n hF 1 rfl rfl dX9_append_78 ?_
  obtain ⟨b1, h1, h⟩ := gbnd h
  obtain ⟨g1, l1, q_b1⟩ := ldr_sp h1
  refine g_get_r hF g1 fl_RX9_9 q0 dX9_append_79 ?_
  refine g_aload_n hF 1 rfl rfl dX9_append_82 ?_
  refine g_get_i hF fl_RX9_62 q0 dX9_append_83 ?_
  refine g_iload hF 0 rfl dX9_append_86 ?_
  refine g_bipush (v := (24 : Int32)) hF rfl dX9_append_88 ?_
  refine g_bipush (v := (8 : Int32)) hF rfl dX9_append_90 ?_
  refine g_iload hF 7 rfl dX9_append_92 ?_
  refine g_iconst (v := (4 : Int32)) hF rfl dX9_append_94 ?_
  refine g_irem hF (by decide) dX9_append_95 ?_
  refine g_imul hF dX9_append_96 ?_
  refine g_isub hF dX9_append_97 ?_
  refine g_ishr hF dX9_append_98 ?_
  refine g_sipush (v := (255 : Int32)) hF rfl dX9_append_99 ?_
  refine g_iand hF dX9_append_102 ?_
  obtain ⟨M2, h2, h⟩ := gbnd h
  obtain ⟨i2h, e2v⟩ := ast_sp q_b1 h2
  refine g_iast hF q_b1 i2h dX9_append_103 ?_
  rw [← e2v]
  refine g_aload_n hF 1 rfl rfl dX9_append_104 ?_
  refine g_dup hF rfl dX9_append_105 ?_
  refine g_get_i hF fl_RX9_62 q0 dX9_append_106 ?_
  refine g_iconst (v := (1 : Int32)) hF rfl dX9_append_109 ?_
  refine g_iadd hF dX9_append_110 ?_
  refine g_put_i hF rfl rfl fl_RX9_62 q0 dX9_append_111 ?_
  refine g_iinc (n := 1) (v := (i6 + (1 : Int32))) (ls' := [(6, .int (i6 + (1 : Int32))), (7, .int k0), (0, .ref a0), (1, .int i1), (2, .int i2), (3, .int i3), (4, .int i4), (5, .int i5)]) hF 7 rfl rfl (by rw [hn]; decide) rfl dX9_append_114 ?_
  refine g_goto (tgt := 23) hF dX9_append_117 (by decide) ?_
  exact gG_sub [2, 3, 4, 5, 6, 7, 0] rfl (hN _ (Option.some.inj h).symm)
theorem t_X9_append_B23 {Z : gZ} {d mc ms : Nat} {Acc : Option Value → (Nat → Nat) → gT → gM → Prop} {AccX : Nat → (Nat → Nat) → gT → gM → Prop} {ad : Nat → Nat} {T : gT} {M : gM} {m_a0 : Nat} {a0 : Nat} {i1 : Int32} {i2 : Int32} {i3 : Int32} {i4 : Int32} {i5 : Int32} {i6 : Int32} {o : (gM) ⊕ (Int32 × gM)} (hF : gFix Z cX9_append RX9 "append" (some .int) d mc ms Acc AccX) (hn : Z.2.2.2.2.2.1 = 8) (hd : 1 ≤ d) (q0 : T[a0]? = some (9, m_a0)) (h : f_X9_append_B23 T M a0 i1 i2 i3 i4 i5 i6 = some o) (hE : ∀ e9, o = .inl e9 → gG Z ad T e9 0 0 120 [(0, .ref a0)] []) (hN : ∀ n9, o = .inr n9 → gG Z ad T n9.2 0 0 23 [(0, .ref a0), (1, .int i1), (2, .int i2), (3, .int i3), (4, .int i4), (5, .int i5), (6, .int n9.1)] []) : gG Z ad T M 0 0 23 [(0, .ref a0), (1, .int i1), (2, .int i2), (3, .int i3), (4, .int i4), (5, .int i5), (6, .int i6)] [] := by
  unfold f_X9_append_B23 at h
  refine g_iload hF 6 rfl dX9_append_23 ?_
  refine g_bipush (v := (20 : Int32)) hF rfl dX9_append_25 ?_
  refine g_icmp_ge (tgt := 120) hF dX9_append_27 (by decide) (fun c3 => ?_) (fun c3 => ?_)
  · replace h := gif_t c3 h
    exact gG_sub [0] rfl (hE _ (Option.some.inj h).symm)
  · replace h := gif_f c3 h
    refine g_iload hF 6 rfl dX9_append_30 ?_
    refine g_iconst (v := (4 : Int32)) hF rfl dX9_append_32 ?_
    refine g_icmp_ge (tgt := 40) hF dX9_append_33 (by decide) (fun c4 => ?_) (fun c4 => ?_)
    · replace h := gif_t c4 h
      refine g_iload hF 6 rfl dX9_append_40 ?_
      refine g_bipush (v := (8 : Int32)) hF rfl dX9_append_42 ?_
      refine g_icmp_ge (tgt := 51) hF dX9_append_44 (by decide) (fun c5 => ?_) (fun c5 => ?_)
      · replace h := gif_t c5 h
        refine g_iload hF 6 rfl dX9_append_51 ?_
        refine g_bipush (v := (12 : Int32)) hF rfl dX9_append_53 ?_
        refine g_icmp_ge (tgt := 62) hF dX9_append_55 (by decide) (fun c6 => ?_) (fun c6 => ?_)
        · replace h := gif_t c6 h
          refine g_iload hF 6 rfl dX9_append_62 ?_
          refine g_bipush (v := (16 : Int32)) hF rfl dX9_append_64 ?_
          refine g_icmp_ge (tgt := 74) hF dX9_append_66 (by decide) (fun c7 => ?_) (fun c7 => ?_)
          · replace h := gif_t c7 h
            refine g_iload hF 5 rfl dX9_append_74 ?_
            exact gG_sub [0, 1, 2, 3, 4, 5, 6] rfl (t_X9_append_76 hF hn hd q0 h hE hN)
          · replace h := gif_f c7 h
            refine g_iload hF 4 rfl dX9_append_69 ?_
            refine g_goto (tgt := 76) hF dX9_append_71 (by decide) ?_
            exact gG_sub [0, 1, 2, 3, 4, 5, 6] rfl (t_X9_append_76 hF hn hd q0 h hE hN)
        · replace h := gif_f c6 h
          refine g_iload_n hF 3 rfl rfl dX9_append_58 ?_
          refine g_goto (tgt := 76) hF dX9_append_59 (by decide) ?_
          exact gG_sub [0, 1, 2, 3, 4, 5, 6] rfl (t_X9_append_76 hF hn hd q0 h hE hN)
      · replace h := gif_f c5 h
        refine g_iload_n hF 2 rfl rfl dX9_append_47 ?_
        refine g_goto (tgt := 76) hF dX9_append_48 (by decide) ?_
        exact gG_sub [0, 1, 2, 3, 4, 5, 6] rfl (t_X9_append_76 hF hn hd q0 h hE hN)
    · replace h := gif_f c4 h
      refine g_iload_n hF 1 rfl rfl dX9_append_36 ?_
      refine g_goto (tgt := 76) hF dX9_append_37 (by decide) ?_
      exact gG_sub [0, 1, 2, 3, 4, 5, 6] rfl (t_X9_append_76 hF hn hd q0 h hE hN)
theorem t_X9_append_L23 {Z : gZ} {d mc ms : Nat} {Acc : Option Value → (Nat → Nat) → gT → gM → Prop} {AccX : Nat → (Nat → Nat) → gT → gM → Prop} {ad : Nat → Nat} {T : gT} {M : gM} {m_a0 : Nat} {a0 : Nat} {i1 : Int32} {i2 : Int32} {i3 : Int32} {i4 : Int32} {i5 : Int32} {i6 : Int32} {o : gM} (hF : gFix Z cX9_append RX9 "append" (some .int) d mc ms Acc AccX) (hn : Z.2.2.2.2.2.1 = 8) (hd : 1 ≤ d) (q0 : T[a0]? = some (9, m_a0)) (h : gloop (fun x => f_X9_append_B23 T x.2 a0 i1 i2 i3 i4 i5 x.1) gFU (i6, M) = some o) (hE : gG Z ad T o 0 0 120 [(0, .ref a0)] []) : gG Z ad T M 0 0 23 [(0, .ref a0), (1, .int i1), (2, .int i2), (3, .int i3), (4, .int i4), (5, .int i5), (6, .int i6)] [] := by
  refine gloop_ind (P := fun x0 : Int32 × gM => gG Z ad T x0.2 0 0 23 [(0, .ref a0), (1, .int i1), (2, .int i2), (3, .int i3), (4, .int i4), (5, .int i5), (6, .int x0.1)] []) (e := o) (fun x0 y hy hl hr => ?_) gFU (i6, M) h
  exact t_X9_append_B23 hF hn hd q0 hy (fun e9 q9 => by rw [hl _ q9]; exact hE) (fun n9 q9 => hr n9 q9)
theorem t_X9_append {Z : gZ} {d mc ms : Nat} {Acc : Option Value → (Nat → Nat) → gT → gM → Prop} {AccX : Nat → (Nat → Nat) → gT → gM → Prop} {ad : Nat → Nat} {T : gT} {M : gM} {m_a0 : Nat} {a0 : Nat} {i1 : Int32} {i2 : Int32} {i3 : Int32} {i4 : Int32} {i5 : Int32} {o : Int32 × gM} (hF : gFix Z cX9_append RX9 "append" (some .int) d mc ms Acc AccX) (hn : Z.2.2.2.2.2.1 = 8) (hd : 1 ≤ d) (q0 : T[a0]? = some (9, m_a0)) (h : f_X9_append T M a0 i1 i2 i3 i4 i5 = some o) (hR : Acc (some (.int o.1)) ad T o.2) : gG Z ad T M 0 0 0 [(0, .ref a0), (1, .int i1), (2, .int i2), (3, .int i3), (4, .int i4), (5, .int i5)] [] := by
  unfold f_X9_append at h
  refine g_aload_n hF 0 rfl rfl dX9_append_0 ?_
  refine g_iconst (v := (0 : Int32)) hF rfl dX9_append_1 ?_
  refine g_put_i hF rfl rfl fl_RX9_59 q0 dX9_append_2 ?_
  refine g_aload_n hF 0 rfl rfl dX9_append_5 ?_
  refine g_get_i hF fl_RX9_62 q0 dX9_append_6 ?_
  refine g_bipush (v := (20 : Int32)) hF rfl dX9_append_9 ?_
  refine g_iadd hF dX9_append_11 ?_
  refine g_sipush (v := (800 : Int32)) hF rfl dX9_append_12 ?_
  refine g_icmp_le (tgt := 20) hF dX9_append_15 (by decide) (fun c8 => ?_) (fun c8 => ?_)
  · replace h := gif_t c8 h
    refine g_iconst (v := (0 : Int32)) hF rfl dX9_append_20 ?_
    refine g_istore (ls' := [(6, .int (0 : Int32)), (0, .ref a0), (1, .int i1), (2, .int i2), (3, .int i3), (4, .int i4), (5, .int i5)]) hF (by rw [hn]; decide) rfl dX9_append_21 ?_
    obtain ⟨x9, h9, h⟩ := gbnd h
    refine gG_sub [1, 2, 3, 4, 5, 6, 0] rfl (t_X9_append_L23 hF hn hd q0 h9 ?_)
    refine g_aload_n hF 0 rfl rfl dX9_append_120 ?_
    refine g_get_i hF fl_RX9_62 q0 dX9_append_121 ?_
    cases h
    exact g_ret_i hF rfl rfl dX9_append_124 hR (Nat.zero_le _) (Nat.zero_le _)
  · replace h := gif_f c8 h
    refine g_iconst (v := (-1 : Int32)) hF rfl dX9_append_18 ?_
    cases h
    exact g_ret_i hF rfl rfl dX9_append_19 hR (Nat.zero_le _) (Nat.zero_le _)
theorem c_X9_append {d : Nat} {T : gT} {M : gM} {m_a0 : Nat} {a0 : Nat} {i1 : Int32} {i2 : Int32} {i3 : Int32} {i4 : Int32} {i5 : Int32} {r : Int32 × gM} (hd : 1 ≤ d) (q0 : T[a0]? = some (9, m_a0)) (h : f_X9_append T M a0 i1 i2 i3 i4 i5 = some (r)) : gRet d yX9_append cX9_append 8 (some .int) 0 0 [.ref a0, .int i1, .int i2, .int i3, .int i4, .int i5] T M (gSame T (some (.int r.1)) r.2) := by
  refine gRet_of (own := RX9) (by decide) rfl (Nat.le_of_ble_eq_true rfl) (fun Z ad0 hn h0 hF => ?_)
  exact t_X9_append hF hn hd q0 h ⟨rfl, rfl, rfl, rfl⟩
theorem t_X9_byteAt {Z : gZ} {d mc ms : Nat} {Acc : Option Value → (Nat → Nat) → gT → gM → Prop} {AccX : Nat → (Nat → Nat) → gT → gM → Prop} {ad : Nat → Nat} {T : gT} {M : gM} {m_a0 : Nat} {a0 : Nat} {i1 : Int32} {o : Int32} (hF : gFix Z cX9_byteAt RX9 "byteAt" (some .int) d mc ms Acc AccX) (hn : Z.2.2.2.2.2.1 = 2) (hd : 1 ≤ d) (q0 : T[a0]? = some (9, m_a0)) (h : f_X9_byteAt T M a0 i1 = some o) (hR : Acc (some (.int o)) ad T M) : gG Z ad T M 0 0 0 [(0, .ref a0), (1, .int i1)] [] := by
  unfold f_X9_byteAt at h
  refine g_iload_n hF 1 rfl rfl dX9_byteAt_0 ?_
  refine g_aload_n hF 0 rfl rfl dX9_byteAt_1 ?_
  refine g_get_i hF fl_RX9_65 q0 dX9_byteAt_2 ?_
  refine g_icmp_ge (tgt := 17) hF dX9_byteAt_5 (by decide) (fun c1 => ?_) (fun c1 => ?_)
  · replace h := gif_t c1 h
    refine g_iconst (v := (-1 : Int32)) hF rfl dX9_byteAt_17 ?_
    cases h
    exact g_ret_i hF rfl rfl dX9_byteAt_18 hR (Nat.zero_le _) (Nat.zero_le _)
  · replace h := gif_f c1 h
    refine g_aload_n hF 0 rfl rfl dX9_byteAt_8 ?_
    obtain ⟨b2, h2, h⟩ := gbnd h
    obtain ⟨g2, l2, q_b2⟩ := ldr_sp h2
    refine g_get_r hF g2 fl_RX9_9 q0 dX9_byteAt_9 ?_
    refine g_iload_n hF 1 rfl rfl dX9_byteAt_12 ?_
    obtain ⟨v3, h3, h⟩ := gbnd h
    obtain ⟨i3h, e3v⟩ := ald_sp q_b2 h3
    refine g_iald hF q_b2 i3h dX9_byteAt_13 ?_
    rw [← e3v]
    refine g_goto (tgt := 18) hF dX9_byteAt_14 (by decide) ?_
    cases h
    exact g_ret_i hF rfl rfl dX9_byteAt_18 hR (Nat.zero_le _) (Nat.zero_le _)
theorem c_X9_byteAt {d : Nat} {T : gT} {M : gM} {m_a0 : Nat} {a0 : Nat} {i1 : Int32} {r : Int32} (hd : 1 ≤ d) (q0 : T[a0]? = some (9, m_a0)) (h : f_X9_byteAt T M a0 i1 = some (r)) : gRet d yX9_byteAt cX9_byteAt 2 (some .int) 0 0 [.ref a0, .int i1] T M (gSame T (some (.int r)) M) := by
  refine gRet_of (own := RX9) (by decide) rfl (Nat.le_of_ble_eq_true rfl) (fun Z ad0 hn h0 hF => ?_)
  exact t_X9_byteAt hF hn hd q0 h ⟨rfl, rfl, rfl, rfl⟩
theorem t_X9_next_B0 {Z : gZ} {d mc ms : Nat} {Acc : Option Value → (Nat → Nat) → gT → gM → Prop} {AccX : Nat → (Nat → Nat) → gT → gM → Prop} {ad : Nat → Nat} {T : gT} {M : gM} {m_a0 : Nat} {a0 : Nat} {o : (gM) ⊕ (gM)} (hF : gFix Z cX9_next RX9 "next" (some .int) d mc ms Acc AccX) (hn : Z.2.2.2.2.2.1 = 1) (hd : 2 ≤ d) (q0 : T[a0]? = some (9, m_a0)) (h : f_X9_next_B0 T M a0 = some o) (hE : ∀ e9, o = .inl e9 → gG Z ad T e9 0 0 26 [(0, .ref a0)] []) (hN : ∀ n9, o = .inr n9 → gG Z ad T n9 0 0 0 [(0, .ref a0)] []) : gG Z ad T M 0 0 0 [(0, .ref a0)] [] := by
  unfold f_X9_next_B0 at h
  refine g_aload_n hF 0 rfl rfl dX9_next_0 ?_
  refine g_aload_n hF 0 rfl rfl dX9_next_1 ?_
  refine g_get_i hF fl_RX9_68 q0 dX9_next_2 ?_
  obtain ⟨x1, h1, h⟩ := gbnd h
  refine g_callV hF my_X9_byteAt kw_1203 kw_1205 kw_68 gC_9.1 (by decide) q0 (c_X9_byteAt (d := d - 1) (by omega) q0 h1) (by omega) (Nat.zero_le _) (Nat.zero_le _) rfl rfl (Nat.le_of_ble_eq_true rfl) dX9_next_5 (g_sameS ?_)
  refine g_bipush (v := (32 : Int32)) hF rfl dX9_next_8 ?_
  refine g_icmp_ne (tgt := 26) hF dX9_next_10 (by decide) (fun c2 => ?_) (fun c2 => ?_)
  · replace h := gif_t c2 h
    exact gG_sub [0] rfl (hE _ (Option.some.inj h).symm)
  · replace h := gif_n c2 h
    refine g_aload_n hF 0 rfl rfl dX9_next_13 ?_
    refine g_dup hF rfl dX9_next_14 ?_
    refine g_get_i hF fl_RX9_68 q0 dX9_next_15 ?_
    refine g_iconst (v := (1 : Int32)) hF rfl dX9_next_18 ?_
    refine g_iadd hF dX9_next_19 ?_
    refine g_put_i hF rfl rfl fl_RX9_68 q0 dX9_next_20 ?_
    refine g_goto (tgt := 0) hF dX9_next_23 (by decide) ?_
    exact gG_sub [0] rfl (hN _ (Option.some.inj h).symm)
theorem t_X9_next_L0 {Z : gZ} {d mc ms : Nat} {Acc : Option Value → (Nat → Nat) → gT → gM → Prop} {AccX : Nat → (Nat → Nat) → gT → gM → Prop} {ad : Nat → Nat} {T : gT} {M : gM} {m_a0 : Nat} {a0 : Nat} {o : gM} (hF : gFix Z cX9_next RX9 "next" (some .int) d mc ms Acc AccX) (hn : Z.2.2.2.2.2.1 = 1) (hd : 2 ≤ d) (q0 : T[a0]? = some (9, m_a0)) (h : gloop (fun x => f_X9_next_B0 T x a0) gFU M = some o) (hE : gG Z ad T o 0 0 26 [(0, .ref a0)] []) : gG Z ad T M 0 0 0 [(0, .ref a0)] [] := by
  refine gloop_ind (P := fun x0 : gM => gG Z ad T x0 0 0 0 [(0, .ref a0)] []) (e := o) (fun x0 y hy hl hr => ?_) gFU M h
  exact t_X9_next_B0 hF hn hd q0 hy (fun e9 q9 => by rw [hl _ q9]; exact hE) (fun n9 q9 => hr n9 q9)
theorem t_X9_next {Z : gZ} {d mc ms : Nat} {Acc : Option Value → (Nat → Nat) → gT → gM → Prop} {AccX : Nat → (Nat → Nat) → gT → gM → Prop} {ad : Nat → Nat} {T : gT} {M : gM} {m_a0 : Nat} {a0 : Nat} {o : Int32 × gM} (hF : gFix Z cX9_next RX9 "next" (some .int) d mc ms Acc AccX) (hn : Z.2.2.2.2.2.1 = 1) (hd : 2 ≤ d) (q0 : T[a0]? = some (9, m_a0)) (h : f_X9_next T M a0 = some o) (hR : Acc (some (.int o.1)) ad T o.2) : gG Z ad T M 0 0 0 [(0, .ref a0)] [] := by
  unfold f_X9_next at h
  obtain ⟨x3, h3, h⟩ := gbnd h
  refine gG_sub [0] rfl (t_X9_next_L0 hF hn hd q0 h3 ?_)
  refine g_aload_n hF 0 rfl rfl dX9_next_26 ?_
  refine g_aload_n hF 0 rfl rfl dX9_next_27 ?_
  refine g_get_i hF fl_RX9_68 q0 dX9_next_28 ?_
  obtain ⟨x4, h4, h⟩ := gbnd h
  refine g_callV hF my_X9_byteAt kw_1203 kw_1205 kw_68 gC_9.1 (by decide) q0 (c_X9_byteAt (d := d - 1) (by omega) q0 h4) (by omega) (Nat.zero_le _) (Nat.zero_le _) rfl rfl (Nat.le_of_ble_eq_true rfl) dX9_next_31 (g_sameS ?_)
  cases h
  exact g_ret_i hF rfl rfl dX9_next_34 hR (Nat.zero_le _) (Nat.zero_le _)
theorem c_X9_next {d : Nat} {T : gT} {M : gM} {m_a0 : Nat} {a0 : Nat} {r : Int32 × gM} (hd : 2 ≤ d) (q0 : T[a0]? = some (9, m_a0)) (h : f_X9_next T M a0 = some (r)) : gRet d yX9_next cX9_next 1 (some .int) 0 0 [.ref a0] T M (gSame T (some (.int r.1)) r.2) := by
  refine gRet_of (own := RX9) (by decide) rfl (Nat.le_of_ble_eq_true rfl) (fun Z ad0 hn h0 hF => ?_)
  exact t_X9_next hF hn hd q0 h ⟨rfl, rfl, rfl, rfl⟩
theorem t_X9_isGood {Z : gZ} {d mc ms : Nat} {Acc : Option Value → (Nat → Nat) → gT → gM → Prop} {AccX : Nat → (Nat → Nat) → gT → gM → Prop} {ad : Nat → Nat} {T : gT} {M : gM} {m_a0 : Nat} {a0 : Nat} {o : Int32} (hF : gFix Z cX9_isGood RX9 "isGood" (some .boolean) d mc ms Acc AccX) (hn : Z.2.2.2.2.2.1 = 1) (hd : 1 ≤ d) (q0 : T[a0]? = some (9, m_a0)) (h : f_X9_isGood T M a0 = some o) (hR : Acc (some (.int o)) ad T M) : gG Z ad T M 0 0 0 [(0, .ref a0)] [] := by
  unfold f_X9_isGood at h
  refine g_aload_n hF 0 rfl rfl dX9_isGood_0 ?_
  refine g_get_i hF fl_RX9_75 q0 dX9_isGood_1 ?_
  refine g_if_ne (tgt := 11) hF dX9_isGood_4 (by decide) (fun c1 => ?_) (fun c1 => ?_)
  · replace h := gif_t c1 h
    refine g_iconst (v := (0 : Int32)) hF rfl dX9_isGood_11 ?_
    cases h
    exact g_ret_i hF rfl rfl dX9_isGood_12 hR (Nat.zero_le _) (Nat.zero_le _)
  · replace h := gif_n c1 h
    refine g_iconst (v := (1 : Int32)) hF rfl dX9_isGood_7 ?_
    refine g_goto (tgt := 12) hF dX9_isGood_8 (by decide) ?_
    cases h
    exact g_ret_i hF rfl rfl dX9_isGood_12 hR (Nat.zero_le _) (Nat.zero_le _)
theorem c_X9_isGood {d : Nat} {T : gT} {M : gM} {m_a0 : Nat} {a0 : Nat} {r : Int32} (hd : 1 ≤ d) (q0 : T[a0]? = some (9, m_a0)) (h : f_X9_isGood T M a0 = some (r)) : gRet d yX9_isGood cX9_isGood 1 (some .boolean) 0 0 [.ref a0] T M (gSame T (some (.int r)) M) := by
  refine gRet_of (own := RX9) (by decide) rfl (Nat.le_of_ble_eq_true rfl) (fun Z ad0 hn h0 hF => ?_)
  exact t_X9_isGood hF hn hd q0 h ⟨rfl, rfl, rfl, rfl⟩
theorem t_X9_report {Z : gZ} {d mc ms : Nat} {Acc : Option Value → (Nat → Nat) → gT → gM → Prop} {AccX : Nat → (Nat → Nat) → gT → gM → Prop} {ad : Nat → Nat} {T : gT} {M : gM} {m_a0 : Nat} {a0 : Nat} {i1 : Int32} {i2 : Int32} {o : gM} (hF : gFix Z cX9_report RX9 "report" none d mc ms Acc AccX) (hn : Z.2.2.2.2.2.1 = 3) (hd : 1 ≤ d) (q0 : T[a0]? = some (9, m_a0)) (h : f_X9_report T M a0 i1 i2 = some o) (hR : Acc none ad T o) : gG Z ad T M 0 0 0 [(0, .ref a0), (1, .int i1), (2, .int i2)] [] := by
  unfold f_X9_report at h
  refine g_aload_n hF 0 rfl rfl dX9_report_0 ?_
  refine g_get_i hF fl_RX9_75 q0 dX9_report_1 ?_
  refine g_if_eq (tgt := 8) hF dX9_report_4 (by decide) (fun c1 => ?_) (fun c1 => ?_)
  · replace h := gif_t c1 h
    refine g_aload_n hF 0 rfl rfl dX9_report_8 ?_
    refine g_iload_n hF 1 rfl rfl dX9_report_9 ?_
    refine g_put_i hF rfl rfl fl_RX9_75 q0 dX9_report_10 ?_
    refine g_aload_n hF 0 rfl rfl dX9_report_13 ?_
    refine g_iload_n hF 2 rfl rfl dX9_report_14 ?_
    refine g_put_i hF rfl rfl fl_RX9_78 q0 dX9_report_15 ?_
    cases h
    exact g_ret_v hF rfl dX9_report_18 hR (Nat.zero_le _) (Nat.zero_le _)
  · replace h := gif_f c1 h
    cases h
    exact g_ret_v hF rfl dX9_report_7 hR (Nat.zero_le _) (Nat.zero_le _)
theorem c_X9_report {d : Nat} {T : gT} {M : gM} {m_a0 : Nat} {a0 : Nat} {i1 : Int32} {i2 : Int32} {r : gM} (hd : 1 ≤ d) (q0 : T[a0]? = some (9, m_a0)) (h : f_X9_report T M a0 i1 i2 = some (r)) : gRet d yX9_report cX9_report 3 none 0 0 [.ref a0, .int i1, .int i2] T M (gSame T none r) := by
  refine gRet_of (own := RX9) (by decide) rfl (Nat.le_of_ble_eq_true rfl) (fun Z ad0 hn h0 hF => ?_)
  exact t_X9_report hF hn hd q0 h ⟨rfl, rfl, rfl, rfl⟩
theorem t_X9_isDigit {Z : gZ} {d mc ms : Nat} {Acc : Option Value → (Nat → Nat) → gT → gM → Prop} {AccX : Nat → (Nat → Nat) → gT → gM → Prop} {ad : Nat → Nat} {T : gT} {M : gM} {i0 : Int32} {o : Int32} (hF : gFix Z cX9_isDigit RX9 "isDigit" (some .boolean) d mc ms Acc AccX) (hn : Z.2.2.2.2.2.1 = 1) (hd : 2 ≤ d)  (h : f_X9_isDigit T M i0 = some o) (hR : Acc (some (.int o)) ad T M) : gG Z ad T M 0 0 0 [(0, .int i0)] [] := by
  unfold f_X9_isDigit at h
  refine g_iload_n hF 0 rfl rfl dX9_isDigit_0 ?_
  refine g_bipush (v := (48 : Int32)) hF rfl dX9_isDigit_1 ?_
  refine g_bipush (v := (57 : Int32)) hF rfl dX9_isDigit_3 ?_
  obtain ⟨x1, h1, h⟩ := gbnd h
  refine g_callS hF my_X9_in kw_1183 kw_1184 (c_X9_in (d := d - 1) (by omega)  h1) (by omega) (Nat.zero_le _) (Nat.zero_le _) rfl rfl (Nat.le_of_ble_eq_true rfl) dX9_isDigit_5 (g_sameS ?_)
  obtain ⟨_, h2, h⟩ := gbnd h
  cases h
  exact g_ret_i hF rfl (gbool (chk_sp h2)) dX9_isDigit_8 hR (Nat.zero_le _) (Nat.zero_le _)
theorem c_X9_isDigit {d : Nat} {T : gT} {M : gM} {i0 : Int32} {r : Int32} (hd : 2 ≤ d)  (h : f_X9_isDigit T M i0 = some (r)) : gRet d yX9_isDigit cX9_isDigit 1 (some .boolean) 0 0 [.int i0] T M (gSame T (some (.int r)) M) := by
  refine gRet_of (own := RX9) (by decide) rfl (Nat.le_of_ble_eq_true rfl) (fun Z ad0 hn h0 hF => ?_)
  exact t_X9_isDigit hF hn hd  h ⟨rfl, rfl, rfl, rfl⟩
theorem t_X9_takeWord_B16 {Z : gZ} {d mc ms : Nat} {Acc : Option Value → (Nat → Nat) → gT → gM → Prop} {AccX : Nat → (Nat → Nat) → gT → gM → Prop} {ad : Nat → Nat} {T : gT} {M : gM} {m_a0 : Nat} {a0 : Nat} {s1 : Nat} {i2 : Int32} {o : (Int32) ⊕ (Int32)} (hF : gFix Z cX9_takeWord RX9 "takeWord" (some .boolean) d mc ms Acc AccX) (hn : Z.2.2.2.2.2.1 = 3) (hd : 4 ≤ d) (q0 : T[a0]? = some (9, m_a0)) (h : f_X9_takeWord_B16 T M a0 s1 i2 = some o) (hE : ∀ e9, o = .inl e9 → gG Z ad T M 0 0 48 [(0, .ref a0), (1, .ref (gSB + s1)), (2, .int e9)] []) (hN : ∀ n9, o = .inr n9 → gG Z ad T M 0 0 16 [(0, .ref a0), (1, .ref (gSB + s1)), (2, .int n9)] []) : gG Z ad T M 0 0 16 [(0, .ref a0), (1, .ref (gSB + s1)), (2, .int i2)] [] := by
  unfold f_X9_takeWord_B16 at h
  refine g_iload_n hF 2 rfl rfl dX9_takeWord_16 ?_
  refine g_aload_n hF 1 rfl rfl dX9_takeWord_17 ?_
  obtain ⟨v1, h1, h⟩ := gbnd h
  refine g_callVSt hF my_J0_length kw_1207 kw_729 kw_730 (slen_sp h1).1 rfl (c_slen (d := d - 1) h1 (by omega)) (by omega) (Nat.zero_le _) (Nat.zero_le _) rfl rfl (Nat.le_of_ble_eq_true rfl) dX9_takeWord_18 (g_sameS ?_)
  refine g_icmp_ge (tgt := 48) hF dX9_takeWord_21 (by decide) (fun c2 => ?_) (fun c2 => ?_)
  · replace h := gif_t c2 h
    exact gG_sub [0, 1, 2] rfl (hE _ (Option.some.inj h).symm)
  · replace h := gif_f c2 h
    refine g_aload_n hF 0 rfl rfl dX9_takeWord_24 ?_
    refine g_aload_n hF 0 rfl rfl dX9_takeWord_25 ?_
    refine g_get_i hF fl_RX9_68 q0 dX9_takeWord_26 ?_
    refine g_iload_n hF 2 rfl rfl dX9_takeWord_29 ?_
    refine g_iadd hF dX9_takeWord_30 ?_
    obtain ⟨x3, h3, h⟩ := gbnd h
    refine g_callV hF my_X9_byteAt kw_1203 kw_1205 kw_68 gC_9.1 (by decide) q0 (c_X9_byteAt (d := d - 1) (by omega) q0 h3) (by omega) (Nat.zero_le _) (Nat.zero_le _) rfl rfl (Nat.le_of_ble_eq_true rfl) dX9_takeWord_31 (g_sameS ?_)
    refine g_aload_n hF 1 rfl rfl dX9_takeWord_34 ?_
    refine g_iload_n hF 2 rfl rfl dX9_takeWord_35 ?_
    obtain ⟨v4, h4, h⟩ := gbnd h
    refine g_callVSt hF my_J0_charAt kw_1208 kw_739 kw_740 (sch_sp h4).1 rfl (c_sch (d := d - 1) h4 (by omega)) (by omega) (Nat.zero_le _) (Nat.zero_le _) rfl rfl (Nat.le_of_ble_eq_true rfl) dX9_takeWord_36 (g_sameS ?_)
    refine g_icmp_ne (tgt := 48) hF dX9_takeWord_39 (by decide) (fun c5 => ?_) (fun c5 => ?_)
    · replace h := gif_t c5 h
      exact gG_sub [0, 1, 2] rfl (hE _ (Option.some.inj h).symm)
    · replace h := gif_n c5 h
      refine g_iinc (n := 1) (v := (i2 + (1 : Int32))) (ls' := [(2, .int (i2 + (1 : Int32))), (0, .ref a0), (1, .ref (gSB + s1))]) hF 2 rfl rfl (by rw [hn]; decide) rfl dX9_takeWord_42 ?_
      refine g_goto (tgt := 16) hF dX9_takeWord_45 (by decide) ?_
      exact gG_sub [1, 2, 0] rfl (hN _ (Option.some.inj h).symm)
theorem t_X9_takeWord_L16 {Z : gZ} {d mc ms : Nat} {Acc : Option Value → (Nat → Nat) → gT → gM → Prop} {AccX : Nat → (Nat → Nat) → gT → gM → Prop} {ad : Nat → Nat} {T : gT} {M : gM} {m_a0 : Nat} {a0 : Nat} {s1 : Nat} {i2 : Int32} {o : Int32} (hF : gFix Z cX9_takeWord RX9 "takeWord" (some .boolean) d mc ms Acc AccX) (hn : Z.2.2.2.2.2.1 = 3) (hd : 4 ≤ d) (q0 : T[a0]? = some (9, m_a0)) (h : gloop (fun x => f_X9_takeWord_B16 T M a0 s1 x) gFU i2 = some o) (hE : gG Z ad T M 0 0 48 [(0, .ref a0), (1, .ref (gSB + s1)), (2, .int o)] []) : gG Z ad T M 0 0 16 [(0, .ref a0), (1, .ref (gSB + s1)), (2, .int i2)] [] := by
  refine gloop_ind (P := fun x0 : Int32 => gG Z ad T M 0 0 16 [(0, .ref a0), (1, .ref (gSB + s1)), (2, .int x0)] []) (e := o) (fun x0 y hy hl hr => ?_) gFU i2 h
  exact t_X9_takeWord_B16 hF hn hd q0 hy (fun e9 q9 => by rw [hl _ q9]; exact hE) (fun n9 q9 => hr n9 q9)
theorem t_X9_takeWord {Z : gZ} {d mc ms : Nat} {Acc : Option Value → (Nat → Nat) → gT → gM → Prop} {AccX : Nat → (Nat → Nat) → gT → gM → Prop} {ad : Nat → Nat} {T : gT} {M : gM} {m_a0 : Nat} {a0 : Nat} {s1 : Nat} {o : Int32 × gM} (hF : gFix Z cX9_takeWord RX9 "takeWord" (some .boolean) d mc ms Acc AccX) (hn : Z.2.2.2.2.2.1 = 3) (hd : 4 ≤ d) (q0 : T[a0]? = some (9, m_a0)) (h : f_X9_takeWord T M a0 s1 = some o) (hR : Acc (some (.int o.1)) ad T o.2) : gG Z ad T M 0 0 0 [(0, .ref a0), (1, .ref (gSB + s1))] [] := by
  unfold f_X9_takeWord at h
  refine g_aload_n hF 0 rfl rfl dX9_takeWord_0 ?_
  obtain ⟨x6, h6, h⟩ := gbnd h
  refine g_callV hF my_X9_isGood kw_1195 kw_1197 kw_66 gC_9.1 (by decide) q0 (c_X9_isGood (d := d - 1) (by omega) q0 h6) (by omega) (Nat.zero_le _) (Nat.zero_le _) rfl rfl (Nat.le_of_ble_eq_true rfl) dX9_takeWord_1 (g_sameS ?_)
  refine g_if_ne (tgt := 9) hF dX9_takeWord_4 (by decide) (fun c7 => ?_) (fun c7 => ?_)
  · replace h := gif_t c7 h
    refine g_aload_n hF 0 rfl rfl dX9_takeWord_9 ?_
    obtain ⟨x8, h8, h⟩ := gbnd h
    refine g_callV hF my_X9_next kw_1199 kw_1201 kw_67 gC_9.1 (by decide) q0 (c_X9_next (d := d - 1) (by omega) q0 h8) (by omega) (Nat.zero_le _) (Nat.zero_le _) rfl rfl (Nat.le_of_ble_eq_true rfl) dX9_takeWord_10 (g_sameS ?_)
    refine g_pop hF rfl dX9_takeWord_13 ?_
    refine g_iconst (v := (0 : Int32)) hF rfl dX9_takeWord_14 ?_
    refine g_istore_n (ls' := [(2, .int (0 : Int32)), (0, .ref a0), (1, .ref (gSB + s1))]) hF rfl (by rw [hn]; decide) rfl dX9_takeWord_15 ?_
    obtain ⟨x9, h9, h⟩ := gbnd h
    refine gG_sub [1, 2, 0] rfl (t_X9_takeWord_L16 hF hn hd q0 h9 ?_)
    refine g_iload_n hF 2 rfl rfl dX9_takeWord_48 ?_
    refine g_aload_n hF 1 rfl rfl dX9_takeWord_49 ?_
    obtain ⟨v10, h10, h⟩ := gbnd h
    refine g_callVSt hF my_J0_length kw_1207 kw_729 kw_730 (slen_sp h10).1 rfl (c_slen (d := d - 1) h10 (by omega)) (by omega) (Nat.zero_le _) (Nat.zero_le _) rfl rfl (Nat.le_of_ble_eq_true rfl) dX9_takeWord_50 (g_sameS ?_)
    refine g_icmp_lt (tgt := 76) hF dX9_takeWord_53 (by decide) (fun c11 => ?_) (fun c11 => ?_)
    · replace h := gif_t c11 h
      refine g_iconst (v := (0 : Int32)) hF rfl dX9_takeWord_76 ?_
      cases h
      exact g_ret_i hF rfl rfl dX9_takeWord_77 hR (Nat.zero_le _) (Nat.zero_le _)
    · replace h := gif_f c11 h
      refine g_aload_n hF 0 rfl rfl dX9_takeWord_56 ?_
      refine g_aload_n hF 0 rfl rfl dX9_takeWord_57 ?_
      refine g_get_i hF fl_RX9_68 q0 dX9_takeWord_58 ?_
      refine g_iload_n hF 2 rfl rfl dX9_takeWord_61 ?_
      refine g_iadd hF dX9_takeWord_62 ?_
      obtain ⟨x12, h12, h⟩ := gbnd h
      refine g_callV hF my_X9_byteAt kw_1203 kw_1205 kw_68 gC_9.1 (by decide) q0 (c_X9_byteAt (d := d - 1) (by omega) q0 h12) (by omega) (Nat.zero_le _) (Nat.zero_le _) rfl rfl (Nat.le_of_ble_eq_true rfl) dX9_takeWord_63 (g_sameS ?_)
      refine g_bipush (v := (97 : Int32)) hF rfl dX9_takeWord_66 ?_
      refine g_bipush (v := (122 : Int32)) hF rfl dX9_takeWord_68 ?_
      obtain ⟨x13, h13, h⟩ := gbnd h
      refine g_callS hF my_X9_in kw_1183 kw_1184 (c_X9_in (d := d - 1) (by omega)  h13) (by omega) (Nat.zero_le _) (Nat.zero_le _) rfl rfl (Nat.le_of_ble_eq_true rfl) dX9_takeWord_70 (g_sameS ?_)
      refine g_if_eq (tgt := 78) hF dX9_takeWord_73 (by decide) (fun c14 => ?_) (fun c14 => ?_)
      · replace h := gif_t c14 h
        refine g_aload_n hF 0 rfl rfl dX9_takeWord_78 ?_
        refine g_dup hF rfl dX9_takeWord_79 ?_
        refine g_get_i hF fl_RX9_68 q0 dX9_takeWord_80 ?_
        refine g_iload_n hF 2 rfl rfl dX9_takeWord_83 ?_
        refine g_iadd hF dX9_takeWord_84 ?_
        refine g_put_i hF rfl rfl fl_RX9_68 q0 dX9_takeWord_85 ?_
        refine g_iconst (v := (1 : Int32)) hF rfl dX9_takeWord_88 ?_
        cases h
        exact g_ret_i hF rfl rfl dX9_takeWord_89 hR (Nat.zero_le _) (Nat.zero_le _)
      · replace h := gif_f c14 h
        refine g_iconst (v := (0 : Int32)) hF rfl dX9_takeWord_76 ?_
        cases h
        exact g_ret_i hF rfl rfl dX9_takeWord_77 hR (Nat.zero_le _) (Nat.zero_le _)
  · replace h := gif_n c7 h
    refine g_iconst (v := (0 : Int32)) hF rfl dX9_takeWord_7 ?_
    cases h
    exact g_ret_i hF rfl rfl dX9_takeWord_8 hR (Nat.zero_le _) (Nat.zero_le _)
theorem c_X9_takeWord {d : Nat} {T : gT} {M : gM} {m_a0 : Nat} {a0 : Nat} {s1 : Nat} {r : Int32 × gM} (hd : 4 ≤ d) (q0 : T[a0]? = some (9, m_a0)) (h : f_X9_takeWord T M a0 s1 = some (r)) : gRet d yX9_takeWord cX9_takeWord 3 (some .boolean) 0 0 [.ref a0, .ref (gSB + s1)] T M (gSame T (some (.int r.1)) r.2) := by
  refine gRet_of (own := RX9) (by decide) rfl (Nat.le_of_ble_eq_true rfl) (fun Z ad0 hn h0 hF => ?_)
  exact t_X9_takeWord hF hn hd q0 h ⟨rfl, rfl, rfl, rfl⟩
