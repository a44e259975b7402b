/-! THE WALKS -/
theorem t_X7_init {Z : gZ} {d mc ms : Nat} {Acc : Option Value → (Nat → Nat) → gT → gM → Prop} {AccX : Nat → (Nat → Nat) → gT → gM → Prop} {ad : Nat → Nat} {T : gT} {M : gM} {m_a0 m_a1 : Nat} {a0 : Nat} {a1 : Nat} {o : gT × gM} (hF : gFix Z cX7_init RX7 "<init>" none d mc ms Acc AccX) (hn : Z.2.2.2.2.2.1 = 2) (hd : 1 ≤ d) (hmc : 1 ≤ mc) (hms : 11 ≤ ms) (q0 : T[a0]? = some (7, m_a0)) (q1 : T[a1]? = some (11, m_a1)) (h : f_X7_init T M a0 a1 = some o) (hR : ∀ ad1 : Nat → Nat, gExt T o.1 → (∀ a : Nat, a < T.length → ad1 a = ad a) → Acc none ad1 o.1 o.2) : gG Z ad T M 0 0 0 [(0, .ref a0), (1, .ref a1)] [] := by
  unfold f_X7_init at h
  refine g_aload_n hF 0 rfl rfl dX7_init_0 ?_
  refine g_obj hF kw_159 kw_102 kw_103 (by omega) (Nat.le_of_ble_eq_true rfl) dX7_init_1 ?_
  refine g_aload_n hF 0 rfl rfl dX7_init_4 ?_
  refine g_bipush (v := (11 : Int32)) hF rfl dX7_init_5 ?_
  obtain ⟨x2, h2, h⟩ := gbnd h
  have g2 : gnew T M (11, 11) = some (x2.1, x2.2.1, x2.2.2) := h2
  refine g_newa_int (N := 11) hF (by decide) (by decide) (by decide) kw_167 g2 (gnew_lt g2) (gFr_r (gT_ne q0) (gFr_r (gT_ne q1) gFr_0)) (gFr_r (gT_ne q0) gFr_0) (by omega) (by omega) dX7_init_7 (fun ad2 z2 => ?_)
  have X2 := gExt.tr gExt.rf (gnew_ext g2)
  have W2 := gad_new g2 z2 gExt.rf (fun _ _ => rfl)
  have q_3 := gnew_ext g2 _ _ q0
  have q_4 := gnew_ext g2 _ _ q1
  have q_y2 := gnew_at g2
  refine g_putF_r hF (fun _ => rfl) (fun _ => rfl) (gT_lt q_y2) rfl (fun R9 T9 N9 t9 q9 => by rw [g_own7 q9]; rfl) fl_RX7_9 q_3 dX7_init_9 ?_
  refine g_aload_n hF 0 rfl rfl dX7_init_12 ?_
  refine g_aload_n hF 1 rfl rfl dX7_init_13 ?_
  refine g_putF_r hF (fun _ => rfl) (fun _ => rfl) (gT_lt q_4) rfl (fun R9 T9 N9 t9 q9 => by rw [g_own7 q9]; rfl) fl_RX7_13 q_3 dX7_init_14 ?_
  cases h
  exact g_ret_v hF rfl dX7_init_17 (hR ad2 X2 W2) (by omega) (by omega)
theorem c_X7_init {d : Nat} {T : gT} {M : gM} {m_a0 m_a1 : Nat} {a0 : Nat} {a1 : Nat} {r : gT × gM} (hd : 1 ≤ d) (q0 : T[a0]? = some (7, m_a0)) (q1 : T[a1]? = some (11, m_a1)) (h : f_X7_init T M a0 a1 = some (r)) : gRet d yX7_init cX7_init 2 none 1 11 [.ref a0, .ref a1] T M (gMade T none r.1 r.2) := by
  refine gRet_of (own := RX7) (by decide) rfl (Nat.le_of_ble_eq_true rfl) (fun Z ad0 hn h0 hF => ?_)
  exact t_X7_init hF hn hd (Nat.le_refl _) (Nat.le_refl _) q0 q1 h (fun ad1 x1 y1 => ⟨rfl, rfl, rfl, x1, y1⟩)
theorem t_X3_init {Z : gZ} {d mc ms : Nat} {Acc : Option Value → (Nat → Nat) → gT → gM → Prop} {AccX : Nat → (Nat → Nat) → gT → gM → Prop} {ad : Nat → Nat} {T : gT} {M : gM} {m_a0 : Nat} {a0 : Nat} {o : gT × gM} (hF : gFix Z cX3_init RX3 "<init>" none d mc ms Acc AccX) (hn : Z.2.2.2.2.2.1 = 1) (hd : 1 ≤ d) (hmc : 2 ≤ mc) (hms : 20 ≤ ms) (q0 : T[a0]? = some (3, m_a0)) (h : f_X3_init T M a0 = some o) (hR : ∀ ad1 : Nat → Nat, gExt T o.1 → (∀ a : Nat, a < T.length → ad1 a = ad a) → Acc none ad1 o.1 o.2) : gG Z ad T M 0 0 0 [(0, .ref a0)] [] := by
  unfold f_X3_init at h
  refine g_aload_n hF 0 rfl rfl dX3_init_0 ?_
  refine g_obj hF kw_172 kw_102 kw_103 (by omega) (Nat.le_of_ble_eq_true rfl) dX3_init_1 ?_
  refine g_aload_n hF 0 rfl rfl dX3_init_4 ?_
  refine g_iconst (v := (0 : Int32)) hF rfl dX3_init_5 ?_
  refine g_put_i hF rfl rfl fl_RX3_9 q0 dX3_init_6 ?_
  refine g_aload_n hF 0 rfl rfl dX3_init_9 ?_
  refine g_iconst (v := (0 : Int32)) hF rfl dX3_init_10 ?_
  refine g_put_i hF rfl rfl fl_RX3_15 q0 dX3_init_11 ?_
  refine g_aload_n hF 0 rfl rfl dX3_init_14 ?_
  refine g_iconst (v := (-1 : Int32)) hF rfl dX3_init_15 ?_
  refine g_put_i hF rfl rfl fl_RX3_19 q0 dX3_init_16 ?_
  refine g_aload_n hF 0 rfl rfl dX3_init_19 ?_
  refine g_bipush (v := (12 : Int32)) hF rfl dX3_init_20 ?_
  obtain ⟨x2, h2, h⟩ := gbnd h
  have g2 : gnew T (si (si (si M a0 0 (0 : Int32)) a0 1 (0 : Int32)) a0 2 (-1 : Int32)) (11, 12) = some (x2.1, x2.2.1, x2.2.2) := h2
  refine g_newa_int (N := 12) hF (by decide) (by decide) (by decide) kw_167 g2 (gnew_lt g2) (gFr_r (gT_ne q0) gFr_0) (gFr_r (gT_ne q0) gFr_0) (by omega) (by omega) dX3_init_22 (fun ad2 z2 => ?_)
  have X2 := gExt.tr gExt.rf (gnew_ext g2)
  have W2 := gad_new g2 z2 gExt.rf (fun _ _ => rfl)
  have q_3 := gnew_ext g2 _ _ q0
  have q_y2 := gnew_at g2
  refine g_putF_r hF (fun _ => rfl) (fun _ => rfl) (gT_lt q_y2) rfl (fun R9 T9 N9 t9 q9 => by rw [g_own3 q9]; rfl) fl_RX3_22 q_3 dX3_init_24 ?_
  refine g_aload_n hF 0 rfl rfl dX3_init_27 ?_
  refine g_bipush (v := (8 : Int32)) hF rfl dX3_init_28 ?_
  obtain ⟨x4, h4, h⟩ := gbnd h
  have g4 : gnew x2.2.1 (sr x2.2.2 a0 3 (some x2.1)) (11, 8) = some (x4.1, x4.2.1, x4.2.2) := h4
  refine g_newa_int (N := 8) hF (by decide) (by decide) (by decide) kw_167 g4 (gnew_lt g4) (gFr_r (gT_ne q_3) gFr_0) (gFr_r (gT_ne q_3) gFr_0) (by omega) (by omega) dX3_init_30 (fun ad4 z4 => ?_)
  have X4 := gExt.tr X2 (gnew_ext g4)
  have W4 := gad_new g4 z4 X2 W2
  have q_5 := gnew_ext g4 _ _ q_3
  have q_y4 := gnew_at g4
  refine g_putF_r hF (fun _ => rfl) (fun _ => rfl) (gT_lt q_y4) rfl (fun R9 T9 N9 t9 q9 => by rw [g_own3 q9]; rfl) fl_RX3_26 q_5 dX3_init_32 ?_
  refine g_aload_n hF 0 rfl rfl dX3_init_35 ?_
  refine g_iconst (v := (0 : Int32)) hF rfl dX3_init_36 ?_
  refine g_put_i hF rfl rfl fl_RX3_29 q_5 dX3_init_37 ?_
  cases h
  exact g_ret_v hF rfl dX3_init_40 (hR ad4 X4 W4) (by omega) (by omega)
theorem c_X3_init {d : Nat} {T : gT} {M : gM} {m_a0 : Nat} {a0 : Nat} {r : gT × gM} (hd : 1 ≤ d) (q0 : T[a0]? = some (3, m_a0)) (h : f_X3_init T M a0 = some (r)) : gRet d yX3_init cX3_init 1 none 2 20 [.ref a0] T M (gMade T none r.1 r.2) := by
  refine gRet_of (own := RX3) (by decide) rfl (Nat.le_of_ble_eq_true rfl) (fun Z ad0 hn h0 hF => ?_)
  exact t_X3_init hF hn hd (Nat.le_refl _) (Nat.le_refl _) q0 h (fun ad1 x1 y1 => ⟨rfl, rfl, rfl, x1, y1⟩)
theorem t_X0_init {Z : gZ} {d mc ms : Nat} {Acc : Option Value → (Nat → Nat) → gT → gM → Prop} {AccX : Nat → (Nat → Nat) → gT → gM → Prop} {ad : Nat → Nat} {T : gT} {M : gM} {m_a0 : Nat} {a0 : Nat} {o : gT × gM} (hF : gFix Z cX0_init RX0 "<init>" none d mc ms Acc AccX) (hn : Z.2.2.2.2.2.1 = 2) (hd : 2 ≤ d) (hmc : 28 ≤ mc) (hms : 230 ≤ ms) (q0 : T[a0]? = some (0, m_a0)) (h : f_X0_init T M a0 = some o) (hR : ∀ ad1 : Nat → Nat, gExt T o.1 → (∀ a : Nat, a < T.length → ad1 a = ad a) → Acc none ad1 o.1 o.2) : gG Z ad T M 0 0 0 [(0, .ref a0)] [] := by
  unfold f_X0_init at h
  refine g_aload_n hF 0 rfl rfl dX0_init_0 ?_
  refine g_obj hF kw_151 kw_102 kw_103 (by omega) (Nat.le_of_ble_eq_true rfl) dX0_init_1 ?_
  refine g_aload_n hF 0 rfl rfl dX0_init_4 ?_
  refine g_bipush (v := (8 : Int32)) hF rfl dX0_init_5 ?_
  obtain ⟨x2, h2, h⟩ := gbnd h
  have g2 : gnew T M (14, 8) = some (x2.1, x2.2.1, x2.2.2) := h2
  refine g_newq_Library (N := 8) hF (by decide) (by decide) (by decide) kw_152 g2 (gnew_lt g2) (gFr_r (gT_ne q0) gFr_0) (gFr_r (gT_ne q0) gFr_0) (by omega) (by omega) dX0_init_7 (fun ad2 z2 => ?_)
  have X2 := gExt.tr gExt.rf (gnew_ext g2)
  have W2 := gad_new g2 z2 gExt.rf (fun _ _ => rfl)
  have q_3 := gnew_ext g2 _ _ q0
  have q_y2 := gnew_at g2
  refine g_putF_r hF (fun _ => rfl) (fun _ => rfl) (gT_lt q_y2) rfl (fun R9 T9 N9 t9 q9 => by rw [g_own0 q9]; rfl) fl_RX0_11 q_3 dX0_init_10 ?_
  refine g_aload_n hF 0 rfl rfl dX0_init_13 ?_
  refine g_iconst (v := (0 : Int32)) hF rfl dX0_init_14 ?_
  refine g_put_i hF rfl rfl fl_RX0_17 q_3 dX0_init_15 ?_
  refine g_aload_n hF 0 rfl rfl dX0_init_18 ?_
  refine g_iconst (v := (0 : Int32)) hF rfl dX0_init_19 ?_
  refine g_put_i hF rfl rfl fl_RX0_21 q_3 dX0_init_20 ?_
  refine g_aload_n hF 0 rfl rfl dX0_init_23 ?_
  refine g_bipush (v := (50 : Int32)) hF rfl dX0_init_24 ?_
  refine g_put_i hF rfl rfl fl_RX0_24 q_3 dX0_init_26 ?_
  refine g_aload_n hF 0 rfl rfl dX0_init_29 ?_
  obtain ⟨x4, h4, h⟩ := gbnd h
  have g4 : gnew x2.2.1 (si (si (si (sr x2.2.2 a0 0 (some x2.1)) a0 1 (0 : Int32)) a0 2 (0 : Int32)) a0 3 (50 : Int32)) (7, 0) = some (x4.1, x4.2.1, x4.2.2) := h4
  refine g_new hF gC_7 gDf_7 kw_154 kw_155 kw_69 g4 (gnew_lt g4) (gFr_r (gT_ne q_3) gFr_0) (gFr_r (gT_ne q_3) gFr_0) (by omega) (by omega) dX0_init_30 (fun ad4 z4 => ?_)
  have X4 := gExt.tr X2 (gnew_ext g4)
  have W4 := gad_new g4 z4 X2 W2
  have q_5 := gnew_ext g4 _ _ q_3
  have q_y4 := gnew_at g4
  refine g_dup hF rfl dX0_init_33 ?_
  refine g_iconst (v := (1 : Int32)) hF rfl dX0_init_34 ?_
  obtain ⟨x6, h6, h⟩ := gbnd h
  have g6 : gnew x4.2.1 x4.2.2 (11, 1) = some (x6.1, x6.2.1, x6.2.2) := h6
  refine g_newa_int (N := 1) hF (by decide) (by decide) (by decide) kw_167 g6 (gnew_lt g6) (gFr_r (gT_ne q_5) gFr_0) (gFr_r (gT_ne q_y4) (gFr_r (gT_ne q_y4) (gFr_r (gT_ne q_5) gFr_0))) (by omega) (by omega) dX0_init_35 (fun ad6 z6 => ?_)
  have X6 := gExt.tr X4 (gnew_ext g6)
  have W6 := gad_new g6 z6 X4 W4
  have q_7 := gnew_ext g6 _ _ q_5
  have q_8 := gnew_ext g6 _ _ q_y4
  have q_y6 := gnew_at g6
  refine g_dup hF rfl dX0_init_37 ?_
  refine g_iconst (v := (0 : Int32)) hF rfl dX0_init_38 ?_
  refine g_iconst (v := (-1 : Int32)) hF rfl dX0_init_39 ?_
  obtain ⟨M9, h9, h⟩ := gbnd h
  obtain ⟨i9h, e9v⟩ := ast_sp q_y6 h9
  refine g_iast hF q_y6 i9h dX0_init_40 ?_
  rw [← e9v]
  obtain ⟨x10, h10, h⟩ := gbnd h
  refine g_callIN hF my_X7_init kn_156 kw_157 rfl gC_7.1 (by decide) q_8 (c_X7_init (d := d - 1) (by omega) q_8 q_y6 h10) (by omega) (by omega) (by omega) rfl rfl (Nat.le_of_ble_eq_true rfl) dX0_init_41 (g_madeN (gOld_r (gT_lt q_7) gOld_0) (gOld_r (gT_lt q_8) (gOld_r (gT_lt q_7) gOld_0)) (fun ad10 e10 y10 => ?_))
  have X10 := gExt.tr X6 e10
  have W10 := gad_call y10 X6 W6
  have q_11 := e10 _ _ q_7
  have q_12 := e10 _ _ q_8
  refine g_put_r hF (fun _ => rfl) (fun _ => rfl) (gT_lt q_12) fl_RX0_32 q_11 dX0_init_44 ?_
  refine g_iconst (v := (0 : Int32)) hF rfl dX0_init_47 ?_
  refine g_istore_n (ls' := [(1, .int (0 : Int32)), (0, .ref a0)]) hF rfl (by rw [hn]; decide) rfl dX0_init_48 ?_
  refine g_iload_n hF 0 rfl rfl dX0_init_49 ?_
  refine g_bipush (v := (8 : Int32)) hF rfl dX0_init_50 ?_
  refine g_icmp_ge (tgt := 74) hF dX0_init_52 (by decide) (fun q => absurd q (by decide)) (fun _ => ?_)
  refine g_aload_n hF 1 rfl rfl dX0_init_55 ?_
  obtain ⟨b13, h13, h⟩ := gbnd h
  obtain ⟨g13, l13, q_b13⟩ := ldr_sp h13
  refine g_get_r hF g13 fl_RX0_11 q_11 dX0_init_56 ?_
  refine g_iload_n hF 0 rfl rfl dX0_init_59 ?_
  obtain ⟨x14, h14, h⟩ := gbnd h
  have g14 : gnew x10.1 (sr x10.2 a0 4 (some x4.1)) (3, 0) = some (x14.1, x14.2.1, x14.2.2) := h14
  refine g_new hF gC_3 gDf_3 kw_152 kw_168 kw_70 g14 (gnew_lt g14) (gFr_i (gFr_r (gT_ne q_11) gFr_0)) (gFr_i (gFr_r (gT_ne q_b13) gFr_0)) (by omega) (by omega) dX0_init_60 (fun ad14 z14 => ?_)
  have X14 := gExt.tr X10 (gnew_ext g14)
  have W14 := gad_new g14 z14 X10 W10
  have q_15 := gnew_ext g14 _ _ q_11
  have q_16 := gnew_ext g14 _ _ q_b13
  have q_y14 := gnew_at g14
  refine g_dup hF rfl dX0_init_63 ?_
  obtain ⟨x17, h17, h⟩ := gbnd h
  refine g_callIN hF my_X3_init kn_169 kw_170 rfl gC_3.1 (by decide) q_y14 (c_X3_init (d := d - 1) (by omega) q_y14 h17) (by omega) (by omega) (by omega) rfl rfl (Nat.le_of_ble_eq_true rfl) dX0_init_64 (g_madeN (gOld_i (gOld_r (gT_lt q_15) gOld_0)) (gOld_r (gT_lt q_y14) (gOld_i (gOld_r (gT_lt q_16) gOld_0))) (fun ad17 e17 y17 => ?_))
  have X17 := gExt.tr X14 e17
  have W17 := gad_call y17 X14 W14
  have q_18 := e17 _ _ q_15
  have q_19 := e17 _ _ q_16
  have q_20 := e17 _ _ q_y14
  obtain ⟨M21, h21, h⟩ := gbnd h
  obtain ⟨i21h, e21v⟩ := astr_sp q_19 h21
  refine g_aast (r := (RX0, TX0, 5)) hF q_19 (Or.inr (Or.inl ⟨rfl, rfl⟩)) q_20 i21h dX0_init_67 ?_
  rw [← e21v]
  refine g_iinc (n := 1) (v := (1 : Int32)) (ls' := [(1, .int (1 : Int32)), (0, .ref a0)]) hF 0 rfl rfl (by rw [hn]; decide) rfl dX0_init_68 ?_
  refine g_goto (tgt := 49) hF dX0_init_71 (by decide) ?_
  refine g_iload_n hF 0 rfl rfl dX0_init_49 ?_
  refine g_bipush (v := (8 : Int32)) hF rfl dX0_init_50 ?_
  refine g_icmp_ge (tgt := 74) hF dX0_init_52 (by decide) (fun q => absurd q (by decide)) (fun _ => ?_)
  refine g_aload_n hF 1 rfl rfl dX0_init_55 ?_
  obtain ⟨b22, h22, h⟩ := gbnd h
  obtain ⟨g22, l22, q_b22⟩ := ldr_sp h22
  refine g_get_r hF g22 fl_RX0_11 q_18 dX0_init_56 ?_
  refine g_iload_n hF 0 rfl rfl dX0_init_59 ?_
  obtain ⟨x23, h23, h⟩ := gbnd h
  have g23 : gnew x17.1 M21 (3, 0) = some (x23.1, x23.2.1, x23.2.2) := h23
  refine g_new hF gC_3 gDf_3 kw_152 kw_168 kw_70 g23 (gnew_lt g23) (gFr_i (gFr_r (gT_ne q_18) gFr_0)) (gFr_i (gFr_r (gT_ne q_b22) gFr_0)) (by omega) (by omega) dX0_init_60 (fun ad23 z23 => ?_)
  have X23 := gExt.tr X17 (gnew_ext g23)
  have W23 := gad_new g23 z23 X17 W17
  have q_24 := gnew_ext g23 _ _ q_18
  have q_25 := gnew_ext g23 _ _ q_b22
  have q_y23 := gnew_at g23
  refine g_dup hF rfl dX0_init_63 ?_
  obtain ⟨x26, h26, h⟩ := gbnd h
  refine g_callIN hF my_X3_init kn_169 kw_170 rfl gC_3.1 (by decide) q_y23 (c_X3_init (d := d - 1) (by omega) q_y23 h26) (by omega) (by omega) (by omega) rfl rfl (Nat.le_of_ble_eq_true rfl) dX0_init_64 (g_madeN (gOld_i (gOld_r (gT_lt q_24) gOld_0)) (gOld_r (gT_lt q_y23) (gOld_i (gOld_r (gT_lt q_25) gOld_0))) (fun ad26 e26 y26 => ?_))
  have X26 := gExt.tr X23 e26
  have W26 := gad_call y26 X23 W23
  have q_27 := e26 _ _ q_24
  have q_28 := e26 _ _ q_25
  have q_29 := e26 _ _ q_y23
  obtain ⟨M30, h30, h⟩ := gbnd h
  obtain ⟨i30h, e30v⟩ := astr_sp q_28 h30
  refine g_aast (r := (RX0, TX0, 5)) hF q_28 (Or.inr (Or.inl ⟨rfl, rfl⟩)) q_29 i30h dX0_init_67 ?_
  rw [← e30v]
  refine g_iinc (n := 1) (v := (2 : Int32)) (ls' := [(1, .int (2 : Int32)), (0, .ref a0)]) hF 0 rfl rfl (by rw [hn]; decide) rfl dX0_init_68 ?_
  refine g_goto (tgt := 49) hF dX0_init_71 (by decide) ?_
  refine g_iload_n hF 0 rfl rfl dX0_init_49 ?_
  refine g_bipush (v := (8 : Int32)) hF rfl dX0_init_50 ?_
  refine g_icmp_ge (tgt := 74) hF dX0_init_52 (by decide) (fun q => absurd q (by decide)) (fun _ => ?_)
  refine g_aload_n hF 1 rfl rfl dX0_init_55 ?_
  obtain ⟨b31, h31, h⟩ := gbnd h
  obtain ⟨g31, l31, q_b31⟩ := ldr_sp h31
  refine g_get_r hF g31 fl_RX0_11 q_27 dX0_init_56 ?_
  refine g_iload_n hF 0 rfl rfl dX0_init_59 ?_
  obtain ⟨x32, h32, h⟩ := gbnd h
  have g32 : gnew x26.1 M30 (3, 0) = some (x32.1, x32.2.1, x32.2.2) := h32
  refine g_new hF gC_3 gDf_3 kw_152 kw_168 kw_70 g32 (gnew_lt g32) (gFr_i (gFr_r (gT_ne q_27) gFr_0)) (gFr_i (gFr_r (gT_ne q_b31) gFr_0)) (by omega) (by omega) dX0_init_60 (fun ad32 z32 => ?_)
  have X32 := gExt.tr X26 (gnew_ext g32)
  have W32 := gad_new g32 z32 X26 W26
  have q_33 := gnew_ext g32 _ _ q_27
  have q_34 := gnew_ext g32 _ _ q_b31
  have q_y32 := gnew_at g32
  refine g_dup hF rfl dX0_init_63 ?_
  obtain ⟨x35, h35, h⟩ := gbnd h
  refine g_callIN hF my_X3_init kn_169 kw_170 rfl gC_3.1 (by decide) q_y32 (c_X3_init (d := d - 1) (by omega) q_y32 h35) (by omega) (by omega) (by omega) rfl rfl (Nat.le_of_ble_eq_true rfl) dX0_init_64 (g_madeN (gOld_i (gOld_r (gT_lt q_33) gOld_0)) (gOld_r (gT_lt q_y32) (gOld_i (gOld_r (gT_lt q_34) gOld_0))) (fun ad35 e35 y35 => ?_))
  have X35 := gExt.tr X32 e35
  have W35 := gad_call y35 X32 W32
  have q_36 := e35 _ _ q_33
  have q_37 := e35 _ _ q_34
  have q_38 := e35 _ _ q_y32
  obtain ⟨M39, h39, h⟩ := gbnd h
  obtain ⟨i39h, e39v⟩ := astr_sp q_37 h39
  refine g_aast (r := (RX0, TX0, 5)) hF q_37 (Or.inr (Or.inl ⟨rfl, rfl⟩)) q_38 i39h dX0_init_67 ?_
  rw [← e39v]
  refine g_iinc (n := 1) (v := (3 : Int32)) (ls' := [(1, .int (3 : Int32)), (0, .ref a0)]) hF 0 rfl rfl (by rw [hn]; decide) rfl dX0_init_68 ?_
  refine g_goto (tgt := 49) hF dX0_init_71 (by decide) ?_
  refine g_iload_n hF 0 rfl rfl dX0_init_49 ?_
  refine g_bipush (v := (8 : Int32)) hF rfl dX0_init_50 ?_
  refine g_icmp_ge (tgt := 74) hF dX0_init_52 (by decide) (fun q => absurd q (by decide)) (fun _ => ?_)
  refine g_aload_n hF 1 rfl rfl dX0_init_55 ?_
  obtain ⟨b40, h40, h⟩ := gbnd h
  obtain ⟨g40, l40, q_b40⟩ := ldr_sp h40
  refine g_get_r hF g40 fl_RX0_11 q_36 dX0_init_56 ?_
  refine g_iload_n hF 0 rfl rfl dX0_init_59 ?_
  obtain ⟨x41, h41, h⟩ := gbnd h
  have g41 : gnew x35.1 M39 (3, 0) = some (x41.1, x41.2.1, x41.2.2) := h41
  refine g_new hF gC_3 gDf_3 kw_152 kw_168 kw_70 g41 (gnew_lt g41) (gFr_i (gFr_r (gT_ne q_36) gFr_0)) (gFr_i (gFr_r (gT_ne q_b40) gFr_0)) (by omega) (by omega) dX0_init_60 (fun ad41 z41 => ?_)
  have X41 := gExt.tr X35 (gnew_ext g41)
  have W41 := gad_new g41 z41 X35 W35
  have q_42 := gnew_ext g41 _ _ q_36
  have q_43 := gnew_ext g41 _ _ q_b40
  have q_y41 := gnew_at g41
  refine g_dup hF rfl dX0_init_63 ?_
  obtain ⟨x44, h44, h⟩ := gbnd h
  refine g_callIN hF my_X3_init kn_169 kw_170 rfl gC_3.1 (by decide) q_y41 (c_X3_init (d := d - 1) (by omega) q_y41 h44) (by omega) (by omega) (by omega) rfl rfl (Nat.le_of_ble_eq_true rfl) dX0_init_64 (g_madeN (gOld_i (gOld_r (gT_lt q_42) gOld_0)) (gOld_r (gT_lt q_y41) (gOld_i (gOld_r (gT_lt q_43) gOld_0))) (fun ad44 e44 y44 => ?_))
  have X44 := gExt.tr X41 e44
  have W44 := gad_call y44 X41 W41
  have q_45 := e44 _ _ q_42
  have q_46 := e44 _ _ q_43
  have q_47 := e44 _ _ q_y41
  obtain ⟨M48, h48, h⟩ := gbnd h
  obtain ⟨i48h, e48v⟩ := astr_sp q_46 h48
  refine g_aast (r := (RX0, TX0, 5)) hF q_46 (Or.inr (Or.inl ⟨rfl, rfl⟩)) q_47 i48h dX0_init_67 ?_
  rw [← e48v]
  refine g_iinc (n := 1) (v := (4 : Int32)) (ls' := [(1, .int (4 : Int32)), (0, .ref a0)]) hF 0 rfl rfl (by rw [hn]; decide) rfl dX0_init_68 ?_
  refine g_goto (tgt := 49) hF dX0_init_71 (by decide) ?_
  refine g_iload_n hF 0 rfl rfl dX0_init_49 ?_
  refine g_bipush (v := (8 : Int32)) hF rfl dX0_init_50 ?_
  refine g_icmp_ge (tgt := 74) hF dX0_init_52 (by decide) (fun q => absurd q (by decide)) (fun _ => ?_)
  refine g_aload_n hF 1 rfl rfl dX0_init_55 ?_
  obtain ⟨b49, h49, h⟩ := gbnd h
  obtain ⟨g49, l49, q_b49⟩ := ldr_sp h49
  refine g_get_r hF g49 fl_RX0_11 q_45 dX0_init_56 ?_
  refine g_iload_n hF 0 rfl rfl dX0_init_59 ?_
  obtain ⟨x50, h50, h⟩ := gbnd h
  have g50 : gnew x44.1 M48 (3, 0) = some (x50.1, x50.2.1, x50.2.2) := h50
  refine g_new hF gC_3 gDf_3 kw_152 kw_168 kw_70 g50 (gnew_lt g50) (gFr_i (gFr_r (gT_ne q_45) gFr_0)) (gFr_i (gFr_r (gT_ne q_b49) gFr_0)) (by omega) (by omega) dX0_init_60 (fun ad50 z50 => ?_)
  have X50 := gExt.tr X44 (gnew_ext g50)
  have W50 := gad_new g50 z50 X44 W44
  have q_51 := gnew_ext g50 _ _ q_45
  have q_52 := gnew_ext g50 _ _ q_b49
  have q_y50 := gnew_at g50
  refine g_dup hF rfl dX0_init_63 ?_
  obtain ⟨x53, h53, h⟩ := gbnd h
  refine g_callIN hF my_X3_init kn_169 kw_170 rfl gC_3.1 (by decide) q_y50 (c_X3_init (d := d - 1) (by omega) q_y50 h53) (by omega) (by omega) (by omega) rfl rfl (Nat.le_of_ble_eq_true rfl) dX0_init_64 (g_madeN (gOld_i (gOld_r (gT_lt q_51) gOld_0)) (gOld_r (gT_lt q_y50) (gOld_i (gOld_r (gT_lt q_52) gOld_0))) (fun ad53 e53 y53 => ?_))
  have X53 := gExt.tr X50 e53
  have W53 := gad_call y53 X50 W50
  have q_54 := e53 _ _ q_51
  have q_55 := e53 _ _ q_52
  have q_56 := e53 _ _ q_y50
  obtain ⟨M57, h57, h⟩ := gbnd h
  obtain ⟨i57h, e57v⟩ := astr_sp q_55 h57
  refine g_aast (r := (RX0, TX0, 5)) hF q_55 (Or.inr (Or.inl ⟨rfl, rfl⟩)) q_56 i57h dX0_init_67 ?_
  rw [← e57v]
  refine g_iinc (n := 1) (v := (5 : Int32)) (ls' := [(1, .int (5 : Int32)), (0, .ref a0)]) hF 0 rfl rfl (by rw [hn]; decide) rfl dX0_init_68 ?_
  refine g_goto (tgt := 49) hF dX0_init_71 (by decide) ?_
  refine g_iload_n hF 0 rfl rfl dX0_init_49 ?_
  refine g_bipush (v := (8 : Int32)) hF rfl dX0_init_50 ?_
  refine g_icmp_ge (tgt := 74) hF dX0_init_52 (by decide) (fun q => absurd q (by decide)) (fun _ => ?_)
  refine g_aload_n hF 1 rfl rfl dX0_init_55 ?_
  obtain ⟨b58, h58, h⟩ := gbnd h
  obtain ⟨g58, l58, q_b58⟩ := ldr_sp h58
  refine g_get_r hF g58 fl_RX0_11 q_54 dX0_init_56 ?_
  refine g_iload_n hF 0 rfl rfl dX0_init_59 ?_
  obtain ⟨x59, h59, h⟩ := gbnd h
  have g59 : gnew x53.1 M57 (3, 0) = some (x59.1, x59.2.1, x59.2.2) := h59
  refine g_new hF gC_3 gDf_3 kw_152 kw_168 kw_70 g59 (gnew_lt g59) (gFr_i (gFr_r (gT_ne q_54) gFr_0)) (gFr_i (gFr_r (gT_ne q_b58) gFr_0)) (by omega) (by omega) dX0_init_60 (fun ad59 z59 => ?_)
  have X59 := gExt.tr X53 (gnew_ext g59)
  have W59 := gad_new g59 z59 X53 W53
  have q_60 := gnew_ext g59 _ _ q_54
  have q_61 := gnew_ext g59 _ _ q_b58
  have q_y59 := gnew_at g59
  refine g_dup hF rfl dX0_init_63 ?_
  obtain ⟨x62, h62, h⟩ := gbnd h
  refine g_callIN hF my_X3_init kn_169 kw_170 rfl gC_3.1 (by decide) q_y59 (c_X3_init (d := d - 1) (by omega) q_y59 h62) (by omega) (by omega) (by omega) rfl rfl (Nat.le_of_ble_eq_true rfl) dX0_init_64 (g_madeN (gOld_i (gOld_r (gT_lt q_60) gOld_0)) (gOld_r (gT_lt q_y59) (gOld_i (gOld_r (gT_lt q_61) gOld_0))) (fun ad62 e62 y62 => ?_))
  have X62 := gExt.tr X59 e62
  have W62 := gad_call y62 X59 W59
  have q_63 := e62 _ _ q_60
  have q_64 := e62 _ _ q_61
  have q_65 := e62 _ _ q_y59
  obtain ⟨M66, h66, h⟩ := gbnd h
  obtain ⟨i66h, e66v⟩ := astr_sp q_64 h66
  refine g_aast (r := (RX0, TX0, 5)) hF q_64 (Or.inr (Or.inl ⟨rfl, rfl⟩)) q_65 i66h dX0_init_67 ?_
  rw [← e66v]
  refine g_iinc (n := 1) (v := (6 : Int32)) (ls' := [(1, .int (6 : Int32)), (0, .ref a0)]) hF 0 rfl rfl (by rw [hn]; decide) rfl dX0_init_68 ?_
  refine g_goto (tgt := 49) hF dX0_init_71 (by decide) ?_
  refine g_iload_n hF 0 rfl rfl dX0_init_49 ?_
  refine g_bipush (v := (8 : Int32)) hF rfl dX0_init_50 ?_
  refine g_icmp_ge (tgt := 74) hF dX0_init_52 (by decide) (fun q => absurd q (by decide)) (fun _ => ?_)
  refine g_aload_n hF 1 rfl rfl dX0_init_55 ?_
  obtain ⟨b67, h67, h⟩ := gbnd h
  obtain ⟨g67, l67, q_b67⟩ := ldr_sp h67
  refine g_get_r hF g67 fl_RX0_11 q_63 dX0_init_56 ?_
  refine g_iload_n hF 0 rfl rfl dX0_init_59 ?_
  obtain ⟨x68, h68, h⟩ := gbnd h
  have g68 : gnew x62.1 M66 (3, 0) = some (x68.1, x68.2.1, x68.2.2) := h68
  refine g_new hF gC_3 gDf_3 kw_152 kw_168 kw_70 g68 (gnew_lt g68) (gFr_i (gFr_r (gT_ne q_63) gFr_0)) (gFr_i (gFr_r (gT_ne q_b67) gFr_0)) (by omega) (by omega) dX0_init_60 (fun ad68 z68 => ?_)
  have X68 := gExt.tr X62 (gnew_ext g68)
  have W68 := gad_new g68 z68 X62 W62
  have q_69 := gnew_ext g68 _ _ q_63
  have q_70 := gnew_ext g68 _ _ q_b67
  have q_y68 := gnew_at g68
  refine g_dup hF rfl dX0_init_63 ?_
  obtain ⟨x71, h71, h⟩ := gbnd h
  refine g_callIN hF my_X3_init kn_169 kw_170 rfl gC_3.1 (by decide) q_y68 (c_X3_init (d := d - 1) (by omega) q_y68 h71) (by omega) (by omega) (by omega) rfl rfl (Nat.le_of_ble_eq_true rfl) dX0_init_64 (g_madeN (gOld_i (gOld_r (gT_lt q_69) gOld_0)) (gOld_r (gT_lt q_y68) (gOld_i (gOld_r (gT_lt q_70) gOld_0))) (fun ad71 e71 y71 => ?_))
  have X71 := gExt.tr X68 e71
  have W71 := gad_call y71 X68 W68
  have q_72 := e71 _ _ q_69
  have q_73 := e71 _ _ q_70
  have q_74 := e71 _ _ q_y68
  obtain ⟨M75, h75, h⟩ := gbnd h
  obtain ⟨i75h, e75v⟩ := astr_sp q_73 h75
  refine g_aast (r := (RX0, TX0, 5)) hF q_73 (Or.inr (Or.inl ⟨rfl, rfl⟩)) q_74 i75h dX0_init_67 ?_
  rw [← e75v]
  refine g_iinc (n := 1) (v := (7 : Int32)) (ls' := [(1, .int (7 : Int32)), (0, .ref a0)]) hF 0 rfl rfl (by rw [hn]; decide) rfl dX0_init_68 ?_
  refine g_goto (tgt := 49) hF dX0_init_71 (by decide) ?_
  refine g_iload_n hF 0 rfl rfl dX0_init_49 ?_
  refine g_bipush (v := (8 : Int32)) hF rfl dX0_init_50 ?_
  refine g_icmp_ge (tgt := 74) hF dX0_init_52 (by decide) (fun q => absurd q (by decide)) (fun _ => ?_)
  refine g_aload_n hF 1 rfl rfl dX0_init_55 ?_
  obtain ⟨b76, h76, h⟩ := gbnd h
  obtain ⟨g76, l76, q_b76⟩ := ldr_sp h76
  refine g_get_r hF g76 fl_RX0_11 q_72 dX0_init_56 ?_
  refine g_iload_n hF 0 rfl rfl dX0_init_59 ?_
  obtain ⟨x77, h77, h⟩ := gbnd h
  have g77 : gnew x71.1 M75 (3, 0) = some (x77.1, x77.2.1, x77.2.2) := h77
  refine g_new hF gC_3 gDf_3 kw_152 kw_168 kw_70 g77 (gnew_lt g77) (gFr_i (gFr_r (gT_ne q_72) gFr_0)) (gFr_i (gFr_r (gT_ne q_b76) gFr_0)) (by omega) (by omega) dX0_init_60 (fun ad77 z77 => ?_)
  have X77 := gExt.tr X71 (gnew_ext g77)
  have W77 := gad_new g77 z77 X71 W71
  have q_78 := gnew_ext g77 _ _ q_72
  have q_79 := gnew_ext g77 _ _ q_b76
  have q_y77 := gnew_at g77
  refine g_dup hF rfl dX0_init_63 ?_
  obtain ⟨x80, h80, h⟩ := gbnd h
  refine g_callIN hF my_X3_init kn_169 kw_170 rfl gC_3.1 (by decide) q_y77 (c_X3_init (d := d - 1) (by omega) q_y77 h80) (by omega) (by omega) (by omega) rfl rfl (Nat.le_of_ble_eq_true rfl) dX0_init_64 (g_madeN (gOld_i (gOld_r (gT_lt q_78) gOld_0)) (gOld_r (gT_lt q_y77) (gOld_i (gOld_r (gT_lt q_79) gOld_0))) (fun ad80 e80 y80 => ?_))
  have X80 := gExt.tr X77 e80
  have W80 := gad_call y80 X77 W77
  have q_81 := e80 _ _ q_78
  have q_82 := e80 _ _ q_79
  have q_83 := e80 _ _ q_y77
  obtain ⟨M84, h84, h⟩ := gbnd h
  obtain ⟨i84h, e84v⟩ := astr_sp q_82 h84
  refine g_aast (r := (RX0, TX0, 5)) hF q_82 (Or.inr (Or.inl ⟨rfl, rfl⟩)) q_83 i84h dX0_init_67 ?_
  rw [← e84v]
  refine g_iinc (n := 1) (v := (8 : Int32)) (ls' := [(1, .int (8 : Int32)), (0, .ref a0)]) hF 0 rfl rfl (by rw [hn]; decide) rfl dX0_init_68 ?_
  refine g_goto (tgt := 49) hF dX0_init_71 (by decide) ?_
  refine g_iload_n hF 0 rfl rfl dX0_init_49 ?_
  refine g_bipush (v := (8 : Int32)) hF rfl dX0_init_50 ?_
  refine g_icmp_ge (tgt := 74) hF dX0_init_52 (by decide) (fun _ => ?_) (fun q => absurd (by decide) q)
  cases h
  exact g_ret_v hF rfl dX0_init_74 (hR ad80 X80 W80) (by omega) (by omega)
theorem c_X0_init {d : Nat} {T : gT} {M : gM} {m_a0 : Nat} {a0 : Nat} {r : gT × gM} (hd : 2 ≤ d) (q0 : T[a0]? = some (0, m_a0)) (h : f_X0_init T M a0 = some (r)) : gRet d yX0_init cX0_init 2 none 28 230 [.ref a0] T M (gMade T none r.1 r.2) := by
  refine gRet_of (own := RX0) (by decide) rfl (Nat.le_of_ble_eq_true rfl) (fun Z ad0 hn h0 hF => ?_)
  exact t_X0_init hF hn hd (Nat.le_refl _) (Nat.le_refl _) q0 h (fun ad1 x1 y1 => ⟨rfl, rfl, rfl, x1, y1⟩)
theorem t_X0_clear {Z : gZ} {d mc ms : Nat} {Acc : Option Value → (Nat → Nat) → gT → gM → Prop} {AccX : Nat → (Nat → Nat) → gT → gM → Prop} {ad : Nat → Nat} {T : gT} {M : gM} {m_a0 : Nat} {a0 : Nat} {o : gM} (hF : gFix Z cX0_clear RX0 "clear" none d mc ms Acc AccX) (hn : Z.2.2.2.2.2.1 = 1) (hd : 1 ≤ d) (q0 : T[a0]? = some (0, m_a0)) (h : f_X0_clear T M a0 = some o) (hR : Acc none ad T o) : gG Z ad T M 0 0 0 [(0, .ref a0)] [] := by
  unfold f_X0_clear at h
  refine g_aload_n hF 0 rfl rfl dX0_clear_0 ?_
  refine g_iconst (v := (0 : Int32)) hF rfl dX0_clear_1 ?_
  refine g_put_i hF rfl rfl fl_RX0_17 q0 dX0_clear_2 ?_
  refine g_aload_n hF 0 rfl rfl dX0_clear_5 ?_
  refine g_iconst (v := (0 : Int32)) hF rfl dX0_clear_6 ?_
  refine g_put_i hF rfl rfl fl_RX0_21 q0 dX0_clear_7 ?_
  refine g_aload_n hF 0 rfl rfl dX0_clear_10 ?_
  refine g_bipush (v := (50 : Int32)) hF rfl dX0_clear_11 ?_
  refine g_put_i hF rfl rfl fl_RX0_24 q0 dX0_clear_13 ?_
  cases h
  exact g_ret_v hF rfl dX0_clear_16 hR (Nat.zero_le _) (Nat.zero_le _)
theorem c_X0_clear {d : Nat} {T : gT} {M : gM} {m_a0 : Nat} {a0 : Nat} {r : gM} (hd : 1 ≤ d) (q0 : T[a0]? = some (0, m_a0)) (h : f_X0_clear T M a0 = some (r)) : gRet d yX0_clear cX0_clear 1 none 0 0 [.ref a0] T M (gSame T none r) := by
  refine gRet_of (own := RX0) (by decide) rfl (Nat.le_of_ble_eq_true rfl) (fun Z ad0 hn h0 hF => ?_)
  exact t_X0_clear hF hn hd q0 h ⟨rfl, rfl, rfl, rfl⟩
theorem t_X3_copyFrom {Z : gZ} {d mc ms : Nat} {Acc : Option Value → (Nat → Nat) → gT → gM → Prop} {AccX : Nat → (Nat → Nat) → gT → gM → Prop} {ad : Nat → Nat} {T : gT} {M : gM} {m_a0 m_a1 : Nat} {a0 : Nat} {a1 : Nat} {o : gM} (hF : gFix Z cX3_copyFrom RX3 "copyFrom" none d mc ms Acc AccX) (hn : Z.2.2.2.2.2.1 = 2) (hd : 1 ≤ d) (q0 : T[a0]? = some (3, m_a0)) (q1 : T[a1]? = some (3, m_a1)) (h : f_X3_copyFrom T M a0 a1 = some o) (hR : Acc none ad T o) : gG Z ad T M 0 0 0 [(0, .ref a0), (1, .ref a1)] [] := by
  unfold f_X3_copyFrom at h
  refine g_aload_n hF 0 rfl rfl dX3_copyFrom_0 ?_
  refine g_aload_n hF 1 rfl rfl dX3_copyFrom_1 ?_
  refine g_get_i hF fl_RX3_9 q1 dX3_copyFrom_2 ?_
  refine g_put_i hF rfl rfl fl_RX3_9 q0 dX3_copyFrom_5 ?_
  refine g_aload_n hF 0 rfl rfl dX3_copyFrom_8 ?_
  refine g_aload_n hF 1 rfl rfl dX3_copyFrom_9 ?_
  refine g_get_i hF fl_RX3_15 q1 dX3_copyFrom_10 ?_
  obtain ⟨_, h1, h⟩ := gbnd h
  refine g_put_i hF (gbool (chk_sp h1)) (gboolf (chk_sp h1)) fl_RX3_15 q0 dX3_copyFrom_13 ?_
  refine g_aload_n hF 0 rfl rfl dX3_copyFrom_16 ?_
  refine g_aload_n hF 1 rfl rfl dX3_copyFrom_17 ?_
  refine g_get_i hF fl_RX3_19 q1 dX3_copyFrom_18 ?_
  refine g_put_i hF rfl rfl fl_RX3_19 q0 dX3_copyFrom_21 ?_
  refine g_aload_n hF 1 rfl rfl dX3_copyFrom_24 ?_
  obtain ⟨b2, h2, h⟩ := gbnd h
  obtain ⟨g2, l2, q_b2⟩ := ldr_sp h2
  refine g_get_r hF g2 fl_RX3_22 q1 dX3_copyFrom_25 ?_
  refine g_iconst (v := (0 : Int32)) hF rfl dX3_copyFrom_28 ?_
  refine g_aload_n hF 0 rfl rfl dX3_copyFrom_29 ?_
  obtain ⟨b3, h3, h⟩ := gbnd h
  obtain ⟨g3, l3, q_b3⟩ := ldr_sp h3
  refine g_get_r hF g3 fl_RX3_22 q0 dX3_copyFrom_30 ?_
  refine g_iconst (v := (0 : Int32)) hF rfl dX3_copyFrom_33 ?_
  refine g_bipush (v := (12 : Int32)) hF rfl dX3_copyFrom_34 ?_
  obtain ⟨M4, h4, h⟩ := gbnd h
  obtain ⟨k4a, k4b, k4c, k4d, k4e, e4v⟩ := acp_sp q_b2 q_b3 h4
  refine g_copy_i hF kw_398 q_b2 q_b3 k4a k4b k4c k4d k4e (by omega) (Nat.le_of_ble_eq_true rfl) dX3_copyFrom_36 ?_
  rw [← e4v]
  refine g_aload_n hF 1 rfl rfl dX3_copyFrom_39 ?_
  obtain ⟨b5, h5, h⟩ := gbnd h
  obtain ⟨g5, l5, q_b5⟩ := ldr_sp h5
  refine g_get_r hF g5 fl_RX3_26 q1 dX3_copyFrom_40 ?_
  refine g_iconst (v := (0 : Int32)) hF rfl dX3_copyFrom_43 ?_
  refine g_aload_n hF 0 rfl rfl dX3_copyFrom_44 ?_
  obtain ⟨b6, h6, h⟩ := gbnd h
  obtain ⟨g6, l6, q_b6⟩ := ldr_sp h6
  refine g_get_r hF g6 fl_RX3_26 q0 dX3_copyFrom_45 ?_
  refine g_iconst (v := (0 : Int32)) hF rfl dX3_copyFrom_48 ?_
  refine g_bipush (v := (8 : Int32)) hF rfl dX3_copyFrom_49 ?_
  obtain ⟨M7, h7, h⟩ := gbnd h
  obtain ⟨k7a, k7b, k7c, k7d, k7e, e7v⟩ := acp_sp q_b5 q_b6 h7
  refine g_copy_i hF kw_398 q_b5 q_b6 k7a k7b k7c k7d k7e (by omega) (Nat.le_of_ble_eq_true rfl) dX3_copyFrom_51 ?_
  rw [← e7v]
  refine g_aload_n hF 0 rfl rfl dX3_copyFrom_54 ?_
  refine g_aload_n hF 1 rfl rfl dX3_copyFrom_55 ?_
  refine g_get_i hF fl_RX3_29 q1 dX3_copyFrom_56 ?_
  refine g_put_i hF rfl rfl fl_RX3_29 q0 dX3_copyFrom_59 ?_
  cases h
  exact g_ret_v hF rfl dX3_copyFrom_62 hR (Nat.zero_le _) (Nat.zero_le _)
theorem c_X3_copyFrom {d : Nat} {T : gT} {M : gM} {m_a0 m_a1 : Nat} {a0 : Nat} {a1 : Nat} {r : gM} (hd : 1 ≤ d) (q0 : T[a0]? = some (3, m_a0)) (q1 : T[a1]? = some (3, m_a1)) (h : f_X3_copyFrom T M a0 a1 = some (r)) : gRet d yX3_copyFrom cX3_copyFrom 2 none 0 0 [.ref a0, .ref a1] T M (gSame T none r) := by
  refine gRet_of (own := RX3) (by decide) rfl (Nat.le_of_ble_eq_true rfl) (fun Z ad0 hn h0 hF => ?_)
  exact t_X3_copyFrom hF hn hd q0 q1 h ⟨rfl, rfl, rfl, rfl⟩
theorem t_X0_copyFrom_B34 {Z : gZ} {d mc ms : Nat} {Acc : Option Value → (Nat → Nat) → gT → gM → Prop} {AccX : Nat → (Nat → Nat) → gT → gM → Prop} {ad : Nat → Nat} {T : gT} {M : gM} {m_a0 m_a1 : Nat} {a0 : Nat} {a1 : Nat} {i2 : Int32} {o : (gM) ⊕ (Int32 × gM)} (hF : gFix Z cX0_copyFrom RX0 "copyFrom" none d mc ms Acc AccX) (hn : Z.2.2.2.2.2.1 = 3) (hd : 2 ≤ d) (q0 : T[a0]? = some (0, m_a0)) (q1 : T[a1]? = some (0, m_a1)) (h : f_X0_copyFrom_B34 T M a0 a1 i2 = some o) (hE : ∀ e9, o = .inl e9 → gG Z ad T e9 0 0 61 [] []) (hN : ∀ n9, o = .inr n9 → gG Z ad T n9.2 0 0 34 [(0, .ref a0), (1, .ref a1), (2, .int n9.1)] []) : gG Z ad T M 0 0 34 [(0, .ref a0), (1, .ref a1), (2, .int i2)] [] := by
  unfold f_X0_copyFrom_B34 at h
  refine g_iload_n hF 2 rfl rfl dX0_copyFrom_34 ?_
  refine g_bipush (v := (8 : Int32)) hF rfl dX0_copyFrom_35 ?_
  refine g_icmp_ge (tgt := 61) hF dX0_copyFrom_37 (by decide) (fun c1 => ?_) (fun c1 => ?_)
  · replace h := gif_t c1 h
    exact gG_sub [] rfl (hE _ (Option.some.inj h).symm)
  · replace h := gif_f c1 h
    refine g_aload_n hF 0 rfl rfl dX0_copyFrom_40 ?_
    obtain ⟨b2, h2, h⟩ := gbnd h
    obtain ⟨g2, l2, q_b2⟩ := ldr_sp h2
    refine g_get_r hF g2 fl_RX0_11 q0 dX0_copyFrom_41 ?_
    refine g_iload_n hF 2 rfl rfl dX0_copyFrom_44 ?_
    obtain ⟨b3, h3, h⟩ := gbnd h
    obtain ⟨i3h, g3, l3, q_b3⟩ := aldr_sp q_b2 h3
    refine g_aald hF q_b2 (Or.inr (Or.inl ⟨rfl, rfl⟩)) i3h g3 dX0_copyFrom_45 ?_
    refine g_aload_n hF 1 rfl rfl dX0_copyFrom_46 ?_
    obtain ⟨b4, h4, h⟩ := gbnd h
    obtain ⟨g4, l4, q_b4⟩ := ldr_sp h4
    refine g_get_r hF g4 fl_RX0_11 q1 dX0_copyFrom_47 ?_
    refine g_iload_n hF 2 rfl rfl dX0_copyFrom_50 ?_
    obtain ⟨b5, h5, h⟩ := gbnd h
    obtain ⟨i5h, g5, l5, q_b5⟩ := aldr_sp q_b4 h5
    refine g_aald hF q_b4 (Or.inr (Or.inl ⟨rfl, rfl⟩)) i5h g5 dX0_copyFrom_51 ?_
    obtain ⟨x6, h6, h⟩ := gbnd h
    refine g_callVN hF my_X3_copyFrom kn_394 kw_396 kw_2 gC_3.1 (by decide) q_b3 (c_X3_copyFrom (d := d - 1) (by omega) q_b3 q_b5 h6) (by omega) (Nat.zero_le _) (Nat.zero_le _) rfl rfl (Nat.le_of_ble_eq_true rfl) dX0_copyFrom_52 (g_sameN ?_)
    refine g_iinc (n := 1) (v := (i2 + (1 : Int32))) (ls' := [(2, .int (i2 + (1 : Int32))), (0, .ref a0), (1, .ref a1)]) hF 2 rfl rfl (by rw [hn]; decide) rfl dX0_copyFrom_55 ?_
    refine g_goto (tgt := 34) hF dX0_copyFrom_58 (by decide) ?_
    exact gG_sub [1, 2, 0] rfl (hN _ (Option.some.inj h).symm)
theorem t_X0_copyFrom_L34 {Z : gZ} {d mc ms : Nat} {Acc : Option Value → (Nat → Nat) → gT → gM → Prop} {AccX : Nat → (Nat → Nat) → gT → gM → Prop} {ad : Nat → Nat} {T : gT} {M : gM} {m_a0 m_a1 : Nat} {a0 : Nat} {a1 : Nat} {i2 : Int32} {o : gM} (hF : gFix Z cX0_copyFrom RX0 "copyFrom" none d mc ms Acc AccX) (hn : Z.2.2.2.2.2.1 = 3) (hd : 2 ≤ d) (q0 : T[a0]? = some (0, m_a0)) (q1 : T[a1]? = some (0, m_a1)) (h : gloop (fun x => f_X0_copyFrom_B34 T x.2 a0 a1 x.1) gFU (i2, M) = some o) (hE : gG Z ad T o 0 0 61 [] []) : gG Z ad T M 0 0 34 [(0, .ref a0), (1, .ref a1), (2, .int i2)] [] := by
  refine gloop_ind (P := fun x0 : Int32 × gM => gG Z ad T x0.2 0 0 34 [(0, .ref a0), (1, .ref a1), (2, .int x0.1)] []) (e := o) (fun x0 y hy hl hr => ?_) gFU (i2, M) h
  exact t_X0_copyFrom_B34 hF hn hd q0 q1 hy (fun e9 q9 => by rw [hl _ q9]; exact hE) (fun n9 q9 => hr n9 q9)
theorem t_X0_copyFrom {Z : gZ} {d mc ms : Nat} {Acc : Option Value → (Nat → Nat) → gT → gM → Prop} {AccX : Nat → (Nat → Nat) → gT → gM → Prop} {ad : Nat → Nat} {T : gT} {M : gM} {m_a0 m_a1 : Nat} {a0 : Nat} {a1 : Nat} {o : gM} (hF : gFix Z cX0_copyFrom RX0 "copyFrom" none d mc ms Acc AccX) (hn : Z.2.2.2.2.2.1 = 3) (hd : 2 ≤ d) (q0 : T[a0]? = some (0, m_a0)) (q1 : T[a1]? = some (0, m_a1)) (h : f_X0_copyFrom T M a0 a1 = some o) (hR : Acc none ad T o) : gG Z ad T M 0 0 0 [(0, .ref a0), (1, .ref a1)] [] := by
  unfold f_X0_copyFrom at h
  refine g_aload_n hF 0 rfl rfl dX0_copyFrom_0 ?_
  refine g_aload_n hF 1 rfl rfl dX0_copyFrom_1 ?_
  refine g_get_i hF fl_RX0_17 q1 dX0_copyFrom_2 ?_
  refine g_put_i hF rfl rfl fl_RX0_17 q0 dX0_copyFrom_5 ?_
  refine g_aload_n hF 0 rfl rfl dX0_copyFrom_8 ?_
  refine g_aload_n hF 1 rfl rfl dX0_copyFrom_9 ?_
  refine g_get_i hF fl_RX0_21 q1 dX0_copyFrom_10 ?_
  refine g_put_i hF rfl rfl fl_RX0_21 q0 dX0_copyFrom_13 ?_
  refine g_aload_n hF 0 rfl rfl dX0_copyFrom_16 ?_
  refine g_aload_n hF 1 rfl rfl dX0_copyFrom_17 ?_
  refine g_get_i hF fl_RX0_24 q1 dX0_copyFrom_18 ?_
  refine g_put_i hF rfl rfl fl_RX0_24 q0 dX0_copyFrom_21 ?_
  refine g_aload_n hF 0 rfl rfl dX0_copyFrom_24 ?_
  refine g_aload_n hF 1 rfl rfl dX0_copyFrom_25 ?_
  obtain ⟨b7, h7, h⟩ := gbnd h
  obtain ⟨g7, l7, q_b7⟩ := ldr_sp h7
  refine g_get_r hF g7 fl_RX0_32 q1 dX0_copyFrom_26 ?_
  refine g_put_r hF (fun _ => rfl) (fun _ => rfl) (gT_lt q_b7) fl_RX0_32 q0 dX0_copyFrom_29 ?_
  refine g_iconst (v := (0 : Int32)) hF rfl dX0_copyFrom_32 ?_
  refine g_istore_n (ls' := [(2, .int (0 : Int32)), (0, .ref a0), (1, .ref a1)]) hF rfl (by rw [hn]; decide) rfl dX0_copyFrom_33 ?_
  obtain ⟨x8, h8, h⟩ := gbnd h
  refine gG_sub [1, 2, 0] rfl (t_X0_copyFrom_L34 hF hn hd q0 q1 h8 ?_)
  cases h
  exact g_ret_v hF rfl dX0_copyFrom_61 hR (Nat.zero_le _) (Nat.zero_le _)
theorem c_X0_copyFrom {d : Nat} {T : gT} {M : gM} {m_a0 m_a1 : Nat} {a0 : Nat} {a1 : Nat} {r : gM} (hd : 2 ≤ d) (q0 : T[a0]? = some (0, m_a0)) (q1 : T[a1]? = some (0, m_a1)) (h : f_X0_copyFrom T M a0 a1 = some (r)) : gRet d yX0_copyFrom cX0_copyFrom 3 none 0 0 [.ref a0, .ref a1] T M (gSame T none r) := by
  refine gRet_of (own := RX0) (by decide) rfl (Nat.le_of_ble_eq_true rfl) (fun Z ad0 hn h0 hF => ?_)
  exact t_X0_copyFrom hF hn hd q0 q1 h ⟨rfl, rfl, rfl, rfl⟩
theorem t_X3_isLoaded {Z : gZ} {d mc ms : Nat} {Acc : Option Value → (Nat → Nat) → gT → gM → Prop} {AccX : Nat → (Nat → Nat) → gT → gM → Prop} {ad : Nat → Nat} {T : gT} {M : gM} {m_a0 : Nat} {a0 : Nat} {o : Int32} (hF : gFix Z cX3_isLoaded RX3 "isLoaded" (some .boolean) d mc ms Acc AccX) (hn : Z.2.2.2.2.2.1 = 1) (hd : 1 ≤ d) (q0 : T[a0]? = some (3, m_a0)) (h : f_X3_isLoaded T M a0 = some o) (hR : Acc (some (.int o)) ad T M) : gG Z ad T M 0 0 0 [(0, .ref a0)] [] := by
  unfold f_X3_isLoaded at h
  refine g_aload_n hF 0 rfl rfl dX3_isLoaded_0 ?_
  refine g_get_i hF fl_RX3_19 q0 dX3_isLoaded_1 ?_
  refine g_iconst (v := (-1 : Int32)) hF rfl dX3_isLoaded_4 ?_
  refine g_icmp_eq (tgt := 12) hF dX3_isLoaded_5 (by decide) (fun c1 => ?_) (fun c1 => ?_)
  · replace h := gif_t c1 h
    refine g_iconst (v := (0 : Int32)) hF rfl dX3_isLoaded_12 ?_
    cases h
    exact g_ret_i hF rfl rfl dX3_isLoaded_13 hR (Nat.zero_le _) (Nat.zero_le _)
  · replace h := gif_f c1 h
    refine g_iconst (v := (1 : Int32)) hF rfl dX3_isLoaded_8 ?_
    refine g_goto (tgt := 13) hF dX3_isLoaded_9 (by decide) ?_
    cases h
    exact g_ret_i hF rfl rfl dX3_isLoaded_13 hR (Nat.zero_le _) (Nat.zero_le _)
theorem c_X3_isLoaded {d : Nat} {T : gT} {M : gM} {m_a0 : Nat} {a0 : Nat} {r : Int32} (hd : 1 ≤ d) (q0 : T[a0]? = some (3, m_a0)) (h : f_X3_isLoaded T M a0 = some (r)) : gRet d yX3_isLoaded cX3_isLoaded 1 (some .boolean) 0 0 [.ref a0] T M (gSame T (some (.int r)) M) := by
  refine gRet_of (own := RX3) (by decide) rfl (Nat.le_of_ble_eq_true rfl) (fun Z ad0 hn h0 hF => ?_)
  exact t_X3_isLoaded hF hn hd q0 h ⟨rfl, rfl, rfl, rfl⟩
theorem t_X3_hasOffer {Z : gZ} {d mc ms : Nat} {Acc : Option Value → (Nat → Nat) → gT → gM → Prop} {AccX : Nat → (Nat → Nat) → gT → gM → Prop} {ad : Nat → Nat} {T : gT} {M : gM} {m_a0 : Nat} {a0 : Nat} {i1 : Int32} {o : Int32} (hF : gFix Z cX3_hasOffer RX3 "hasOffer" (some .boolean) d mc ms Acc AccX) (hn : Z.2.2.2.2.2.1 = 2) (hd : 1 ≤ d) (q0 : T[a0]? = some (3, m_a0)) (h : f_X3_hasOffer T M a0 i1 = some o) (hR : Acc (some (.int o)) ad T M) : gG Z ad T M 0 0 0 [(0, .ref a0), (1, .int i1)] [] := by
  unfold f_X3_hasOffer at h
  refine g_aload_n hF 0 rfl rfl dX3_hasOffer_0 ?_
  obtain ⟨b1, h1, h⟩ := gbnd h
  obtain ⟨g1, l1, q_b1⟩ := ldr_sp h1
  refine g_get_r hF g1 fl_RX3_22 q0 dX3_hasOffer_1 ?_
  refine g_iload_n hF 1 rfl rfl dX3_hasOffer_4 ?_
  obtain ⟨v2, h2, h⟩ := gbnd h
  obtain ⟨i2h, e2v⟩ := ald_sp q_b1 h2
  refine g_iald hF q_b1 i2h dX3_hasOffer_5 ?_
  rw [← e2v]
  refine g_iconst (v := (-1 : Int32)) hF rfl dX3_hasOffer_6 ?_
  refine g_icmp_eq (tgt := 14) hF dX3_hasOffer_7 (by decide) (fun c3 => ?_) (fun c3 => ?_)
  · replace h := gif_t c3 h
    refine g_iconst (v := (0 : Int32)) hF rfl dX3_hasOffer_14 ?_
    cases h
    exact g_ret_i hF rfl rfl dX3_hasOffer_15 hR (Nat.zero_le _) (Nat.zero_le _)
  · replace h := gif_f c3 h
    refine g_iconst (v := (1 : Int32)) hF rfl dX3_hasOffer_10 ?_
    refine g_goto (tgt := 15) hF dX3_hasOffer_11 (by decide) ?_
    cases h
    exact g_ret_i hF rfl rfl dX3_hasOffer_15 hR (Nat.zero_le _) (Nat.zero_le _)
theorem c_X3_hasOffer {d : Nat} {T : gT} {M : gM} {m_a0 : Nat} {a0 : Nat} {i1 : Int32} {r : Int32} (hd : 1 ≤ d) (q0 : T[a0]? = some (3, m_a0)) (h : f_X3_hasOffer T M a0 i1 = some (r)) : gRet d yX3_hasOffer cX3_hasOffer 2 (some .boolean) 0 0 [.ref a0, .int i1] T M (gSame T (some (.int r)) M) := by
  refine gRet_of (own := RX3) (by decide) rfl (Nat.le_of_ble_eq_true rfl) (fun Z ad0 hn h0 hF => ?_)
  exact t_X3_hasOffer hF hn hd q0 h ⟨rfl, rfl, rfl, rfl⟩
theorem t_X0_isCandidate_29 {Z : gZ} {d mc ms : Nat} {Acc : Option Value → (Nat → Nat) → gT → gM → Prop} {AccX : Nat → (Nat → Nat) → gT → gM → Prop} {ad : Nat → Nat} {T : gT} {M : gM} {o : Int32} (hF : gFix Z cX0_isCandidate RX0 "isCandidate" (some .boolean) d mc ms Acc AccX) (hn : Z.2.2.2.2.2.1 = 3) (hd : 2 ≤ d)  (h : f_X0_isCandidate_29 T M  = some o) (hR : Acc (some (.int o)) ad T M) : gG Z ad T M 0 0 29 [] [] := by
  unfold f_X0_isCandidate_29 at h
  refine g_iconst (v := (0 : Int32)) hF rfl dX0_isCandidate_29 ?_
  cases h
  exact g_ret_i hF rfl rfl dX0_isCandidate_30 hR (Nat.zero_le _) (Nat.zero_le _)
theorem t_X0_isCandidate {Z : gZ} {d mc ms : Nat} {Acc : Option Value → (Nat → Nat) → gT → gM → Prop} {AccX : Nat → (Nat → Nat) → gT → gM → Prop} {ad : Nat → Nat} {T : gT} {M : gM} {m_a0 : Nat} {a0 : Nat} {i1 : Int32} {i2 : Int32} {o : Int32} (hF : gFix Z cX0_isCandidate RX0 "isCandidate" (some .boolean) d mc ms Acc AccX) (hn : Z.2.2.2.2.2.1 = 3) (hd : 2 ≤ d) (q0 : T[a0]? = some (0, m_a0)) (h : f_X0_isCandidate T M a0 i1 i2 = some o) (hR : Acc (some (.int o)) ad T M) : gG Z ad T M 0 0 0 [(0, .ref a0), (1, .int i1), (2, .int i2)] [] := by
  unfold f_X0_isCandidate at h
  refine g_aload_n hF 0 rfl rfl dX0_isCandidate_0 ?_
  obtain ⟨b1, h1, h⟩ := gbnd h
  obtain ⟨g1, l1, q_b1⟩ := ldr_sp h1
  refine g_get_r hF g1 fl_RX0_11 q0 dX0_isCandidate_1 ?_
  refine g_iload_n hF 1 rfl rfl dX0_isCandidate_4 ?_
  obtain ⟨b2, h2, h⟩ := gbnd h
  obtain ⟨i2h, g2, l2, q_b2⟩ := aldr_sp q_b1 h2
  refine g_aald hF q_b1 (Or.inr (Or.inl ⟨rfl, rfl⟩)) i2h g2 dX0_isCandidate_5 ?_
  obtain ⟨x3, h3, h⟩ := gbnd h
  refine g_callVN hF my_X3_isLoaded kn_425 kw_407 kw_4 gC_3.1 (by decide) q_b2 (c_X3_isLoaded (d := d - 1) (by omega) q_b2 h3) (by omega) (Nat.zero_le _) (Nat.zero_le _) rfl rfl (Nat.le_of_ble_eq_true rfl) dX0_isCandidate_6 (g_sameS ?_)
  refine g_if_eq (tgt := 29) hF dX0_isCandidate_9 (by decide) (fun c4 => ?_) (fun c4 => ?_)
  · replace h := gif_t c4 h
    exact gG_sub [] rfl (t_X0_isCandidate_29 hF hn hd  h hR)
  · replace h := gif_f c4 h
    refine g_aload_n hF 0 rfl rfl dX0_isCandidate_12 ?_
    obtain ⟨b5, h5, h⟩ := gbnd h
    obtain ⟨g5, l5, q_b5⟩ := ldr_sp h5
    refine g_get_r hF g5 fl_RX0_11 q0 dX0_isCandidate_13 ?_
    refine g_iload_n hF 1 rfl rfl dX0_isCandidate_16 ?_
    obtain ⟨b6, h6, h⟩ := gbnd h
    obtain ⟨i6h, g6, l6, q_b6⟩ := aldr_sp q_b5 h6
    refine g_aald hF q_b5 (Or.inr (Or.inl ⟨rfl, rfl⟩)) i6h g6 dX0_isCandidate_17 ?_
    refine g_iload_n hF 2 rfl rfl dX0_isCandidate_18 ?_
    obtain ⟨x7, h7, h⟩ := gbnd h
    refine g_callVN hF my_X3_hasOffer kn_459 kw_419 kw_7 gC_3.1 (by decide) q_b6 (c_X3_hasOffer (d := d - 1) (by omega) q_b6 h7) (by omega) (Nat.zero_le _) (Nat.zero_le _) rfl rfl (Nat.le_of_ble_eq_true rfl) dX0_isCandidate_19 (g_sameS ?_)
    refine g_if_eq (tgt := 29) hF dX0_isCandidate_22 (by decide) (fun c8 => ?_) (fun c8 => ?_)
    · replace h := gif_t c8 h
      exact gG_sub [] rfl (t_X0_isCandidate_29 hF hn hd  h hR)
    · replace h := gif_f c8 h
      refine g_iconst (v := (1 : Int32)) hF rfl dX0_isCandidate_25 ?_
      refine g_goto (tgt := 30) hF dX0_isCandidate_26 (by decide) ?_
      cases h
      exact g_ret_i hF rfl rfl dX0_isCandidate_30 hR (Nat.zero_le _) (Nat.zero_le _)
theorem c_X0_isCandidate {d : Nat} {T : gT} {M : gM} {m_a0 : Nat} {a0 : Nat} {i1 : Int32} {i2 : Int32} {r : Int32} (hd : 2 ≤ d) (q0 : T[a0]? = some (0, m_a0)) (h : f_X0_isCandidate T M a0 i1 i2 = some (r)) : gRet d yX0_isCandidate cX0_isCandidate 3 (some .boolean) 0 0 [.ref a0, .int i1, .int i2] T M (gSame T (some (.int r)) M) := by
  refine gRet_of (own := RX0) (by decide) rfl (Nat.le_of_ble_eq_true rfl) (fun Z ad0 hn h0 hF => ?_)
  exact t_X0_isCandidate hF hn hd q0 h ⟨rfl, rfl, rfl, rfl⟩
theorem t_X0_takeOut_58 {Z : gZ} {d mc ms : Nat} {Acc : Option Value → (Nat → Nat) → gT → gM → Prop} {AccX : Nat → (Nat → Nat) → gT → gM → Prop} {ad : Nat → Nat} {T : gT} {M : gM} {m_a0 : Nat} {a0 : Nat} {i2 : Int32} {i3 : Int32} {o : (gM) ⊕ (Int32 × gM)} (hF : gFix Z cX0_takeOut RX0 "takeOut" none d mc ms Acc AccX) (hn : Z.2.2.2.2.2.1 = 4) (hd : 1 ≤ d) (q0 : T[a0]? = some (0, m_a0)) (h : f_X0_takeOut_58 T M a0 i2 i3 = some o) (hE : ∀ e9, o = .inl e9 → gG Z ad T e9 0 0 64 [] []) (hN : ∀ n9, o = .inr n9 → gG Z ad T n9.2 0 0 22 [(0, .ref a0), (2, .int i2), (3, .int n9.1)] []) : gG Z ad T M 0 0 58 [(0, .ref a0), (2, .int i2), (3, .int i3)] [] := by
  unfold f_X0_takeOut_58 at h
  refine g_iinc (n := 1) (v := (i3 + (1 : Int32))) (ls' := [(3, .int (i3 + (1 : Int32))), (0, .ref a0), (2, .int i2)]) hF 2 rfl rfl (by rw [hn]; decide) rfl dX0_takeOut_58 ?_
  refine g_goto (tgt := 22) hF dX0_takeOut_61 (by decide) ?_
  exact gG_sub [1, 2, 0] rfl (hN _ (Option.some.inj h).symm)
theorem t_X0_takeOut_B22 {Z : gZ} {d mc ms : Nat} {Acc : Option Value → (Nat → Nat) → gT → gM → Prop} {AccX : Nat → (Nat → Nat) → gT → gM → Prop} {ad : Nat → Nat} {T : gT} {M : gM} {m_a0 : Nat} {a0 : Nat} {i2 : Int32} {i3 : Int32} {o : (gM) ⊕ (Int32 × gM)} (hF : gFix Z cX0_takeOut RX0 "takeOut" none d mc ms Acc AccX) (hn : Z.2.2.2.2.2.1 = 4) (hd : 1 ≤ d) (q0 : T[a0]? = some (0, m_a0)) (h : f_X0_takeOut_B22 T M a0 i2 i3 = some o) (hE : ∀ e9, o = .inl e9 → gG Z ad T e9 0 0 64 [] []) (hN : ∀ n9, o = .inr n9 → gG Z ad T n9.2 0 0 22 [(0, .ref a0), (2, .int i2), (3, .int n9.1)] []) : gG Z ad T M 0 0 22 [(0, .ref a0), (2, .int i2), (3, .int i3)] [] := by
  unfold f_X0_takeOut_B22 at h
  refine g_iload_n hF 2 rfl rfl dX0_takeOut_22 ?_
  refine g_aload_n hF 0 rfl rfl dX0_takeOut_23 ?_
  refine g_get_i hF fl_RX0_17 q0 dX0_takeOut_24 ?_
  refine g_icmp_ge (tgt := 64) hF dX0_takeOut_27 (by decide) (fun c1 => ?_) (fun c1 => ?_)
  · replace h := gif_t c1 h
    exact gG_sub [] rfl (hE _ (Option.some.inj h).symm)
  · replace h := gif_f c1 h
    refine g_aload_n hF 0 rfl rfl dX0_takeOut_30 ?_
    obtain ⟨b2, h2, h⟩ := gbnd h
    obtain ⟨g2, l2, q_b2⟩ := ldr_sp h2
    refine g_get_r hF g2 fl_RX0_11 q0 dX0_takeOut_31 ?_
    refine g_iload_n hF 2 rfl rfl dX0_takeOut_34 ?_
    obtain ⟨b3, h3, h⟩ := gbnd h
    obtain ⟨i3h, g3, l3, q_b3⟩ := aldr_sp q_b2 h3
    refine g_aald hF q_b2 (Or.inr (Or.inl ⟨rfl, rfl⟩)) i3h g3 dX0_takeOut_35 ?_
    refine g_get_iN hF fn_RX0_49 q_b3 dX0_takeOut_36 ?_
    refine g_iload_n hF 1 rfl rfl dX0_takeOut_39 ?_
    refine g_icmp_le (tgt := 58) hF dX0_takeOut_40 (by decide) (fun c4 => ?_) (fun c4 => ?_)
    · replace h := gif_t c4 h
      exact gG_sub [0, 1, 2] rfl (t_X0_takeOut_58 hF hn hd q0 h hE hN)
    · replace h := gif_f c4 h
      refine g_aload_n hF 0 rfl rfl dX0_takeOut_43 ?_
      obtain ⟨b5, h5, h⟩ := gbnd h
      obtain ⟨g5, l5, q_b5⟩ := ldr_sp h5
      refine g_get_r hF g5 fl_RX0_11 q0 dX0_takeOut_44 ?_
      refine g_iload_n hF 2 rfl rfl dX0_takeOut_47 ?_
      obtain ⟨b6, h6, h⟩ := gbnd h
      obtain ⟨i6h, g6, l6, q_b6⟩ := aldr_sp q_b5 h6
      refine g_aald hF q_b5 (Or.inr (Or.inl ⟨rfl, rfl⟩)) i6h g6 dX0_takeOut_48 ?_
      refine g_dup hF rfl dX0_takeOut_49 ?_
      refine g_get_iN hF fn_RX0_49 q_b6 dX0_takeOut_50 ?_
      refine g_iconst (v := (1 : Int32)) hF rfl dX0_takeOut_53 ?_
      refine g_isub hF dX0_takeOut_54 ?_
      refine g_putN_i hF rfl rfl fn_RX0_49 q_b6 dX0_takeOut_55 ?_
      exact gG_sub [0, 1, 2] rfl (t_X0_takeOut_58 hF hn hd q0 h hE hN)
theorem t_X0_takeOut_L22 {Z : gZ} {d mc ms : Nat} {Acc : Option Value → (Nat → Nat) → gT → gM → Prop} {AccX : Nat → (Nat → Nat) → gT → gM → Prop} {ad : Nat → Nat} {T : gT} {M : gM} {m_a0 : Nat} {a0 : Nat} {i2 : Int32} {i3 : Int32} {o : gM} (hF : gFix Z cX0_takeOut RX0 "takeOut" none d mc ms Acc AccX) (hn : Z.2.2.2.2.2.1 = 4) (hd : 1 ≤ d) (q0 : T[a0]? = some (0, m_a0)) (h : gloop (fun x => f_X0_takeOut_B22 T x.2 a0 i2 x.1) gFU (i3, M) = some o) (hE : gG Z ad T o 0 0 64 [] []) : gG Z ad T M 0 0 22 [(0, .ref a0), (2, .int i2), (3, .int i3)] [] := by
  refine gloop_ind (P := fun x0 : Int32 × gM => gG Z ad T x0.2 0 0 22 [(0, .ref a0), (2, .int i2), (3, .int x0.1)] []) (e := o) (fun x0 y hy hl hr => ?_) gFU (i3, M) h
  exact t_X0_takeOut_B22 hF hn hd q0 hy (fun e9 q9 => by rw [hl _ q9]; exact hE) (fun n9 q9 => hr n9 q9)
theorem t_X0_takeOut {Z : gZ} {d mc ms : Nat} {Acc : Option Value → (Nat → Nat) → gT → gM → Prop} {AccX : Nat → (Nat → Nat) → gT → gM → Prop} {ad : Nat → Nat} {T : gT} {M : gM} {m_a0 : Nat} {a0 : Nat} {i1 : Int32} {o : gM} (hF : gFix Z cX0_takeOut RX0 "takeOut" none d mc ms Acc AccX) (hn : Z.2.2.2.2.2.1 = 4) (hd : 1 ≤ d) (q0 : T[a0]? = some (0, m_a0)) (h : f_X0_takeOut T M a0 i1 = some o) (hR : Acc none ad T o) : gG Z ad T M 0 0 0 [(0, .ref a0), (1, .int i1)] [] := by
  unfold f_X0_takeOut at h
  refine g_aload_n hF 0 rfl rfl dX0_takeOut_0 ?_
  obtain ⟨b7, h7, h⟩ := gbnd h
  obtain ⟨g7, l7, q_b7⟩ := ldr_sp h7
  refine g_get_r hF g7 fl_RX0_11 q0 dX0_takeOut_1 ?_
  refine g_iload_n hF 1 rfl rfl dX0_takeOut_4 ?_
  obtain ⟨b8, h8, h⟩ := gbnd h
  obtain ⟨i8h, g8, l8, q_b8⟩ := aldr_sp q_b7 h8
  refine g_aald hF q_b7 (Or.inr (Or.inl ⟨rfl, rfl⟩)) i8h g8 dX0_takeOut_5 ?_
  refine g_get_iN hF fn_RX0_49 q_b8 dX0_takeOut_6 ?_
  refine g_istore_n (ls' := [(2, .int (gi M b8 2)), (0, .ref a0), (1, .int i1)]) hF rfl (by rw [hn]; decide) rfl dX0_takeOut_9 ?_
  refine g_aload_n hF 1 rfl rfl dX0_takeOut_10 ?_
  obtain ⟨b9, h9, h⟩ := gbnd h
  obtain ⟨g9, l9, q_b9⟩ := ldr_sp h9
  refine g_get_r hF g9 fl_RX0_11 q0 dX0_takeOut_11 ?_
  refine g_iload_n hF 2 rfl rfl dX0_takeOut_14 ?_
  obtain ⟨b10, h10, h⟩ := gbnd h
  obtain ⟨i10h, g10, l10, q_b10⟩ := aldr_sp q_b9 h10
  refine g_aald hF q_b9 (Or.inr (Or.inl ⟨rfl, rfl⟩)) i10h g10 dX0_takeOut_15 ?_
  refine g_iconst (v := (-1 : Int32)) hF rfl dX0_takeOut_16 ?_
  refine g_putN_i hF rfl rfl fn_RX0_49 q_b10 dX0_takeOut_17 ?_
  refine g_iconst (v := (0 : Int32)) hF rfl dX0_takeOut_20 ?_
  refine g_istore_n (ls' := [(3, .int (0 : Int32)), (2, .int (gi M b8 2)), (0, .ref a0), (1, .int i1)]) hF rfl (by rw [hn]; decide) rfl dX0_takeOut_21 ?_
  obtain ⟨x11, h11, h⟩ := gbnd h
  refine gG_sub [2, 1, 0] rfl (t_X0_takeOut_L22 hF hn hd q0 h11 ?_)
  cases h
  exact g_ret_v hF rfl dX0_takeOut_64 hR (Nat.zero_le _) (Nat.zero_le _)
theorem c_X0_takeOut {d : Nat} {T : gT} {M : gM} {m_a0 : Nat} {a0 : Nat} {i1 : Int32} {r : gM} (hd : 1 ≤ d) (q0 : T[a0]? = some (0, m_a0)) (h : f_X0_takeOut T M a0 i1 = some (r)) : gRet d yX0_takeOut cX0_takeOut 4 none 0 0 [.ref a0, .int i1] T M (gSame T none r) := by
  refine gRet_of (own := RX0) (by decide) rfl (Nat.le_of_ble_eq_true rfl) (fun Z ad0 hn h0 hF => ?_)
  exact t_X0_takeOut hF hn hd q0 h ⟨rfl, rfl, rfl, rfl⟩
