theorem t_X5_readText_B58 {Z : gZ} {d mc ms : Nat} {Acc : Option Value → (Nat → Nat) → gT → gM → Prop} {AccX : Nat → (Nat → Nat) → gT → gM → Prop} {ad : Nat → Nat} {T : gT} {M : gM} {m_a0 : Nat} {a0 : Nat} {i3 : Int32} {o : ((Int32 × gT × gM) ⊕ (gM)) ⊕ (Int32 × gM)} (hF : gFix Z cX5_readText RX5 "readText" (some .boolean) d mc ms Acc AccX) (hn : Z.2.2.2.2.2.1 = 4) (hd : 55 ≤ d) (q0 : T[a0]? = some (5, m_a0)) (h : f_X5_readText_B58 T M a0 i3 = some o) (hR : ∀ r9, o = .inl (.inl r9) → ∀ ad1 : Nat → Nat, gExt T r9.2.1 → (∀ a : Nat, a < T.length → ad1 a = ad a) → Acc (some (.int r9.1)) ad1 r9.2.1 r9.2.2) (hE : ∀ e9, o = .inl (.inr e9) → gG Z ad T e9 0 0 99 [(0, .ref a0)] []) (hN : ∀ n9, o = .inr n9 → gG Z ad T n9.2 0 0 58 [(0, .ref a0), (3, .int n9.1)] []) : gG Z ad T M 0 0 58 [(0, .ref a0), (3, .int i3)] [] := by
  unfold f_X5_readText_B58 at h
  refine g_iload_n hF 1 rfl rfl dX5_readText_58 ?_
  refine g_sipush (v := (800 : Int32)) hF rfl dX5_readText_59 ?_
  refine g_icmp_ge (tgt := 99) hF dX5_readText_62 (by decide) (fun c1 => ?_) (fun c1 => ?_)
  · replace h := gif_t c1 h
    exact gG_sub [0] rfl (hE _ (Option.some.inj h).symm)
  · replace h := gif_f c1 h
    refine g_aload_n hF 0 rfl rfl dX5_readText_65 ?_
    obtain ⟨b2, h2, h⟩ := gbnd h
    obtain ⟨g2, l2, q_b2⟩ := ldr_sp h2
    refine g_get_r hF g2 fl_RX5_12 q0 dX5_readText_66 ?_
    refine g_get_iN hF fn_RX5_79 q_b2 dX5_readText_69 ?_
    refine g_if_eq (tgt := 99) hF dX5_readText_72 (by decide) (fun c3 => ?_) (fun c3 => ?_)
    · replace h := gif_t c3 h
      exact gG_sub [0] rfl (hE _ (Option.some.inj h).symm)
    · replace h := gif_f c3 h
      refine g_aload_n hF 0 rfl rfl dX5_readText_75 ?_
      obtain ⟨x4, h4, h⟩ := gbnd h
      refine g_callV hF my_X5_readStatement kw_830 kw_832 kw_34 gC_5.1 (by decide) q0 (c_X5_readStatement (d := d - 1) (by omega) q0 h4) (by omega) (by omega) (by omega) rfl rfl (Nat.le_of_ble_eq_true rfl) dX5_readText_76 (g_sameS ?_)
      refine g_if_eq (tgt := 91) hF dX5_readText_79 (by decide) (fun c5 => ?_) (fun c5 => ?_)
      · replace h := gif_t c5 h
        refine g_iconst (v := (0 : Int32)) hF rfl dX5_readText_91 ?_
        cases h
        exact g_ret_i hF rfl rfl dX5_readText_92 ((hR _ rfl) ad gExt.rf (fun _ _ => rfl)) (by omega) (by omega)
      · replace h := gif_f c5 h
        refine g_aload_n hF 0 rfl rfl dX5_readText_82 ?_
        refine g_bipush (v := (59 : Int32)) hF rfl dX5_readText_83 ?_
        obtain ⟨x6, h6, h⟩ := gbnd h
        refine g_callV hF my_X5_readSign kw_822 kw_824 kw_32 gC_5.1 (by decide) q0 (c_X5_readSign (d := d - 1) (by omega) q0 h6) (by omega) (by omega) (by omega) rfl rfl (Nat.le_of_ble_eq_true rfl) dX5_readText_85 (g_sameS ?_)
        refine g_if_ne (tgt := 93) hF dX5_readText_88 (by decide) (fun c7 => ?_) (fun c7 => ?_)
        · replace h := gif_t c7 h
          refine g_iinc (n := 1) (v := (i3 + (1 : Int32))) (ls' := [(3, .int (i3 + (1 : Int32))), (0, .ref a0)]) hF 1 rfl rfl (by rw [hn]; decide) rfl dX5_readText_93 ?_
          refine g_goto (tgt := 58) hF dX5_readText_96 (by decide) ?_
          exact gG_sub [1, 0] rfl (hN _ (Option.some.inj h).symm)
        · replace h := gif_n c7 h
          refine g_iconst (v := (0 : Int32)) hF rfl dX5_readText_91 ?_
          cases h
          exact g_ret_i hF rfl rfl dX5_readText_92 ((hR _ rfl) ad gExt.rf (fun _ _ => rfl)) (by omega) (by omega)
theorem t_X5_readText_L58 {Z : gZ} {d mc ms : Nat} {Acc : Option Value → (Nat → Nat) → gT → gM → Prop} {AccX : Nat → (Nat → Nat) → gT → gM → Prop} {ad : Nat → Nat} {T : gT} {M : gM} {m_a0 : Nat} {a0 : Nat} {i3 : Int32} {o : (Int32 × gT × gM) ⊕ (gM)} (hF : gFix Z cX5_readText RX5 "readText" (some .boolean) d mc ms Acc AccX) (hn : Z.2.2.2.2.2.1 = 4) (hd : 55 ≤ d) (q0 : T[a0]? = some (5, m_a0)) (h : gloop (fun x => f_X5_readText_B58 T x.2 a0 x.1) gFU (i3, M) = some o) (hR : ∀ r9, o = .inl r9 → ∀ ad1 : Nat → Nat, gExt T r9.2.1 → (∀ a : Nat, a < T.length → ad1 a = ad a) → Acc (some (.int r9.1)) ad1 r9.2.1 r9.2.2) (hE : ∀ e9, o = .inr e9 → gG Z ad T e9 0 0 99 [(0, .ref a0)] []) : gG Z ad T M 0 0 58 [(0, .ref a0), (3, .int i3)] [] := by
  refine gloop_ind (P := fun x0 : Int32 × gM => gG Z ad T x0.2 0 0 58 [(0, .ref a0), (3, .int x0.1)] []) (e := o) (fun x0 y hy hl hr => ?_) gFU (i3, M) h
  exact t_X5_readText_B58 hF hn hd q0 hy (fun r9 q9 => hR r9 (hl _ q9).symm) (fun e9 q9 => hE e9 (hl _ q9).symm) (fun n9 q9 => hr n9 q9)
theorem t_X5_readText {Z : gZ} {d mc ms : Nat} {Acc : Option Value → (Nat → Nat) → gT → gM → Prop} {AccX : Nat → (Nat → Nat) → gT → gM → Prop} {ad : Nat → Nat} {T : gT} {M : gM} {m_a0 m_a1 : Nat} {a0 : Nat} {a1 : Nat} {i2 : Int32} {o : Int32 × gT × gM} (hF : gFix Z cX5_readText RX5 "readText" (some .boolean) d mc ms Acc AccX) (hn : Z.2.2.2.2.2.1 = 4) (hd : 55 ≤ d) (hmc : 3 ≤ mc) (hms : 813 ≤ ms) (q0 : T[a0]? = some (5, m_a0)) (q1 : T[a1]? = some (10, m_a1)) (h : f_X5_readText T M a0 a1 i2 = some o) (hR : ∀ ad1 : Nat → Nat, gExt T o.2.1 → (∀ a : Nat, a < T.length → ad1 a = ad a) → Acc (some (.int o.1)) ad1 o.2.1 o.2.2) : gG Z ad T M 0 0 0 [(0, .ref a0), (1, .ref a1), (2, .int i2)] [] := by
  unfold f_X5_readText at h
  refine g_aload_n hF 0 rfl rfl dX5_readText_0 ?_
  obtain ⟨b8, h8, h⟩ := gbnd h
  obtain ⟨g8, l8, q_b8⟩ := ldr_sp h8
  refine g_get_r hF g8 fl_RX5_21 q0 dX5_readText_1 ?_
  obtain ⟨x9, h9, h⟩ := gbnd h
  refine g_callVN hF my_X0_clear kn_720 kw_722 kw_21 gC_0.1 (by decide) q_b8 (c_X0_clear (d := d - 1) (by omega) q_b8 h9) (by omega) (by omega) (by omega) rfl rfl (Nat.le_of_ble_eq_true rfl) dX5_readText_4 (g_sameN ?_)
  refine g_aload_n hF 0 rfl rfl dX5_readText_7 ?_
  refine g_iconst (v := (0 : Int32)) hF rfl dX5_readText_8 ?_
  refine g_put_i hF rfl rfl fl_RX5_36 q0 dX5_readText_9 ?_
  refine g_aload_n hF 0 rfl rfl dX5_readText_12 ?_
  refine g_iconst (v := (-1 : Int32)) hF rfl dX5_readText_13 ?_
  obtain ⟨x10, h10, h⟩ := gbnd h
  refine g_callV hF my_X5_addCode kw_724 kw_726 kw_22 gC_5.1 (by decide) q0 (c_X5_addCode (d := d - 1) (by omega) q0 h10) (by omega) (by omega) (by omega) rfl rfl (Nat.le_of_ble_eq_true rfl) dX5_readText_14 (g_sameN ?_)
  refine g_aload_n hF 0 rfl rfl dX5_readText_17 ?_
  refine g_iconst (v := (0 : Int32)) hF rfl dX5_readText_18 ?_
  refine g_put_i hF rfl rfl fl_RX5_40 q0 dX5_readText_19 ?_
  refine g_aload_n hF 0 rfl rfl dX5_readText_22 ?_
  refine g_iconst (v := (0 : Int32)) hF rfl dX5_readText_23 ?_
  refine g_put_i hF rfl rfl fl_RX5_44 q0 dX5_readText_24 ?_
  refine g_aload_n hF 0 rfl rfl dX5_readText_27 ?_
  obtain ⟨b11, h11, h⟩ := gbnd h
  obtain ⟨g11, l11, q_b11⟩ := ldr_sp h11
  refine g_get_r hF g11 fl_RX5_12 q0 dX5_readText_28 ?_
  refine g_aload_n hF 1 rfl rfl dX5_readText_31 ?_
  refine g_iload_n hF 2 rfl rfl dX5_readText_32 ?_
  obtain ⟨x12, h12, h⟩ := gbnd h
  refine g_callVN hF my_X6_startText kn_728 kw_730 kw_23 gC_6.1 (by decide) q_b11 (c_X6_startText (d := d - 1) (by omega) q_b11 q1 h12) (by omega) (by omega) (by omega) rfl rfl (Nat.le_of_ble_eq_true rfl) dX5_readText_33 (g_sameN ?_)
  refine g_aload_n hF 0 rfl rfl dX5_readText_36 ?_
  refine g_ldcS (tx := "link") (a := gSB + 0) hF (by decide +kernel) (Nat.le_add_right _ _) dX5_readText_37 ?_
  obtain ⟨x13, h13, h⟩ := gbnd h
  refine g_callV hF my_X5_readKeyword kw_754 kw_756 kw_28 gC_5.1 (by decide) q0 (c_X5_readKeyword (d := d - 1) (by omega) q0 h13) (by omega) (by omega) (by omega) rfl rfl (Nat.le_of_ble_eq_true rfl) dX5_readText_39 (g_sameS ?_)
  refine g_if_eq (tgt := 54) hF dX5_readText_42 (by decide) (fun c14 => ?_) (fun c14 => ?_)
  · replace h := gif_t c14 h
    refine g_iconst (v := (0 : Int32)) hF rfl dX5_readText_54 ?_
    cases h
    exact g_ret_i hF rfl rfl dX5_readText_55 (hR ad gExt.rf (fun _ _ => rfl)) (by omega) (by omega)
  · replace h := gif_f c14 h
    refine g_aload_n hF 0 rfl rfl dX5_readText_45 ?_
    refine g_bipush (v := (59 : Int32)) hF rfl dX5_readText_46 ?_
    obtain ⟨x15, h15, h⟩ := gbnd h
    refine g_callV hF my_X5_readSign kw_822 kw_824 kw_32 gC_5.1 (by decide) q0 (c_X5_readSign (d := d - 1) (by omega) q0 h15) (by omega) (by omega) (by omega) rfl rfl (Nat.le_of_ble_eq_true rfl) dX5_readText_48 (g_sameS ?_)
    refine g_if_ne (tgt := 56) hF dX5_readText_51 (by decide) (fun c16 => ?_) (fun c16 => ?_)
    · replace h := gif_t c16 h
      refine g_iconst (v := (0 : Int32)) hF rfl dX5_readText_56 ?_
      refine g_istore_n (ls' := [(3, .int (0 : Int32)), (0, .ref a0), (1, .ref a1), (2, .int i2)]) hF rfl (by rw [hn]; decide) rfl dX5_readText_57 ?_
      obtain ⟨x17, h17, h⟩ := gbnd h
      refine gG_sub [1, 0] rfl (t_X5_readText_L58 hF hn hd q0 h17 (fun r17 q17r => ?_) (fun e17 q17e => ?_))
      · subst q17r
        replace h := gcase_l h
        cases h
        exact (fun ad1 x1 y1 => hR ad1 (gExt.tr gExt.rf x1) (gad_call y1 gExt.rf (fun _ _ => rfl)))
      · subst q17e
        replace h := gcase_r h
        refine g_aload_n hF 0 rfl rfl dX5_readText_99 ?_
        obtain ⟨b18, h18, h⟩ := gbnd h
        obtain ⟨g18, l18, q_b18⟩ := ldr_sp h18
        refine g_get_r hF g18 fl_RX5_21 q0 dX5_readText_100 ?_
        obtain ⟨x19, h19, h⟩ := gbnd h
        have g19 : gnew T e17 (7, 0) = some (x19.1, x19.2.1, x19.2.2) := h19
        refine g_new hF gC_7 gDf_7 kw_923 kw_155 kw_69 g19 (gnew_lt g19) (gFr_r (gT_ne q0) gFr_0) (gFr_r (gT_ne q_b18) gFr_0) (by omega) (by omega) dX5_readText_103 (fun ad19 z19 => ?_)
        have X19 := gExt.tr gExt.rf (gnew_ext g19)
        have W19 := gad_new g19 z19 gExt.rf (fun _ _ => rfl)
        have q_20 := gnew_ext g19 _ _ q0
        have q_21 := gnew_ext g19 _ _ q_b18
        have q_y19 := gnew_at g19
        refine g_dup hF rfl dX5_readText_106 ?_
        refine g_aload_n hF 0 rfl rfl dX5_readText_107 ?_
        obtain ⟨b22, h22, h⟩ := gbnd h
        obtain ⟨g22, l22, q_b22⟩ := ldr_sp h22
        refine g_get_r hF g22 fl_RX5_32 q_20 dX5_readText_108 ?_
        refine g_aload_n hF 0 rfl rfl dX5_readText_111 ?_
        refine g_get_i hF fl_RX5_36 q_20 dX5_readText_112 ?_
        obtain ⟨x23, h23, h⟩ := gbnd h
        refine g_callS hF my_J7_copyOf_59c91 kw_924 kw_925 (c_J7_copyOf_59c91 (d := d - 1) (by omega) q_b22 h23) (by omega) (by omega) (by omega) rfl rfl (Nat.le_of_ble_eq_true rfl) dX5_readText_115 (g_madeS (gOld_r (gT_lt q_20) gOld_0) (gOld_r (gT_lt q_y19) (gOld_r (gT_lt q_y19) (gOld_r (gT_lt q_21) gOld_0))) (fun ad23 e23 y23 => ?_))
        have X23 := gExt.tr X19 e23
        have W23 := gad_call y23 X19 W19
        have q_24 := e23 _ _ q_20
        have q_25 := e23 _ _ q_21
        have q_26 := e23 _ _ q_y19
        obtain ⟨_, h27, h⟩ := gbnd h
        obtain ⟨l27, q_r27⟩ := gkd_sp h27
        obtain ⟨x28, h28, h⟩ := gbnd h
        refine g_callIN hF my_X7_init kn_931 kw_157 rfl gC_7.1 (by decide) q_26 (c_X7_init (d := d - 1) (by omega) q_26 q_r27 h28) (by omega) (by omega) (by omega) rfl rfl (Nat.le_of_ble_eq_true rfl) dX5_readText_118 (g_madeN (gOld_r (gT_lt q_24) gOld_0) (gOld_r (gT_lt q_26) (gOld_r (gT_lt q_25) gOld_0)) (fun ad28 e28 y28 => ?_))
        have X28 := gExt.tr X23 e28
        have W28 := gad_call y28 X23 W23
        have q_29 := e28 _ _ q_24
        have q_30 := e28 _ _ q_25
        have q_31 := e28 _ _ q_26
        refine g_putN_r hF (fun _ => rfl) (fun _ => rfl) (gT_lt q_31) fn_RX5_95 q_30 dX5_readText_121 ?_
        refine g_iconst (v := (1 : Int32)) hF rfl dX5_readText_124 ?_
        cases h
        exact g_ret_i hF rfl rfl dX5_readText_125 (hR ad28 X28 W28) (by omega) (by omega)
    · replace h := gif_n c16 h
      refine g_iconst (v := (0 : Int32)) hF rfl dX5_readText_54 ?_
      cases h
      exact g_ret_i hF rfl rfl dX5_readText_55 (hR ad gExt.rf (fun _ _ => rfl)) (by omega) (by omega)
theorem c_X5_readText {d : Nat} {T : gT} {M : gM} {m_a0 m_a1 : Nat} {a0 : Nat} {a1 : Nat} {i2 : Int32} {r : Int32 × gT × gM} (hd : 55 ≤ d) (q0 : T[a0]? = some (5, m_a0)) (q1 : T[a1]? = some (10, m_a1)) (h : f_X5_readText T M a0 a1 i2 = some (r)) : gRet d yX5_readText cX5_readText 4 (some .boolean) 3 813 [.ref a0, .ref a1, .int i2] T M (gMade T (some (.int r.1)) r.2.1 r.2.2) := by
  refine gRet_of (own := RX5) (by decide) rfl (Nat.le_of_ble_eq_true rfl) (fun Z ad0 hn h0 hF => ?_)
  exact t_X5_readText hF hn hd (Nat.le_refl _) (Nat.le_refl _) q0 q1 h (fun ad1 x1 y1 => ⟨rfl, rfl, rfl, x1, y1⟩)
theorem t_X8_init {Z : gZ} {d mc ms : Nat} {Acc : Option Value → (Nat → Nat) → gT → gM → Prop} {AccX : Nat → (Nat → Nat) → gT → gM → Prop} {ad : Nat → Nat} {T : gT} {M : gM} {m_a0 : Nat} {a0 : Nat} {o : gT × gM} (hF : gFix Z cX8_init RX8 "<init>" none d mc ms Acc AccX) (hn : Z.2.2.2.2.2.1 = 1) (hd : 4 ≤ d) (hmc : 310 ≤ mc) (hms : 5334 ≤ ms) (q0 : T[a0]? = some (8, m_a0)) (h : f_X8_init T M a0 = some o) (hR : ∀ ad1 : Nat → Nat, gExt T o.1 → (∀ a : Nat, a < T.length → ad1 a = ad a) → Acc none ad1 o.1 o.2) : gG Z ad T M 0 0 0 [(0, .ref a0)] [] := by
  unfold f_X8_init at h
  refine g_aload_n hF 0 rfl rfl dX8_init_0 ?_
  refine g_obj hF kw_101 kw_102 kw_103 (by omega) (Nat.le_of_ble_eq_true rfl) dX8_init_1 ?_
  refine g_aload_n hF 0 rfl rfl dX8_init_4 ?_
  refine g_sipush (v := (800 : Int32)) hF rfl dX8_init_5 ?_
  obtain ⟨x2, h2, h⟩ := gbnd h
  have g2 : gnew T M (10, 800) = some (x2.1, x2.2.1, x2.2.2) := h2
  refine g_newa_byte (N := 800) hF (by decide) (by decide) (by decide) kw_145 g2 (gnew_lt g2) (gFr_r (gT_ne q0) gFr_0) (gFr_r (gT_ne q0) gFr_0) (by omega) (by omega) dX8_init_8 (fun ad2 z2 => ?_)
  have X2 := gExt.tr gExt.rf (gnew_ext g2)
  have W2 := gad_new g2 z2 gExt.rf (fun _ _ => rfl)
  have q_3 := gnew_ext g2 _ _ q0
  have q_y2 := gnew_at g2
  refine g_putF_r hF (fun _ => rfl) (fun _ => rfl) (gT_lt q_y2) rfl (fun R9 T9 N9 t9 q9 => by rw [g_own8 q9]; rfl) fl_RX8_9 q_3 dX8_init_10 ?_
  refine g_aload_n hF 0 rfl rfl dX8_init_13 ?_
  refine g_iconst (v := (0 : Int32)) hF rfl dX8_init_14 ?_
  refine g_put_i hF rfl rfl fl_RX8_13 q_3 dX8_init_15 ?_
  refine g_aload_n hF 0 rfl rfl dX8_init_18 ?_
  refine g_iconst (v := (-1 : Int32)) hF rfl dX8_init_19 ?_
  refine g_put_i hF rfl rfl fl_RX8_17 q_3 dX8_init_20 ?_
  refine g_aload_n hF 0 rfl rfl dX8_init_23 ?_
  obtain ⟨x4, h4, h⟩ := gbnd h
  have g4 : gnew x2.2.1 (si (si (sr x2.2.2 a0 0 (some x2.1)) a0 1 (0 : Int32)) a0 2 (-1 : Int32)) (5, 0) = some (x4.1, x4.2.1, x4.2.2) := h4
  refine g_new hF gC_5 gDf_5 kw_104 kw_105 kw_66 g4 (gnew_lt g4) (gFr_r (gT_ne q_3) gFr_0) (gFr_r (gT_ne q_3) gFr_0) (by omega) (by omega) dX8_init_24 (fun ad4 z4 => ?_)
  have X4 := gExt.tr X2 (gnew_ext g4)
  have W4 := gad_new g4 z4 X2 W2
  have q_5 := gnew_ext g4 _ _ q_3
  have q_y4 := gnew_at g4
  refine g_dup hF rfl dX8_init_27 ?_
  obtain ⟨x6, h6, h⟩ := gbnd h
  refine g_callIN hF my_X5_init kn_106 kw_107 rfl gC_5.1 (by decide) q_y4 (c_X5_init (d := d - 1) (by omega) q_y4 h6) (by omega) (by omega) (by omega) rfl rfl (Nat.le_of_ble_eq_true rfl) dX8_init_28 (g_madeN (gOld_r (gT_lt q_5) gOld_0) (gOld_r (gT_lt q_y4) (gOld_r (gT_lt q_5) gOld_0)) (fun ad6 e6 y6 => ?_))
  have X6 := gExt.tr X4 e6
  have W6 := gad_call y6 X4 W4
  have q_7 := e6 _ _ q_5
  have q_8 := e6 _ _ q_y4
  refine g_putF_r hF (fun _ => rfl) (fun _ => rfl) (gT_lt q_8) rfl (fun R9 T9 N9 t9 q9 => by rw [g_own8 q9]; rfl) fl_RX8_23 q_7 dX8_init_31 ?_
  refine g_aload_n hF 0 rfl rfl dX8_init_34 ?_
  obtain ⟨x9, h9, h⟩ := gbnd h
  have g9 : gnew x6.1 (sr x6.2 a0 3 (some x4.1)) (0, 0) = some (x9.1, x9.2.1, x9.2.2) := h9
  refine g_new hF gC_0 gDf_0 kw_274 kw_147 kw_68 g9 (gnew_lt g9) (gFr_r (gT_ne q_7) gFr_0) (gFr_r (gT_ne q_7) gFr_0) (by omega) (by omega) dX8_init_35 (fun ad9 z9 => ?_)
  have X9 := gExt.tr X6 (gnew_ext g9)
  have W9 := gad_new g9 z9 X6 W6
  have q_10 := gnew_ext g9 _ _ q_7
  have q_y9 := gnew_at g9
  refine g_dup hF rfl dX8_init_38 ?_
  obtain ⟨x11, h11, h⟩ := gbnd h
  refine g_callIN hF my_X0_init kn_275 kw_149 rfl gC_0.1 (by decide) q_y9 (c_X0_init (d := d - 1) (by omega) q_y9 h11) (by omega) (by omega) (by omega) rfl rfl (Nat.le_of_ble_eq_true rfl) dX8_init_39 (g_madeN (gOld_r (gT_lt q_10) gOld_0) (gOld_r (gT_lt q_y9) (gOld_r (gT_lt q_10) gOld_0)) (fun ad11 e11 y11 => ?_))
  have X11 := gExt.tr X9 e11
  have W11 := gad_call y11 X9 W9
  have q_12 := e11 _ _ q_10
  have q_13 := e11 _ _ q_y9
  refine g_putF_r hF (fun _ => rfl) (fun _ => rfl) (gT_lt q_13) rfl (fun R9 T9 N9 t9 q9 => by rw [g_own8 q9]; rfl) fl_RX8_30 q_12 dX8_init_42 ?_
  refine g_aload_n hF 0 rfl rfl dX8_init_45 ?_
  obtain ⟨x14, h14, h⟩ := gbnd h
  have g14 : gnew x11.1 (sr x11.2 a0 4 (some x9.1)) (1, 0) = some (x14.1, x14.2.1, x14.2.2) := h14
  refine g_new hF gC_1 gDf_1 kw_276 kw_277 kw_71 g14 (gnew_lt g14) (gFr_r (gT_ne q_12) gFr_0) (gFr_r (gT_ne q_12) gFr_0) (by omega) (by omega) dX8_init_46 (fun ad14 z14 => ?_)
  have X14 := gExt.tr X11 (gnew_ext g14)
  have W14 := gad_new g14 z14 X11 W11
  have q_15 := gnew_ext g14 _ _ q_12
  have q_y14 := gnew_at g14
  refine g_dup hF rfl dX8_init_49 ?_
  obtain ⟨x16, h16, h⟩ := gbnd h
  refine g_callIN hF my_X1_init kn_278 kw_279 rfl gC_1.1 (by decide) q_y14 (c_X1_init (d := d - 1) (by omega) q_y14 h16) (by omega) (by omega) (by omega) rfl rfl (Nat.le_of_ble_eq_true rfl) dX8_init_50 (g_madeN (gOld_r (gT_lt q_15) gOld_0) (gOld_r (gT_lt q_y14) (gOld_r (gT_lt q_15) gOld_0)) (fun ad16 e16 y16 => ?_))
  have X16 := gExt.tr X14 e16
  have W16 := gad_call y16 X14 W14
  have q_17 := e16 _ _ q_15
  have q_18 := e16 _ _ q_y14
  refine g_putF_r hF (fun _ => rfl) (fun _ => rfl) (gT_lt q_18) rfl (fun R9 T9 N9 t9 q9 => by rw [g_own8 q9]; rfl) fl_RX8_37 q_17 dX8_init_53 ?_
  refine g_aload_n hF 0 rfl rfl dX8_init_56 ?_
  obtain ⟨x19, h19, h⟩ := gbnd h
  have g19 : gnew x16.1 (sr x16.2 a0 5 (some x14.1)) (4, 0) = some (x19.1, x19.2.1, x19.2.2) := h19
  refine g_new hF gC_4 gDf_4 kw_309 kw_310 kw_72 g19 (gnew_lt g19) (gFr_r (gT_ne q_17) gFr_0) (gFr_r (gT_ne q_17) gFr_0) (by omega) (by omega) dX8_init_57 (fun ad19 z19 => ?_)
  have X19 := gExt.tr X16 (gnew_ext g19)
  have W19 := gad_new g19 z19 X16 W16
  have q_20 := gnew_ext g19 _ _ q_17
  have q_y19 := gnew_at g19
  refine g_dup hF rfl dX8_init_60 ?_
  obtain ⟨x21, h21, h⟩ := gbnd h
  refine g_callIN hF my_X4_init kn_311 kw_312 rfl gC_4.1 (by decide) q_y19 (c_X4_init (d := d - 1) (by omega) q_y19 h21) (by omega) (by omega) (by omega) rfl rfl (Nat.le_of_ble_eq_true rfl) dX8_init_61 (g_madeN (gOld_r (gT_lt q_20) gOld_0) (gOld_r (gT_lt q_y19) (gOld_r (gT_lt q_20) gOld_0)) (fun ad21 e21 y21 => ?_))
  have X21 := gExt.tr X19 e21
  have W21 := gad_call y21 X19 W19
  have q_22 := e21 _ _ q_20
  have q_23 := e21 _ _ q_y19
  refine g_putF_r hF (fun _ => rfl) (fun _ => rfl) (gT_lt q_23) rfl (fun R9 T9 N9 t9 q9 => by rw [g_own8 q9]; rfl) fl_RX8_44 q_22 dX8_init_64 ?_
  refine g_aload_n hF 0 rfl rfl dX8_init_67 ?_
  obtain ⟨x24, h24, h⟩ := gbnd h
  have g24 : gnew x21.1 (sr x21.2 a0 6 (some x19.1)) (2, 0) = some (x24.1, x24.2.1, x24.2.2) := h24
  refine g_new hF gC_2 gDf_2 kw_326 kw_327 kw_73 g24 (gnew_lt g24) (gFr_r (gT_ne q_22) gFr_0) (gFr_r (gT_ne q_22) gFr_0) (by omega) (by omega) dX8_init_68 (fun ad24 z24 => ?_)
  have X24 := gExt.tr X21 (gnew_ext g24)
  have W24 := gad_new g24 z24 X21 W21
  have q_25 := gnew_ext g24 _ _ q_22
  have q_y24 := gnew_at g24
  refine g_dup hF rfl dX8_init_71 ?_
  obtain ⟨x26, h26, h⟩ := gbnd h
  refine g_callIN hF my_X2_init kn_328 kw_329 rfl gC_2.1 (by decide) q_y24 (c_X2_init (d := d - 1) (by omega) q_y24 h26) (by omega) (by omega) (by omega) rfl rfl (Nat.le_of_ble_eq_true rfl) dX8_init_72 (g_madeN (gOld_r (gT_lt q_25) gOld_0) (gOld_r (gT_lt q_y24) (gOld_r (gT_lt q_25) gOld_0)) (fun ad26 e26 y26 => ?_))
  have X26 := gExt.tr X24 e26
  have W26 := gad_call y26 X24 W24
  have q_27 := e26 _ _ q_25
  have q_28 := e26 _ _ q_y24
  refine g_putF_r hF (fun _ => rfl) (fun _ => rfl) (gT_lt q_28) rfl (fun R9 T9 N9 t9 q9 => by rw [g_own8 q9]; rfl) fl_RX8_51 q_27 dX8_init_75 ?_
  refine g_aload_n hF 0 rfl rfl dX8_init_78 ?_
  refine g_bipush (v := (96 : Int32)) hF rfl dX8_init_79 ?_
  obtain ⟨x29, h29, h⟩ := gbnd h
  have g29 : gnew x26.1 (sr x26.2 a0 7 (some x24.1)) (11, 96) = some (x29.1, x29.2.1, x29.2.2) := h29
  refine g_newa_int (N := 96) hF (by decide) (by decide) (by decide) kw_167 g29 (gnew_lt g29) (gFr_r (gT_ne q_27) gFr_0) (gFr_r (gT_ne q_27) gFr_0) (by omega) (by omega) dX8_init_81 (fun ad29 z29 => ?_)
  have X29 := gExt.tr X26 (gnew_ext g29)
  have W29 := gad_new g29 z29 X26 W26
  have q_30 := gnew_ext g29 _ _ q_27
  have q_y29 := gnew_at g29
  refine g_putF_r hF (fun _ => rfl) (fun _ => rfl) (gT_lt q_y29) rfl (fun R9 T9 N9 t9 q9 => by rw [g_own8 q9]; rfl) fl_RX8_55 q_30 dX8_init_83 ?_
  cases h
  exact g_ret_v hF rfl dX8_init_86 (hR ad29 X29 W29) (by omega) (by omega)
theorem c_X8_init {d : Nat} {T : gT} {M : gM} {m_a0 : Nat} {a0 : Nat} {r : gT × gM} (hd : 4 ≤ d) (q0 : T[a0]? = some (8, m_a0)) (h : f_X8_init T M a0 = some (r)) : gRet d yX8_init cX8_init 1 none 310 5334 [.ref a0] T M (gMade T none r.1 r.2) := by
  refine gRet_of (own := RX8) (by decide) rfl (Nat.le_of_ble_eq_true rfl) (fun Z ad0 hn h0 hF => ?_)
  exact t_X8_init hF hn hd (Nat.le_refl _) (Nat.le_refl _) q0 h (fun ad1 x1 y1 => ⟨rfl, rfl, rfl, x1, y1⟩)
theorem t_X8_putBytes_B3 {Z : gZ} {d mc ms : Nat} {Acc : Option Value → (Nat → Nat) → gT → gM → Prop} {AccX : Nat → (Nat → Nat) → gT → gM → Prop} {ad : Nat → Nat} {T : gT} {M : gM} {m_a0 : Nat} {a0 : Nat} {i1 : Int32} {i2 : Int32} {o : (gM) ⊕ (Int32 × gM)} (hF : gFix Z cX8_putBytes RX8 "putBytes" none d mc ms Acc AccX) (hn : Z.2.2.2.2.2.1 = 3) (hd : 1 ≤ d) (q0 : T[a0]? = some (8, m_a0)) (h : f_X8_putBytes_B3 T M a0 i1 i2 = some o) (hE : ∀ e9, o = .inl e9 → gG Z ad T e9 0 0 46 [] []) (hN : ∀ n9, o = .inr n9 → gG Z ad T n9.2 0 0 3 [(0, .ref a0), (1, .int i1), (2, .int n9.1)] []) : gG Z ad T M 0 0 3 [(0, .ref a0), (1, .int i1), (2, .int i2)] [] := by
  unfold f_X8_putBytes_B3 at h
  refine g_iload_n hF 2 rfl rfl dX8_putBytes_3 ?_
  refine g_if_lt (tgt := 46) hF dX8_putBytes_4 (by decide) (fun c1 => ?_) (fun c1 => ?_)
  · replace h := gif_t c1 h
    exact gG_sub [] rfl (hE _ (Option.some.inj h).symm)
  · replace h := gif_f c1 h
    refine g_aload_n hF 0 rfl rfl dX8_putBytes_7 ?_
    refine g_get_i hF fl_RX8_13 q0 dX8_putBytes_8 ?_
    refine g_sipush (v := (800 : Int32)) hF rfl dX8_putBytes_11 ?_
    refine g_icmp_ge (tgt := 46) hF dX8_putBytes_14 (by decide) (fun c2 => ?_) (fun c2 => ?_)
    · replace h := gif_t c2 h
      exact gG_sub [] rfl (hE _ (Option.some.inj h).symm)
    · replace h := gif_f c2 h
      refine g_aload_n hF 0 rfl rfl dX8_putBytes_17 ?_
      obtain ⟨b3, h3, h⟩ := gbnd h
      obtain ⟨g3, l3, q_b3⟩ := ldr_sp h3
      refine g_get_r hF g3 fl_RX8_9 q0 dX8_putBytes_18 ?_
      refine g_aload_n hF 0 rfl rfl dX8_putBytes_21 ?_
      refine g_get_i hF fl_RX8_13 q0 dX8_putBytes_22 ?_
      refine g_iload_n hF 1 rfl rfl dX8_putBytes_25 ?_
      refine g_iload_n hF 2 rfl rfl dX8_putBytes_26 ?_
      refine g_ishr hF dX8_putBytes_27 ?_
      refine g_i2b hF dX8_putBytes_28 ?_
      obtain ⟨M4, h4, h⟩ := gbnd h
      obtain ⟨i4h, e4v⟩ := ast_sp q_b3 h4
      refine g_bast hF q_b3 i4h dX8_putBytes_29 ?_
      rw [← e4v]
      refine g_aload_n hF 0 rfl rfl dX8_putBytes_30 ?_
      refine g_dup hF rfl dX8_putBytes_31 ?_
      refine g_get_i hF fl_RX8_13 q0 dX8_putBytes_32 ?_
      refine g_iconst (v := (1 : Int32)) hF rfl dX8_putBytes_35 ?_
      refine g_iadd hF dX8_putBytes_36 ?_
      refine g_put_i hF rfl rfl fl_RX8_13 q0 dX8_putBytes_37 ?_
      refine g_iinc (n := -8) (v := (i2 + (-8 : Int32))) (ls' := [(2, .int (i2 + (-8 : Int32))), (0, .ref a0), (1, .int i1)]) hF 2 rfl (congrArg (HAdd.hAdd i2) (by decide)) (by rw [hn]; decide) rfl dX8_putBytes_40 ?_
      refine g_goto (tgt := 3) hF dX8_putBytes_43 (by decide) ?_
      exact gG_sub [1, 2, 0] rfl (hN _ (Option.some.inj h).symm)
theorem t_X8_putBytes_L3 {Z : gZ} {d mc ms : Nat} {Acc : Option Value → (Nat → Nat) → gT → gM → Prop} {AccX : Nat → (Nat → Nat) → gT → gM → Prop} {ad : Nat → Nat} {T : gT} {M : gM} {m_a0 : Nat} {a0 : Nat} {i1 : Int32} {i2 : Int32} {o : gM} (hF : gFix Z cX8_putBytes RX8 "putBytes" none d mc ms Acc AccX) (hn : Z.2.2.2.2.2.1 = 3) (hd : 1 ≤ d) (q0 : T[a0]? = some (8, m_a0)) (h : gloop (fun x => f_X8_putBytes_B3 T x.2 a0 i1 x.1) gFU (i2, M) = some o) (hE : gG Z ad T o 0 0 46 [] []) : gG Z ad T M 0 0 3 [(0, .ref a0), (1, .int i1), (2, .int i2)] [] := by
  refine gloop_ind (P := fun x0 : Int32 × gM => gG Z ad T x0.2 0 0 3 [(0, .ref a0), (1, .int i1), (2, .int x0.1)] []) (e := o) (fun x0 y hy hl hr => ?_) gFU (i2, M) h
  exact t_X8_putBytes_B3 hF hn hd q0 hy (fun e9 q9 => by rw [hl _ q9]; exact hE) (fun n9 q9 => hr n9 q9)
theorem t_X8_putBytes {Z : gZ} {d mc ms : Nat} {Acc : Option Value → (Nat → Nat) → gT → gM → Prop} {AccX : Nat → (Nat → Nat) → gT → gM → Prop} {ad : Nat → Nat} {T : gT} {M : gM} {m_a0 : Nat} {a0 : Nat} {i1 : Int32} {o : gM} (hF : gFix Z cX8_putBytes RX8 "putBytes" none d mc ms Acc AccX) (hn : Z.2.2.2.2.2.1 = 3) (hd : 1 ≤ d) (q0 : T[a0]? = some (8, m_a0)) (h : f_X8_putBytes T M a0 i1 = some o) (hR : Acc none ad T o) : gG Z ad T M 0 0 0 [(0, .ref a0), (1, .int i1)] [] := by
  unfold f_X8_putBytes at h
  refine g_bipush (v := (24 : Int32)) hF rfl dX8_putBytes_0 ?_
  refine g_istore_n (ls' := [(2, .int (24 : Int32)), (0, .ref a0), (1, .int i1)]) hF rfl (by rw [hn]; decide) rfl dX8_putBytes_2 ?_
  obtain ⟨x5, h5, h⟩ := gbnd h
  refine gG_sub [1, 2, 0] rfl (t_X8_putBytes_L3 hF hn hd q0 h5 ?_)
  cases h
  exact g_ret_v hF rfl dX8_putBytes_46 hR (Nat.zero_le _) (Nat.zero_le _)
theorem c_X8_putBytes {d : Nat} {T : gT} {M : gM} {m_a0 : Nat} {a0 : Nat} {i1 : Int32} {r : gM} (hd : 1 ≤ d) (q0 : T[a0]? = some (8, m_a0)) (h : f_X8_putBytes T M a0 i1 = some (r)) : gRet d yX8_putBytes cX8_putBytes 3 none 0 0 [.ref a0, .int i1] T M (gSame T none r) := by
  refine gRet_of (own := RX8) (by decide) rfl (Nat.le_of_ble_eq_true rfl) (fun Z ad0 hn h0 hF => ?_)
  exact t_X8_putBytes hF hn hd q0 h ⟨rfl, rfl, rfl, rfl⟩
theorem t_X8_append {Z : gZ} {d mc ms : Nat} {Acc : Option Value → (Nat → Nat) → gT → gM → Prop} {AccX : Nat → (Nat → Nat) → gT → gM → Prop} {ad : Nat → Nat} {T : gT} {M : gM} {m_a0 : Nat} {a0 : Nat} {i1 : Int32} {i2 : Int32} {i3 : Int32} {i4 : Int32} {i5 : Int32} {o : Int32 × gM} (hF : gFix Z cX8_append RX8 "append" (some .int) d mc ms Acc AccX) (hn : Z.2.2.2.2.2.1 = 6) (hd : 2 ≤ d) (q0 : T[a0]? = some (8, m_a0)) (h : f_X8_append T M a0 i1 i2 i3 i4 i5 = some o) (hR : Acc (some (.int o.1)) ad T o.2) : gG Z ad T M 0 0 0 [(0, .ref a0), (1, .int i1), (2, .int i2), (3, .int i3), (4, .int i4), (5, .int i5)] [] := by
  unfold f_X8_append at h
  refine g_aload_n hF 0 rfl rfl dX8_append_0 ?_
  refine g_get_i hF fl_RX8_13 q0 dX8_append_1 ?_
  refine g_bipush (v := (20 : Int32)) hF rfl dX8_append_4 ?_
  refine g_iadd hF dX8_append_6 ?_
  refine g_sipush (v := (800 : Int32)) hF rfl dX8_append_7 ?_
  refine g_icmp_le (tgt := 15) hF dX8_append_10 (by decide) (fun c1 => ?_) (fun c1 => ?_)
  · replace h := gif_t c1 h
    refine g_aload_n hF 0 rfl rfl dX8_append_15 ?_
    refine g_iload_n hF 1 rfl rfl dX8_append_16 ?_
    obtain ⟨x2, h2, h⟩ := gbnd h
    refine g_callV hF my_X8_putBytes kw_1121 kw_1123 kw_63 gC_8.1 (by decide) q0 (c_X8_putBytes (d := d - 1) (by omega) q0 h2) (by omega) (Nat.zero_le _) (Nat.zero_le _) rfl rfl (Nat.le_of_ble_eq_true rfl) dX8_append_17 (g_sameN ?_)
    refine g_aload_n hF 0 rfl rfl dX8_append_20 ?_
    refine g_iload_n hF 2 rfl rfl dX8_append_21 ?_
    obtain ⟨x3, h3, h⟩ := gbnd h
    refine g_callV hF my_X8_putBytes kw_1121 kw_1123 kw_63 gC_8.1 (by decide) q0 (c_X8_putBytes (d := d - 1) (by omega) q0 h3) (by omega) (Nat.zero_le _) (Nat.zero_le _) rfl rfl (Nat.le_of_ble_eq_true rfl) dX8_append_22 (g_sameN ?_)
    refine g_aload_n hF 0 rfl rfl dX8_append_25 ?_
    refine g_iload_n hF 3 rfl rfl dX8_append_26 ?_
    obtain ⟨x4, h4, h⟩ := gbnd h
    refine g_callV hF my_X8_putBytes kw_1121 kw_1123 kw_63 gC_8.1 (by decide) q0 (c_X8_putBytes (d := d - 1) (by omega) q0 h4) (by omega) (Nat.zero_le _) (Nat.zero_le _) rfl rfl (Nat.le_of_ble_eq_true rfl) dX8_append_27 (g_sameN ?_)
    refine g_aload_n hF 0 rfl rfl dX8_append_30 ?_
    refine g_iload hF 4 rfl dX8_append_31 ?_
    obtain ⟨x5, h5, h⟩ := gbnd h
    refine g_callV hF my_X8_putBytes kw_1121 kw_1123 kw_63 gC_8.1 (by decide) q0 (c_X8_putBytes (d := d - 1) (by omega) q0 h5) (by omega) (Nat.zero_le _) (Nat.zero_le _) rfl rfl (Nat.le_of_ble_eq_true rfl) dX8_append_33 (g_sameN ?_)
    refine g_aload_n hF 0 rfl rfl dX8_append_36 ?_
    refine g_iload hF 5 rfl dX8_append_37 ?_
    obtain ⟨x6, h6, h⟩ := gbnd h
    refine g_callV hF my_X8_putBytes kw_1121 kw_1123 kw_63 gC_8.1 (by decide) q0 (c_X8_putBytes (d := d - 1) (by omega) q0 h6) (by omega) (Nat.zero_le _) (Nat.zero_le _) rfl rfl (Nat.le_of_ble_eq_true rfl) dX8_append_39 (g_sameN ?_)
    refine g_aload_n hF 0 rfl rfl dX8_append_42 ?_
    refine g_get_i hF fl_RX8_13 q0 dX8_append_43 ?_
    cases h
    exact g_ret_i hF rfl rfl dX8_append_46 hR (Nat.zero_le _) (Nat.zero_le _)
  · replace h := gif_f c1 h
    refine g_iconst (v := (-1 : Int32)) hF rfl dX8_append_13 ?_
    cases h
    exact g_ret_i hF rfl rfl dX8_append_14 hR (Nat.zero_le _) (Nat.zero_le _)
theorem c_X8_append {d : Nat} {T : gT} {M : gM} {m_a0 : Nat} {a0 : Nat} {i1 : Int32} {i2 : Int32} {i3 : Int32} {i4 : Int32} {i5 : Int32} {r : Int32 × gM} (hd : 2 ≤ d) (q0 : T[a0]? = some (8, m_a0)) (h : f_X8_append T M a0 i1 i2 i3 i4 i5 = some (r)) : gRet d yX8_append cX8_append 6 (some .int) 0 0 [.ref a0, .int i1, .int i2, .int i3, .int i4, .int i5] T M (gSame T (some (.int r.1)) r.2) := by
  refine gRet_of (own := RX8) (by decide) rfl (Nat.le_of_ble_eq_true rfl) (fun Z ad0 hn h0 hF => ?_)
  exact t_X8_append hF hn hd q0 h ⟨rfl, rfl, rfl, rfl⟩
theorem t_X8_beginChange {Z : gZ} {d mc ms : Nat} {Acc : Option Value → (Nat → Nat) → gT → gM → Prop} {AccX : Nat → (Nat → Nat) → gT → gM → Prop} {ad : Nat → Nat} {T : gT} {M : gM} {m_a0 : Nat} {a0 : Nat} {o : gM} (hF : gFix Z cX8_beginChange RX8 "beginChange" none d mc ms Acc AccX) (hn : Z.2.2.2.2.2.1 = 1) (hd : 4 ≤ d) (q0 : T[a0]? = some (8, m_a0)) (h : f_X8_beginChange T M a0 = some o) (hR : Acc none ad T o) : gG Z ad T M 0 0 0 [(0, .ref a0)] [] := by
  unfold f_X8_beginChange at h
  refine g_aload_n hF 0 rfl rfl dX8_beginChange_0 ?_
  obtain ⟨b1, h1, h⟩ := gbnd h
  obtain ⟨g1, l1, q_b1⟩ := ldr_sp h1
  refine g_get_r hF g1 fl_RX8_51 q0 dX8_beginChange_1 ?_
  refine g_aload_n hF 0 rfl rfl dX8_beginChange_4 ?_
  obtain ⟨b2, h2, h⟩ := gbnd h
  obtain ⟨g2, l2, q_b2⟩ := ldr_sp h2
  refine g_get_r hF g2 fl_RX8_30 q0 dX8_beginChange_5 ?_
  obtain ⟨x3, h3, h⟩ := gbnd h
  refine g_callVN hF my_X2_keep kn_936 kw_938 kw_54 gC_2.1 (by decide) q_b1 (c_X2_keep (d := d - 1) (by omega) q_b1 q_b2 h3) (by omega) (Nat.zero_le _) (Nat.zero_le _) rfl rfl (Nat.le_of_ble_eq_true rfl) dX8_beginChange_8 (g_sameN ?_)
  refine g_aload_n hF 0 rfl rfl dX8_beginChange_11 ?_
  obtain ⟨b4, h4, h⟩ := gbnd h
  obtain ⟨g4, l4, q_b4⟩ := ldr_sp h4
  refine g_get_r hF g4 fl_RX8_37 q0 dX8_beginChange_12 ?_
  obtain ⟨b5, h5, h⟩ := gbnd h
  obtain ⟨g5, l5, q_b5⟩ := ldr_sp h5
  refine g_get_rN hF g5 fn_RX8_156 q_b4 dX8_beginChange_15 ?_
  refine g_iconst (v := (0 : Int32)) hF rfl dX8_beginChange_18 ?_
  refine g_aload_n hF 0 rfl rfl dX8_beginChange_19 ?_
  obtain ⟨b6, h6, h⟩ := gbnd h
  obtain ⟨g6, l6, q_b6⟩ := ldr_sp h6
  refine g_get_r hF g6 fl_RX8_55 q0 dX8_beginChange_20 ?_
  refine g_iconst (v := (0 : Int32)) hF rfl dX8_beginChange_23 ?_
  refine g_bipush (v := (96 : Int32)) hF rfl dX8_beginChange_24 ?_
  obtain ⟨M7, h7, h⟩ := gbnd h
  obtain ⟨k7a, k7b, k7c, k7d, k7e, e7v⟩ := acp_sp q_b5 q_b6 h7
  refine g_copy_i hF kw_940 q_b5 q_b6 k7a k7b k7c k7d k7e (by omega) (Nat.le_of_ble_eq_true rfl) dX8_beginChange_26 ?_
  rw [← e7v]
  cases h
  exact g_ret_v hF rfl dX8_beginChange_29 hR (Nat.zero_le _) (Nat.zero_le _)
theorem c_X8_beginChange {d : Nat} {T : gT} {M : gM} {m_a0 : Nat} {a0 : Nat} {r : gM} (hd : 4 ≤ d) (q0 : T[a0]? = some (8, m_a0)) (h : f_X8_beginChange T M a0 = some (r)) : gRet d yX8_beginChange cX8_beginChange 1 none 0 0 [.ref a0] T M (gSame T none r) := by
  refine gRet_of (own := RX8) (by decide) rfl (Nat.le_of_ble_eq_true rfl) (fun Z ad0 hn h0 hF => ?_)
  exact t_X8_beginChange hF hn hd q0 h ⟨rfl, rfl, rfl, rfl⟩
theorem t_X8_load_12 {Z : gZ} {d mc ms : Nat} {Acc : Option Value → (Nat → Nat) → gT → gM → Prop} {AccX : Nat → (Nat → Nat) → gT → gM → Prop} {ad : Nat → Nat} {T : gT} {M : gM} {o : Nat ⊕ (Int32 × gT × gM)} (hF : gFix Z cX8_load RX8 "load" (some .int) d mc ms Acc AccX) (hn : Z.2.2.2.2.2.1 = 2) (hd : 56 ≤ d)  (h : f_X8_load_12 T M  = some o) (hR : ∀ v9, o = .inr v9 → ∀ ad1 : Nat → Nat, gExt T v9.2.1 → (∀ a : Nat, a < T.length → ad1 a = ad a) → Acc (some (.int v9.1)) ad1 v9.2.1 v9.2.2) (hX : ∀ k9, o = .inl k9 → AccX k9 ad T M ∧ 1 ≤ mc ∧ 6 ≤ ms) : gG Z ad T M 0 0 12 [] [] := by
  unfold f_X8_load_12 at h
  cases h
  exact g_throw (text := "length is not within the buffer") (sa := gSB + 103) hF thr_RX8_63 (by decide +kernel) (Nat.le_of_ble_eq_true rfl) (by omega) (hX _ rfl).2.1 (hX _ rfl).2.2 (hX _ rfl).1 dX8_load_12 dX8_load_15 dX8_load_16 dX8_load_18 dX8_load_21
theorem t_X8_load {Z : gZ} {d mc ms : Nat} {Acc : Option Value → (Nat → Nat) → gT → gM → Prop} {AccX : Nat → (Nat → Nat) → gT → gM → Prop} {ad : Nat → Nat} {T : gT} {M : gM} {m_a0 : Nat} {a0 : Nat} {i1 : Int32} {o : Nat ⊕ (Int32 × gT × gM)} (hF : gFix Z cX8_load RX8 "load" (some .int) d mc ms Acc AccX) (hn : Z.2.2.2.2.2.1 = 2) (hd : 56 ≤ d) (hmc : 3 ≤ mc) (hms : 813 ≤ ms) (q0 : T[a0]? = some (8, m_a0)) (h : f_X8_load T M a0 i1 = some o) (hR : ∀ v9, o = .inr v9 → ∀ ad1 : Nat → Nat, gExt T v9.2.1 → (∀ a : Nat, a < T.length → ad1 a = ad a) → Acc (some (.int v9.1)) ad1 v9.2.1 v9.2.2) (hX : ∀ k9, o = .inl k9 → AccX k9 ad T M ∧ 1 ≤ mc ∧ 6 ≤ ms) : gG Z ad T M 0 0 0 [(0, .ref a0), (1, .int i1)] [] := by
  unfold f_X8_load at h
  refine g_iload_n hF 1 rfl rfl dX8_load_0 ?_
  refine g_if_lt (tgt := 12) hF dX8_load_1 (by decide) (fun c1 => ?_) (fun c1 => ?_)
  · replace h := gif_t c1 h
    exact gG_sub [] rfl (t_X8_load_12 hF hn hd  h (fun v9 q9 ad1 x1 y1 => hR v9 q9 ad1 (gExt.tr gExt.rf x1) (gad_call y1 gExt.rf (fun _ _ => rfl))) hX)
  · replace h := gif_f c1 h
    refine g_iload_n hF 1 rfl rfl dX8_load_4 ?_
    refine g_aload_n hF 0 rfl rfl dX8_load_5 ?_
    refine g_get_i hF fl_RX8_13 q0 dX8_load_6 ?_
    refine g_icmp_le (tgt := 22) hF dX8_load_9 (by decide) (fun c2 => ?_) (fun c2 => ?_)
    · replace h := gif_t c2 h
      refine g_aload_n hF 0 rfl rfl dX8_load_22 ?_
      refine g_iconst (v := (0 : Int32)) hF rfl dX8_load_23 ?_
      refine g_put_i hF rfl rfl fl_RX8_13 q0 dX8_load_24 ?_
      refine g_aload_n hF 0 rfl rfl dX8_load_27 ?_
      obtain ⟨b3, h3, h⟩ := gbnd h
      obtain ⟨g3, l3, q_b3⟩ := ldr_sp h3
      refine g_get_r hF g3 fl_RX8_23 q0 dX8_load_28 ?_
      refine g_aload_n hF 0 rfl rfl dX8_load_31 ?_
      obtain ⟨b4, h4, h⟩ := gbnd h
      obtain ⟨g4, l4, q_b4⟩ := ldr_sp h4
      refine g_get_r hF g4 fl_RX8_9 q0 dX8_load_32 ?_
      refine g_iload_n hF 1 rfl rfl dX8_load_35 ?_
      obtain ⟨x5, h5, h⟩ := gbnd h
      refine g_callVN hF my_X5_readText kn_716 kw_718 kw_20 gC_5.1 (by decide) q_b3 (c_X5_readText (d := d - 1) (by omega) q_b3 q_b4 h5) (by omega) (by omega) (by omega) rfl rfl (Nat.le_of_ble_eq_true rfl) dX8_load_36 (g_madeS (gOld_r (gT_lt q0) (gOld_i gOld_0)) gOld_0 (fun ad5 e5 y5 => ?_))
      have X5 := gExt.tr gExt.rf e5
      have W5 := gad_call y5 gExt.rf (fun _ _ => rfl)
      have q_6 := e5 _ _ q0
      refine g_if_ne (tgt := 61) hF dX8_load_39 (by decide) (fun c7 => ?_) (fun c7 => ?_)
      · replace h := gif_t c7 h
        refine g_aload_n hF 0 rfl rfl dX8_load_61 ?_
        refine g_iconst (v := (-1 : Int32)) hF rfl dX8_load_62 ?_
        refine g_put_i hF rfl rfl fl_RX8_17 q_6 dX8_load_63 ?_
        refine g_aload_n hF 0 rfl rfl dX8_load_66 ?_
        obtain ⟨x8, h8, h⟩ := gbnd h
        refine g_callV hF my_X8_beginChange kw_932 kw_934 kw_53 gC_8.1 (by decide) q_6 (c_X8_beginChange (d := d - 1) (by omega) q_6 h8) (by omega) (by omega) (by omega) rfl rfl (Nat.le_of_ble_eq_true rfl) dX8_load_67 (g_sameN ?_)
        refine g_aload_n hF 0 rfl rfl dX8_load_70 ?_
        obtain ⟨b9, h9, h⟩ := gbnd h
        obtain ⟨g9, l9, q_b9⟩ := ldr_sp h9
        refine g_get_r hF g9 fl_RX8_30 q_6 dX8_load_71 ?_
        refine g_aload_n hF 0 rfl rfl dX8_load_74 ?_
        obtain ⟨b10, h10, h⟩ := gbnd h
        obtain ⟨g10, l10, q_b10⟩ := ldr_sp h10
        refine g_get_r hF g10 fl_RX8_23 q_6 dX8_load_75 ?_
        obtain ⟨b11, h11, h⟩ := gbnd h
        obtain ⟨g11, l11, q_b11⟩ := ldr_sp h11
        refine g_get_rN hF g11 fn_RX8_81 q_b10 dX8_load_78 ?_
        obtain ⟨x12, h12, h⟩ := gbnd h
        refine g_callVN hF my_X0_copyFrom kn_941 kw_392 kw_1 gC_0.1 (by decide) q_b9 (c_X0_copyFrom (d := d - 1) (by omega) q_b9 q_b11 h12) (by omega) (by omega) (by omega) rfl rfl (Nat.le_of_ble_eq_true rfl) dX8_load_81 (g_sameN ?_)
        refine g_aload_n hF 0 rfl rfl dX8_load_84 ?_
        obtain ⟨b13, h13, h⟩ := gbnd h
        obtain ⟨g13, l13, q_b13⟩ := ldr_sp h13
        refine g_get_r hF g13 fl_RX8_37 q_6 dX8_load_85 ?_
        refine g_aload_n hF 0 rfl rfl dX8_load_88 ?_
        obtain ⟨b14, h14, h⟩ := gbnd h
        obtain ⟨g14, l14, q_b14⟩ := ldr_sp h14
        refine g_get_r hF g14 fl_RX8_30 q_6 dX8_load_89 ?_
        obtain ⟨x15, h15, h⟩ := gbnd h
        refine g_callVN hF my_X1_count kn_401 kw_403 kw_3 gC_1.1 (by decide) q_b13 (c_X1_count (d := d - 1) (by omega) q_b13 q_b14 h15) (by omega) (by omega) (by omega) rfl rfl (Nat.le_of_ble_eq_true rfl) dX8_load_92 (g_sameN ?_)
        refine g_aload_n hF 0 rfl rfl dX8_load_95 ?_
        obtain ⟨b16, h16, h⟩ := gbnd h
        obtain ⟨g16, l16, q_b16⟩ := ldr_sp h16
        refine g_get_r hF g16 fl_RX8_30 q_6 dX8_load_96 ?_
        refine g_get_iN hF fn_RX8_91 q_b16 dX8_load_99 ?_
        cases h
        exact g_ret_i hF rfl rfl dX8_load_102 ((hR _ rfl) ad5 X5 W5) (by omega) (by omega)
      · replace h := gif_n c7 h
        refine g_aload_n hF 0 rfl rfl dX8_load_42 ?_
        refine g_aload_n hF 0 rfl rfl dX8_load_43 ?_
        obtain ⟨b17, h17, h⟩ := gbnd h
        obtain ⟨g17, l17, q_b17⟩ := ldr_sp h17
        refine g_get_r hF g17 fl_RX8_23 q_6 dX8_load_44 ?_
        refine g_get_iN hF fn_RX8_74 q_b17 dX8_load_47 ?_
        refine g_put_i hF rfl rfl fl_RX8_17 q_6 dX8_load_50 ?_
        refine g_aload_n hF 0 rfl rfl dX8_load_53 ?_
        obtain ⟨b18, h18, h⟩ := gbnd h
        obtain ⟨g18, l18, q_b18⟩ := ldr_sp h18
        refine g_get_r hF g18 fl_RX8_23 q_6 dX8_load_54 ?_
        refine g_get_iN hF fn_RX8_75 q_b18 dX8_load_57 ?_
        cases h
        exact g_ret_i hF rfl rfl dX8_load_60 ((hR _ rfl) ad5 X5 W5) (by omega) (by omega)
    · replace h := gif_f c2 h
      exact gG_sub [] rfl (t_X8_load_12 hF hn hd  h (fun v9 q9 ad1 x1 y1 => hR v9 q9 ad1 (gExt.tr gExt.rf x1) (gad_call y1 gExt.rf (fun _ _ => rfl))) hX)
theorem c_X8_load {d : Nat} {T : gT} {M : gM} {m_a0 : Nat} {a0 : Nat} {i1 : Int32} {r : Int32 × gT × gM} (hd : 56 ≤ d) (q0 : T[a0]? = some (8, m_a0)) (h : f_X8_load T M a0 i1 = some (.inr r)) : gRet d yX8_load cX8_load 2 (some .int) 3 813 [.ref a0, .int i1] T M (gMade T (some (.int r.1)) r.2.1 r.2.2) := by
  refine gRet_of (own := RX8) (by decide) rfl (Nat.le_of_ble_eq_true rfl) (fun Z ad0 hn h0 hF => ?_)
  exact t_X8_load hF hn hd (Nat.le_refl _) (Nat.le_refl _) q0 h (fun v9 q9 => by cases q9; exact (fun ad1 x1 y1 => ⟨rfl, rfl, rfl, x1, y1⟩)) (fun k9 q9 => nomatch q9)
theorem cx_X8_load {d : Nat} {T : gT} {M : gM} {m_a0 : Nat} {a0 : Nat} {i1 : Int32} {k : Nat} (hd : 56 ≤ d) (q0 : T[a0]? = some (8, m_a0)) (h : f_X8_load T M a0 i1 = some (.inl k)) : gRetX d yX8_load cX8_load 2 (some .int) 3 813 [.ref a0, .int i1] T M k := by
  refine gRetX_of (own := RX8) (by decide) rfl (Nat.le_of_ble_eq_true rfl) (fun Z ad0 hn h0 hF => ?_)
  exact t_X8_load hF hn hd (Nat.le_of_ble_eq_true rfl) (Nat.le_of_ble_eq_true rfl) q0 h (fun v9 q9 => nomatch q9) (fun k9 q9 => by cases q9; exact ⟨⟨rfl, rfl, rfl, rfl⟩, Nat.le_of_ble_eq_true rfl, Nat.le_of_ble_eq_true rfl⟩)
theorem t_X8_errorOffset {Z : gZ} {d mc ms : Nat} {Acc : Option Value → (Nat → Nat) → gT → gM → Prop} {AccX : Nat → (Nat → Nat) → gT → gM → Prop} {ad : Nat → Nat} {T : gT} {M : gM} {m_a0 : Nat} {a0 : Nat} {o : Int32} (hF : gFix Z cX8_errorOffset RX8 "errorOffset" (some .int) d mc ms Acc AccX) (hn : Z.2.2.2.2.2.1 = 1) (hd : 1 ≤ d) (q0 : T[a0]? = some (8, m_a0)) (h : f_X8_errorOffset T M a0 = some o) (hR : Acc (some (.int o)) ad T M) : gG Z ad T M 0 0 0 [(0, .ref a0)] [] := by
  unfold f_X8_errorOffset at h
  refine g_aload_n hF 0 rfl rfl dX8_errorOffset_0 ?_
  refine g_get_i hF fl_RX8_17 q0 dX8_errorOffset_1 ?_
  cases h
  exact g_ret_i hF rfl rfl dX8_errorOffset_4 hR (Nat.zero_le _) (Nat.zero_le _)
theorem c_X8_errorOffset {d : Nat} {T : gT} {M : gM} {m_a0 : Nat} {a0 : Nat} {r : Int32} (hd : 1 ≤ d) (q0 : T[a0]? = some (8, m_a0)) (h : f_X8_errorOffset T M a0 = some (r)) : gRet d yX8_errorOffset cX8_errorOffset 1 (some .int) 0 0 [.ref a0] T M (gSame T (some (.int r)) M) := by
  refine gRet_of (own := RX8) (by decide) rfl (Nat.le_of_ble_eq_true rfl) (fun Z ad0 hn h0 hF => ?_)
  exact t_X8_errorOffset hF hn hd q0 h ⟨rfl, rfl, rfl, rfl⟩
theorem t_X8_libraries {Z : gZ} {d mc ms : Nat} {Acc : Option Value → (Nat → Nat) → gT → gM → Prop} {AccX : Nat → (Nat → Nat) → gT → gM → Prop} {ad : Nat → Nat} {T : gT} {M : gM} {m_a0 : Nat} {a0 : Nat} {o : Int32} (hF : gFix Z cX8_libraries RX8 "libraries" (some .int) d mc ms Acc AccX) (hn : Z.2.2.2.2.2.1 = 1) (hd : 1 ≤ d) (q0 : T[a0]? = some (8, m_a0)) (h : f_X8_libraries T M a0 = some o) (hR : Acc (some (.int o)) ad T M) : gG Z ad T M 0 0 0 [(0, .ref a0)] [] := by
  unfold f_X8_libraries at h
  refine g_aload_n hF 0 rfl rfl dX8_libraries_0 ?_
  obtain ⟨b1, h1, h⟩ := gbnd h
  obtain ⟨g1, l1, q_b1⟩ := ldr_sp h1
  refine g_get_r hF g1 fl_RX8_30 q0 dX8_libraries_1 ?_
  refine g_get_iN hF fn_RX8_91 q_b1 dX8_libraries_4 ?_
  cases h
  exact g_ret_i hF rfl rfl dX8_libraries_7 hR (Nat.zero_le _) (Nat.zero_le _)
theorem c_X8_libraries {d : Nat} {T : gT} {M : gM} {m_a0 : Nat} {a0 : Nat} {r : Int32} (hd : 1 ≤ d) (q0 : T[a0]? = some (8, m_a0)) (h : f_X8_libraries T M a0 = some (r)) : gRet d yX8_libraries cX8_libraries 1 (some .int) 0 0 [.ref a0] T M (gSame T (some (.int r)) M) := by
  refine gRet_of (own := RX8) (by decide) rfl (Nat.le_of_ble_eq_true rfl) (fun Z ad0 hn h0 hF => ?_)
  exact t_X8_libraries hF hn hd q0 h ⟨rfl, rfl, rfl, rfl⟩
theorem t_X8_names {Z : gZ} {d mc ms : Nat} {Acc : Option Value → (Nat → Nat) → gT → gM → Prop} {AccX : Nat → (Nat → Nat) → gT → gM → Prop} {ad : Nat → Nat} {T : gT} {M : gM} {m_a0 : Nat} {a0 : Nat} {o : Int32} (hF : gFix Z cX8_names RX8 "names" (some .int) d mc ms Acc AccX) (hn : Z.2.2.2.2.2.1 = 1) (hd : 1 ≤ d) (q0 : T[a0]? = some (8, m_a0)) (h : f_X8_names T M a0 = some o) (hR : Acc (some (.int o)) ad T M) : gG Z ad T M 0 0 0 [(0, .ref a0)] [] := by
  unfold f_X8_names at h
  refine g_aload_n hF 0 rfl rfl dX8_names_0 ?_
  obtain ⟨b1, h1, h⟩ := gbnd h
  obtain ⟨g1, l1, q_b1⟩ := ldr_sp h1
  refine g_get_r hF g1 fl_RX8_30 q0 dX8_names_1 ?_
  refine g_get_iN hF fn_RX8_94 q_b1 dX8_names_4 ?_
  cases h
  exact g_ret_i hF rfl rfl dX8_names_7 hR (Nat.zero_le _) (Nat.zero_le _)
theorem c_X8_names {d : Nat} {T : gT} {M : gM} {m_a0 : Nat} {a0 : Nat} {r : Int32} (hd : 1 ≤ d) (q0 : T[a0]? = some (8, m_a0)) (h : f_X8_names T M a0 = some (r)) : gRet d yX8_names cX8_names 1 (some .int) 0 0 [.ref a0] T M (gSame T (some (.int r)) M) := by
  refine gRet_of (own := RX8) (by decide) rfl (Nat.le_of_ble_eq_true rfl) (fun Z ad0 hn h0 hF => ?_)
  exact t_X8_names hF hn hd q0 h ⟨rfl, rfl, rfl, rfl⟩
theorem t_X8_share {Z : gZ} {d mc ms : Nat} {Acc : Option Value → (Nat → Nat) → gT → gM → Prop} {AccX : Nat → (Nat → Nat) → gT → gM → Prop} {ad : Nat → Nat} {T : gT} {M : gM} {m_a0 : Nat} {a0 : Nat} {o : Int32} (hF : gFix Z cX8_share RX8 "share" (some .int) d mc ms Acc AccX) (hn : Z.2.2.2.2.2.1 = 1) (hd : 1 ≤ d) (q0 : T[a0]? = some (8, m_a0)) (h : f_X8_share T M a0 = some o) (hR : Acc (some (.int o)) ad T M) : gG Z ad T M 0 0 0 [(0, .ref a0)] [] := by
  unfold f_X8_share at h
  refine g_aload_n hF 0 rfl rfl dX8_share_0 ?_
  obtain ⟨b1, h1, h⟩ := gbnd h
  obtain ⟨g1, l1, q_b1⟩ := ldr_sp h1
  refine g_get_r hF g1 fl_RX8_30 q0 dX8_share_1 ?_
  refine g_get_iN hF fn_RX8_97 q_b1 dX8_share_4 ?_
  cases h
  exact g_ret_i hF rfl rfl dX8_share_7 hR (Nat.zero_le _) (Nat.zero_le _)
theorem c_X8_share {d : Nat} {T : gT} {M : gM} {m_a0 : Nat} {a0 : Nat} {r : Int32} (hd : 1 ≤ d) (q0 : T[a0]? = some (8, m_a0)) (h : f_X8_share T M a0 = some (r)) : gRet d yX8_share cX8_share 1 (some .int) 0 0 [.ref a0] T M (gSame T (some (.int r)) M) := by
  refine gRet_of (own := RX8) (by decide) rfl (Nat.le_of_ble_eq_true rfl) (fun Z ad0 hn h0 hF => ?_)
  exact t_X8_share hF hn hd q0 h ⟨rfl, rfl, rfl, rfl⟩
theorem t_X8_requireLibrary_15 {Z : gZ} {d mc ms : Nat} {Acc : Option Value → (Nat → Nat) → gT → gM → Prop} {AccX : Nat → (Nat → Nat) → gT → gM → Prop} {ad : Nat → Nat} {T : gT} {M : gM} {o : Nat ⊕ Unit} (hF : gFix Z cX8_requireLibrary RX8 "requireLibrary" none d mc ms Acc AccX) (hn : Z.2.2.2.2.2.1 = 2) (hd : 6 ≤ d)  (h : f_X8_requireLibrary_15 T M  = some o) (hR : ∀ v9, o = .inr v9 → Acc none ad T M) (hX : ∀ k9, o = .inl k9 → AccX k9 ad T M ∧ 1 ≤ mc ∧ 6 ≤ ms) : gG Z ad T M 0 0 15 [] [] := by
  unfold f_X8_requireLibrary_15 at h
  cases h
  exact g_throw (text := "there is no such library") (sa := gSB + 100) hF thr_RX8_232 (by decide +kernel) (Nat.le_of_ble_eq_true rfl) (by omega) (hX _ rfl).2.1 (hX _ rfl).2.2 (hX _ rfl).1 dX8_requireLibrary_15 dX8_requireLibrary_18 dX8_requireLibrary_19 dX8_requireLibrary_21 dX8_requireLibrary_24
theorem t_X8_requireLibrary {Z : gZ} {d mc ms : Nat} {Acc : Option Value → (Nat → Nat) → gT → gM → Prop} {AccX : Nat → (Nat → Nat) → gT → gM → Prop} {ad : Nat → Nat} {T : gT} {M : gM} {m_a0 : Nat} {a0 : Nat} {i1 : Int32} {o : Nat ⊕ Unit} (hF : gFix Z cX8_requireLibrary RX8 "requireLibrary" none d mc ms Acc AccX) (hn : Z.2.2.2.2.2.1 = 2) (hd : 6 ≤ d) (q0 : T[a0]? = some (8, m_a0)) (h : f_X8_requireLibrary T M a0 i1 = some o) (hR : ∀ v9, o = .inr v9 → Acc none ad T M) (hX : ∀ k9, o = .inl k9 → AccX k9 ad T M ∧ 1 ≤ mc ∧ 6 ≤ ms) : gG Z ad T M 0 0 0 [(0, .ref a0), (1, .int i1)] [] := by
  unfold f_X8_requireLibrary at h
  refine g_iload_n hF 1 rfl rfl dX8_requireLibrary_0 ?_
  refine g_if_lt (tgt := 15) hF dX8_requireLibrary_1 (by decide) (fun c1 => ?_) (fun c1 => ?_)
  · replace h := gif_t c1 h
    exact gG_sub [] rfl (t_X8_requireLibrary_15 hF hn hd  h hR hX)
  · replace h := gif_f c1 h
    refine g_iload_n hF 1 rfl rfl dX8_requireLibrary_4 ?_
    refine g_aload_n hF 0 rfl rfl dX8_requireLibrary_5 ?_
    obtain ⟨b2, h2, h⟩ := gbnd h
    obtain ⟨g2, l2, q_b2⟩ := ldr_sp h2
    refine g_get_r hF g2 fl_RX8_30 q0 dX8_requireLibrary_6 ?_
    refine g_get_iN hF fn_RX8_91 q_b2 dX8_requireLibrary_9 ?_
    refine g_icmp_lt (tgt := 25) hF dX8_requireLibrary_12 (by decide) (fun c3 => ?_) (fun c3 => ?_)
    · replace h := gif_t c3 h
      cases h
      exact g_ret_v hF rfl dX8_requireLibrary_25 (hR _ rfl) (Nat.zero_le _) (Nat.zero_le _)
    · replace h := gif_f c3 h
      exact gG_sub [] rfl (t_X8_requireLibrary_15 hF hn hd  h hR hX)
theorem c_X8_requireLibrary {d : Nat} {T : gT} {M : gM} {m_a0 : Nat} {a0 : Nat} {i1 : Int32} {r : Unit} (hd : 6 ≤ d) (q0 : T[a0]? = some (8, m_a0)) (h : f_X8_requireLibrary T M a0 i1 = some (.inr r)) : gRet d yX8_requireLibrary cX8_requireLibrary 2 none 0 0 [.ref a0, .int i1] T M (gSame T none M) := by
  refine gRet_of (own := RX8) (by decide) rfl (Nat.le_of_ble_eq_true rfl) (fun Z ad0 hn h0 hF => ?_)
  exact t_X8_requireLibrary hF hn hd q0 h (fun v9 q9 => by cases q9; exact ⟨rfl, rfl, rfl, rfl⟩) (fun k9 q9 => nomatch q9)
theorem cx_X8_requireLibrary {d : Nat} {T : gT} {M : gM} {m_a0 : Nat} {a0 : Nat} {i1 : Int32} {k : Nat} (hd : 6 ≤ d) (q0 : T[a0]? = some (8, m_a0)) (h : f_X8_requireLibrary T M a0 i1 = some (.inl k)) : gRetX d yX8_requireLibrary cX8_requireLibrary 2 none 1 6 [.ref a0, .int i1] T M k := by
  refine gRetX_of (own := RX8) (by decide) rfl (Nat.le_of_ble_eq_true rfl) (fun Z ad0 hn h0 hF => ?_)
  exact t_X8_requireLibrary hF hn hd q0 h (fun v9 q9 => nomatch q9) (fun k9 q9 => by cases q9; exact ⟨⟨rfl, rfl, rfl, rfl⟩, Nat.le_of_ble_eq_true rfl, Nat.le_of_ble_eq_true rfl⟩)
