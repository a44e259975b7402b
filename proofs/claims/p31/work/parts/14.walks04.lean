theorem t_X1_countMargin_59 {Z : gZ} {d mc ms : Nat} {Acc : Option Value → (Nat → Nat) → gT → gM → Prop} {AccX : Nat → (Nat → Nat) → gT → gM → Prop} {ad : Nat → Nat} {T : gT} {M : gM} {m_a0 m_a1 : Nat} {a0 : Nat} {a1 : Nat} {i2 : Int32} {i3 : Int32} {i4 : Int32} {i5 : Int32} {o : (Int32) ⊕ (Int32 × Int32)} (hF : gFix Z cX1_countMargin RX1 "countMargin" none d mc ms Acc AccX) (hn : Z.2.2.2.2.2.1 = 6) (hd : 2 ≤ d) (q0 : T[a0]? = some (1, m_a0)) (q1 : T[a1]? = some (0, m_a1)) (h : f_X1_countMargin_59 T M a0 a1 i2 i3 i4 i5 = some o) (hE : ∀ e9, o = .inl e9 → gG Z ad T M 0 0 65 [(0, .ref a0), (2, .int i2), (3, .int i3), (4, .int e9)] []) (hN : ∀ n9, o = .inr n9 → gG Z ad T M 0 0 26 [(0, .ref a0), (1, .ref a1), (2, .int i2), (3, .int i3), (4, .int n9.1), (5, .int n9.2)] []) : gG Z ad T M 0 0 59 [(0, .ref a0), (1, .ref a1), (2, .int i2), (3, .int i3), (4, .int i4), (5, .int i5)] [] := by
  unfold f_X1_countMargin_59 at h
  refine g_iinc (n := 1) (v := (i5 + (1 : Int32))) (ls' := [(5, .int (i5 + (1 : Int32))), (0, .ref a0), (1, .ref a1), (2, .int i2), (3, .int i3), (4, .int i4)]) hF 5 rfl rfl (by rw [hn]; decide) rfl dX1_countMargin_59 ?_
  refine g_goto (tgt := 26) hF dX1_countMargin_62 (by decide) ?_
  exact gG_sub [1, 2, 3, 4, 5, 0] rfl (hN _ (Option.some.inj h).symm)
theorem t_X1_countMargin_B26 {Z : gZ} {d mc ms : Nat} {Acc : Option Value → (Nat → Nat) → gT → gM → Prop} {AccX : Nat → (Nat → Nat) → gT → gM → Prop} {ad : Nat → Nat} {T : gT} {M : gM} {m_a0 m_a1 : Nat} {a0 : Nat} {a1 : Nat} {i2 : Int32} {i3 : Int32} {i4 : Int32} {i5 : Int32} {o : (Int32) ⊕ (Int32 × Int32)} (hF : gFix Z cX1_countMargin RX1 "countMargin" none d mc ms Acc AccX) (hn : Z.2.2.2.2.2.1 = 6) (hd : 2 ≤ d) (q0 : T[a0]? = some (1, m_a0)) (q1 : T[a1]? = some (0, m_a1)) (h : f_X1_countMargin_B26 T M a0 a1 i2 i3 i4 i5 = some o) (hE : ∀ e9, o = .inl e9 → gG Z ad T M 0 0 65 [(0, .ref a0), (2, .int i2), (3, .int i3), (4, .int e9)] []) (hN : ∀ n9, o = .inr n9 → gG Z ad T M 0 0 26 [(0, .ref a0), (1, .ref a1), (2, .int i2), (3, .int i3), (4, .int n9.1), (5, .int n9.2)] []) : gG Z ad T M 0 0 26 [(0, .ref a0), (1, .ref a1), (2, .int i2), (3, .int i3), (4, .int i4), (5, .int i5)] [] := by
  unfold f_X1_countMargin_B26 at h
  refine g_iload hF 5 rfl dX1_countMargin_26 ?_
  refine g_aload_n hF 1 rfl rfl dX1_countMargin_28 ?_
  refine g_get_iN hF fn_RX1_33 q1 dX1_countMargin_29 ?_
  refine g_icmp_ge (tgt := 65) hF dX1_countMargin_32 (by decide) (fun c1 => ?_) (fun c1 => ?_)
  · replace h := gif_t c1 h
    exact gG_sub [0, 2, 3, 4] rfl (hE _ (Option.some.inj h).symm)
  · replace h := gif_f c1 h
    refine g_iload hF 5 rfl dX1_countMargin_35 ?_
    refine g_iload_n hF 3 rfl rfl dX1_countMargin_37 ?_
    refine g_icmp_eq (tgt := 59) hF dX1_countMargin_38 (by decide) (fun c2 => ?_) (fun c2 => ?_)
    · replace h := gif_t c2 h
      exact gG_sub [0, 1, 2, 3, 4, 5] rfl (t_X1_countMargin_59 hF hn hd q0 q1 h hE hN)
    · replace h := gif_f c2 h
      refine g_iload hF 4 rfl dX1_countMargin_41 ?_
      refine g_aload_n hF 0 rfl rfl dX1_countMargin_43 ?_
      obtain ⟨b3, h3, h⟩ := gbnd h
      obtain ⟨g3, l3, q_b3⟩ := ldr_sp h3
      refine g_get_r hF g3 fl_RX1_27 q0 dX1_countMargin_44 ?_
      refine g_iload hF 5 rfl dX1_countMargin_47 ?_
      refine g_iload_n hF 2 rfl rfl dX1_countMargin_49 ?_
      obtain ⟨x4, h4, h⟩ := gbnd h
      refine g_callSN hF my_X8_cellOf kn_460 kw_461 (c_X8_cellOf (d := d - 1) (by omega)  h4) (by omega) (Nat.zero_le _) (Nat.zero_le _) rfl rfl (Nat.le_of_ble_eq_true rfl) dX1_countMargin_50 (g_sameS ?_)
      obtain ⟨v5, h5, h⟩ := gbnd h
      obtain ⟨i5h, e5v⟩ := ald_sp q_b3 h5
      refine g_iald hF q_b3 i5h dX1_countMargin_53 ?_
      rw [← e5v]
      refine g_max hF kw_483 (by omega) (Nat.zero_le _) (Nat.zero_le _) (Nat.le_of_ble_eq_true rfl) dX1_countMargin_54 ?_
      refine g_istore (ls' := [(4, .int (imax i4 v5)), (0, .ref a0), (1, .ref a1), (2, .int i2), (3, .int i3), (5, .int i5)]) hF (by rw [hn]; decide) rfl dX1_countMargin_57 ?_
      exact gG_sub [1, 2, 3, 4, 0, 5] rfl (t_X1_countMargin_59 hF hn hd q0 q1 h hE hN)
theorem t_X1_countMargin_L26 {Z : gZ} {d mc ms : Nat} {Acc : Option Value → (Nat → Nat) → gT → gM → Prop} {AccX : Nat → (Nat → Nat) → gT → gM → Prop} {ad : Nat → Nat} {T : gT} {M : gM} {m_a0 m_a1 : Nat} {a0 : Nat} {a1 : Nat} {i2 : Int32} {i3 : Int32} {i4 : Int32} {i5 : Int32} {o : Int32} (hF : gFix Z cX1_countMargin RX1 "countMargin" none d mc ms Acc AccX) (hn : Z.2.2.2.2.2.1 = 6) (hd : 2 ≤ d) (q0 : T[a0]? = some (1, m_a0)) (q1 : T[a1]? = some (0, m_a1)) (h : gloop (fun x => f_X1_countMargin_B26 T M a0 a1 i2 i3 x.1 x.2) gFU (i4, i5) = some o) (hE : gG Z ad T M 0 0 65 [(0, .ref a0), (2, .int i2), (3, .int i3), (4, .int o)] []) : gG Z ad T M 0 0 26 [(0, .ref a0), (1, .ref a1), (2, .int i2), (3, .int i3), (4, .int i4), (5, .int i5)] [] := by
  refine gloop_ind (P := fun x0 : Int32 × Int32 => gG Z ad T M 0 0 26 [(0, .ref a0), (1, .ref a1), (2, .int i2), (3, .int i3), (4, .int x0.1), (5, .int x0.2)] []) (e := o) (fun x0 y hy hl hr => ?_) gFU (i4, i5) h
  exact t_X1_countMargin_B26 hF hn hd q0 q1 hy (fun e9 q9 => by rw [hl _ q9]; exact hE) (fun n9 q9 => hr n9 q9)
theorem t_X1_countMargin {Z : gZ} {d mc ms : Nat} {Acc : Option Value → (Nat → Nat) → gT → gM → Prop} {AccX : Nat → (Nat → Nat) → gT → gM → Prop} {ad : Nat → Nat} {T : gT} {M : gM} {m_a0 m_a1 : Nat} {a0 : Nat} {a1 : Nat} {i2 : Int32} {o : gM} (hF : gFix Z cX1_countMargin RX1 "countMargin" none d mc ms Acc AccX) (hn : Z.2.2.2.2.2.1 = 6) (hd : 2 ≤ d) (q0 : T[a0]? = some (1, m_a0)) (q1 : T[a1]? = some (0, m_a1)) (h : f_X1_countMargin T M a0 a1 i2 = some o) (hR : Acc none ad T o) : gG Z ad T M 0 0 0 [(0, .ref a0), (1, .ref a1), (2, .int i2)] [] := by
  unfold f_X1_countMargin at h
  refine g_aload_n hF 0 rfl rfl dX1_countMargin_0 ?_
  obtain ⟨b7, h7, h⟩ := gbnd h
  obtain ⟨g7, l7, q_b7⟩ := ldr_sp h7
  refine g_get_r hF g7 fl_RX1_18 q0 dX1_countMargin_1 ?_
  refine g_iload_n hF 2 rfl rfl dX1_countMargin_4 ?_
  obtain ⟨v8, h8, h⟩ := gbnd h
  obtain ⟨i8h, e8v⟩ := ald_sp q_b7 h8
  refine g_iald hF q_b7 i8h dX1_countMargin_5 ?_
  rw [← e8v]
  refine g_istore_n (ls' := [(3, .int v8), (0, .ref a0), (1, .ref a1), (2, .int i2)]) hF rfl (by rw [hn]; decide) rfl dX1_countMargin_6 ?_
  refine g_iload_n hF 0 rfl rfl dX1_countMargin_7 ?_
  refine g_iconst (v := (-1 : Int32)) hF rfl dX1_countMargin_8 ?_
  refine g_icmp_ne (tgt := 20) hF dX1_countMargin_9 (by decide) (fun c9 => ?_) (fun c9 => ?_)
  · replace h := gif_t c9 h
    refine g_iconst (v := (0 : Int32)) hF rfl dX1_countMargin_20 ?_
    refine g_istore (ls' := [(4, .int (0 : Int32)), (3, .int v8), (0, .ref a0), (1, .ref a1), (2, .int i2)]) hF (by rw [hn]; decide) rfl dX1_countMargin_21 ?_
    refine g_iconst (v := (0 : Int32)) hF rfl dX1_countMargin_23 ?_
    refine g_istore (ls' := [(5, .int (0 : Int32)), (4, .int (0 : Int32)), (3, .int v8), (0, .ref a0), (1, .ref a1), (2, .int i2)]) hF (by rw [hn]; decide) rfl dX1_countMargin_24 ?_
    obtain ⟨x10, h10, h⟩ := gbnd h
    refine gG_sub [3, 4, 5, 2, 1, 0] rfl (t_X1_countMargin_L26 hF hn hd q0 q1 h10 ?_)
    refine g_aload_n hF 0 rfl rfl dX1_countMargin_65 ?_
    obtain ⟨b11, h11, h⟩ := gbnd h
    obtain ⟨g11, l11, q_b11⟩ := ldr_sp h11
    refine g_get_r hF g11 fl_RX1_21 q0 dX1_countMargin_66 ?_
    refine g_iload_n hF 1 rfl rfl dX1_countMargin_69 ?_
    refine g_aload_n hF 0 rfl rfl dX1_countMargin_70 ?_
    obtain ⟨b12, h12, h⟩ := gbnd h
    obtain ⟨g12, l12, q_b12⟩ := ldr_sp h12
    refine g_get_r hF g12 fl_RX1_27 q0 dX1_countMargin_71 ?_
    refine g_iload_n hF 2 rfl rfl dX1_countMargin_74 ?_
    refine g_iload_n hF 1 rfl rfl dX1_countMargin_75 ?_
    obtain ⟨x13, h13, h⟩ := gbnd h
    refine g_callSN hF my_X8_cellOf kn_460 kw_461 (c_X8_cellOf (d := d - 1) (by omega)  h13) (by omega) (Nat.zero_le _) (Nat.zero_le _) rfl rfl (Nat.le_of_ble_eq_true rfl) dX1_countMargin_76 (g_sameS ?_)
    obtain ⟨v14, h14, h⟩ := gbnd h
    obtain ⟨i14h, e14v⟩ := ald_sp q_b12 h14
    refine g_iald hF q_b12 i14h dX1_countMargin_79 ?_
    rw [← e14v]
    refine g_iload hF 3 rfl dX1_countMargin_80 ?_
    refine g_isub hF dX1_countMargin_82 ?_
    obtain ⟨M15, h15, h⟩ := gbnd h
    obtain ⟨i15h, e15v⟩ := ast_sp q_b11 h15
    refine g_iast hF q_b11 i15h dX1_countMargin_83 ?_
    rw [← e15v]
    cases h
    exact g_ret_v hF rfl dX1_countMargin_84 hR (Nat.zero_le _) (Nat.zero_le _)
  · replace h := gif_n c9 h
    refine g_aload_n hF 1 rfl rfl dX1_countMargin_12 ?_
    obtain ⟨b16, h16, h⟩ := gbnd h
    obtain ⟨g16, l16, q_b16⟩ := ldr_sp h16
    refine g_get_r hF g16 fl_RX1_21 q0 dX1_countMargin_13 ?_
    refine g_iload_n hF 3 rfl rfl dX1_countMargin_16 ?_
    refine g_iconst (v := (-1 : Int32)) hF rfl dX1_countMargin_17 ?_
    obtain ⟨M17, h17, h⟩ := gbnd h
    obtain ⟨i17h, e17v⟩ := ast_sp q_b16 h17
    refine g_iast hF q_b16 i17h dX1_countMargin_18 ?_
    rw [← e17v]
    cases h
    exact g_ret_v hF rfl dX1_countMargin_19 hR (Nat.zero_le _) (Nat.zero_le _)
theorem c_X1_countMargin {d : Nat} {T : gT} {M : gM} {m_a0 m_a1 : Nat} {a0 : Nat} {a1 : Nat} {i2 : Int32} {r : gM} (hd : 2 ≤ d) (q0 : T[a0]? = some (1, m_a0)) (q1 : T[a1]? = some (0, m_a1)) (h : f_X1_countMargin T M a0 a1 i2 = some (r)) : gRet d yX1_countMargin cX1_countMargin 6 none 0 0 [.ref a0, .ref a1, .int i2] T M (gSame T none r) := by
  refine gRet_of (own := RX1) (by decide) rfl (Nat.le_of_ble_eq_true rfl) (fun Z ad0 hn h0 hF => ?_)
  exact t_X1_countMargin hF hn hd q0 q1 h ⟨rfl, rfl, rfl, rfl⟩
theorem t_X1_isLargeEnough_29 {Z : gZ} {d mc ms : Nat} {Acc : Option Value → (Nat → Nat) → gT → gM → Prop} {AccX : Nat → (Nat → Nat) → gT → gM → Prop} {ad : Nat → Nat} {T : gT} {M : gM} {o : Int32} (hF : gFix Z cX1_isLargeEnough RX1 "isLargeEnough" (some .boolean) d mc ms Acc AccX) (hn : Z.2.2.2.2.2.1 = 5) (hd : 2 ≤ d)  (h : f_X1_isLargeEnough_29 T M  = some o) (hR : Acc (some (.int o)) ad T M) : gG Z ad T M 0 0 29 [] [] := by
  unfold f_X1_isLargeEnough_29 at h
  refine g_iconst (v := (0 : Int32)) hF rfl dX1_isLargeEnough_29 ?_
  cases h
  exact g_ret_i hF rfl rfl dX1_isLargeEnough_30 hR (Nat.zero_le _) (Nat.zero_le _)
theorem t_X1_isLargeEnough {Z : gZ} {d mc ms : Nat} {Acc : Option Value → (Nat → Nat) → gT → gM → Prop} {AccX : Nat → (Nat → Nat) → gT → gM → Prop} {ad : Nat → Nat} {T : gT} {M : gM} {m_a0 : Nat} {a0 : Nat} {i1 : Int32} {i2 : Int32} {i3 : Int32} {i4 : Int32} {o : Int32} (hF : gFix Z cX1_isLargeEnough RX1 "isLargeEnough" (some .boolean) d mc ms Acc AccX) (hn : Z.2.2.2.2.2.1 = 5) (hd : 2 ≤ d) (q0 : T[a0]? = some (1, m_a0)) (h : f_X1_isLargeEnough T M a0 i1 i2 i3 i4 = some o) (hR : Acc (some (.int o)) ad T M) : gG Z ad T M 0 0 0 [(0, .ref a0), (1, .int i1), (2, .int i2), (3, .int i3), (4, .int i4)] [] := by
  unfold f_X1_isLargeEnough at h
  refine g_iload_n hF 1 rfl rfl dX1_isLargeEnough_0 ?_
  refine g_iconst (v := (-1 : Int32)) hF rfl dX1_isLargeEnough_1 ?_
  refine g_icmp_eq (tgt := 29) hF dX1_isLargeEnough_2 (by decide) (fun c1 => ?_) (fun c1 => ?_)
  · replace h := gif_t c1 h
    exact gG_sub [] rfl (t_X1_isLargeEnough_29 hF hn hd  h hR)
  · replace h := gif_f c1 h
    refine g_bipush (v := (100 : Int32)) hF rfl dX1_isLargeEnough_5 ?_
    refine g_aload_n hF 0 rfl rfl dX1_isLargeEnough_7 ?_
    obtain ⟨b2, h2, h⟩ := gbnd h
    obtain ⟨g2, l2, q_b2⟩ := ldr_sp h2
    refine g_get_r hF g2 fl_RX1_27 q0 dX1_isLargeEnough_8 ?_
    refine g_iload_n hF 1 rfl rfl dX1_isLargeEnough_11 ?_
    refine g_iload_n hF 2 rfl rfl dX1_isLargeEnough_12 ?_
    obtain ⟨x3, h3, h⟩ := gbnd h
    refine g_callSN hF my_X8_cellOf kn_460 kw_461 (c_X8_cellOf (d := d - 1) (by omega)  h3) (by omega) (Nat.zero_le _) (Nat.zero_le _) rfl rfl (Nat.le_of_ble_eq_true rfl) dX1_isLargeEnough_13 (g_sameS ?_)
    obtain ⟨v4, h4, h⟩ := gbnd h
    obtain ⟨i4h, e4v⟩ := ald_sp q_b2 h4
    refine g_iald hF q_b2 i4h dX1_isLargeEnough_16 ?_
    rw [← e4v]
    refine g_imul hF dX1_isLargeEnough_17 ?_
    refine g_iload_n hF 3 rfl rfl dX1_isLargeEnough_18 ?_
    refine g_iload hF 4 rfl dX1_isLargeEnough_19 ?_
    refine g_imul hF dX1_isLargeEnough_21 ?_
    refine g_icmp_lt (tgt := 29) hF dX1_isLargeEnough_22 (by decide) (fun c5 => ?_) (fun c5 => ?_)
    · replace h := gif_t c5 h
      exact gG_sub [] rfl (t_X1_isLargeEnough_29 hF hn hd  h hR)
    · replace h := gif_f c5 h
      refine g_iconst (v := (1 : Int32)) hF rfl dX1_isLargeEnough_25 ?_
      refine g_goto (tgt := 30) hF dX1_isLargeEnough_26 (by decide) ?_
      cases h
      exact g_ret_i hF rfl rfl dX1_isLargeEnough_30 hR (Nat.zero_le _) (Nat.zero_le _)
theorem c_X1_isLargeEnough {d : Nat} {T : gT} {M : gM} {m_a0 : Nat} {a0 : Nat} {i1 : Int32} {i2 : Int32} {i3 : Int32} {i4 : Int32} {r : Int32} (hd : 2 ≤ d) (q0 : T[a0]? = some (1, m_a0)) (h : f_X1_isLargeEnough T M a0 i1 i2 i3 i4 = some (r)) : gRet d yX1_isLargeEnough cX1_isLargeEnough 5 (some .boolean) 0 0 [.ref a0, .int i1, .int i2, .int i3, .int i4] T M (gSame T (some (.int r)) M) := by
  refine gRet_of (own := RX1) (by decide) rfl (Nat.le_of_ble_eq_true rfl) (fun Z ad0 hn h0 hF => ?_)
  exact t_X1_isLargeEnough hF hn hd q0 h ⟨rfl, rfl, rfl, rfl⟩
theorem t_X1_countBindings_145 {Z : gZ} {d mc ms : Nat} {Acc : Option Value → (Nat → Nat) → gT → gM → Prop} {AccX : Nat → (Nat → Nat) → gT → gM → Prop} {ad : Nat → Nat} {T : gT} {M : gM} {m_a0 m_a1 : Nat} {a0 : Nat} {a1 : Nat} {i2 : Int32} {i3 : Int32} {i4 : Int32} {o : (gM) ⊕ (Int32 × gM)} (hF : gFix Z cX1_countBindings RX1 "countBindings" none d mc ms Acc AccX) (hn : Z.2.2.2.2.2.1 = 6) (hd : 3 ≤ d) (q0 : T[a0]? = some (1, m_a0)) (q1 : T[a1]? = some (0, m_a1)) (h : f_X1_countBindings_145 T M a0 a1 i2 i3 i4 = some o) (hE : ∀ e9, o = .inl e9 → gG Z ad T e9 0 0 151 [] []) (hN : ∀ n9, o = .inr n9 → gG Z ad T n9.2 0 0 41 [(0, .ref a0), (1, .ref a1), (2, .int i2), (3, .int i3), (4, .int n9.1)] []) : gG Z ad T M 0 0 145 [(0, .ref a0), (1, .ref a1), (2, .int i2), (3, .int i3), (4, .int i4)] [] := by
  unfold f_X1_countBindings_145 at h
  refine g_iinc (n := 1) (v := (i4 + (1 : Int32))) (ls' := [(4, .int (i4 + (1 : Int32))), (0, .ref a0), (1, .ref a1), (2, .int i2), (3, .int i3)]) hF 4 rfl rfl (by rw [hn]; decide) rfl dX1_countBindings_145 ?_
  refine g_goto (tgt := 41) hF dX1_countBindings_148 (by decide) ?_
  exact gG_sub [1, 2, 3, 4, 0] rfl (hN _ (Option.some.inj h).symm)
theorem t_X1_countBindings_132 {Z : gZ} {d mc ms : Nat} {Acc : Option Value → (Nat → Nat) → gT → gM → Prop} {AccX : Nat → (Nat → Nat) → gT → gM → Prop} {ad : Nat → Nat} {T : gT} {M : gM} {m_a0 m_a1 : Nat} {a0 : Nat} {a1 : Nat} {i2 : Int32} {i3 : Int32} {i4 : Int32} {i5 : Int32} {o : (gM) ⊕ (Int32 × gM)} (hF : gFix Z cX1_countBindings RX1 "countBindings" none d mc ms Acc AccX) (hn : Z.2.2.2.2.2.1 = 6) (hd : 3 ≤ d) (q0 : T[a0]? = some (1, m_a0)) (q1 : T[a1]? = some (0, m_a1)) (h : f_X1_countBindings_132 T M a0 a1 i2 i3 i4 i5 = some o) (hE : ∀ e9, o = .inl e9 → gG Z ad T e9 0 0 151 [] []) (hN : ∀ n9, o = .inr n9 → gG Z ad T n9.2 0 0 41 [(0, .ref a0), (1, .ref a1), (2, .int i2), (3, .int i3), (4, .int n9.1)] []) : gG Z ad T M 0 0 132 [(0, .ref a0), (1, .ref a1), (2, .int i2), (3, .int i3), (4, .int i4), (5, .int i5)] [] := by
  unfold f_X1_countBindings_132 at h
  refine g_aload_n hF 0 rfl rfl dX1_countBindings_132 ?_
  obtain ⟨b1, h1, h⟩ := gbnd h
  obtain ⟨g1, l1, q_b1⟩ := ldr_sp h1
  refine g_get_r hF g1 fl_RX1_30 q0 dX1_countBindings_133 ?_
  refine g_iload hF 5 rfl dX1_countBindings_136 ?_
  refine g_aload_n hF 0 rfl rfl dX1_countBindings_138 ?_
  obtain ⟨b2, h2, h⟩ := gbnd h
  obtain ⟨g2, l2, q_b2⟩ := ldr_sp h2
  refine g_get_r hF g2 fl_RX1_18 q0 dX1_countBindings_139 ?_
  refine g_iload_n hF 2 rfl rfl dX1_countBindings_142 ?_
  obtain ⟨v3, h3, h⟩ := gbnd h
  obtain ⟨i3h, e3v⟩ := ald_sp q_b2 h3
  refine g_iald hF q_b2 i3h dX1_countBindings_143 ?_
  rw [← e3v]
  obtain ⟨M4, h4, h⟩ := gbnd h
  obtain ⟨i4h, e4v⟩ := ast_sp q_b1 h4
  refine g_iast hF q_b1 i4h dX1_countBindings_144 ?_
  rw [← e4v]
  exact gG_sub [0, 1, 2, 3, 4] rfl (t_X1_countBindings_145 hF hn hd q0 q1 h hE hN)
theorem t_X1_countBindings_B41 {Z : gZ} {d mc ms : Nat} {Acc : Option Value → (Nat → Nat) → gT → gM → Prop} {AccX : Nat → (Nat → Nat) → gT → gM → Prop} {ad : Nat → Nat} {T : gT} {M : gM} {m_a0 m_a1 : Nat} {a0 : Nat} {a1 : Nat} {i2 : Int32} {i3 : Int32} {i4 : Int32} {o : (gM) ⊕ (Int32 × gM)} (hF : gFix Z cX1_countBindings RX1 "countBindings" none d mc ms Acc AccX) (hn : Z.2.2.2.2.2.1 = 6) (hd : 3 ≤ d) (q0 : T[a0]? = some (1, m_a0)) (q1 : T[a1]? = some (0, m_a1)) (h : f_X1_countBindings_B41 T M a0 a1 i2 i3 i4 = some o) (hE : ∀ e9, o = .inl e9 → gG Z ad T e9 0 0 151 [] []) (hN : ∀ n9, o = .inr n9 → gG Z ad T n9.2 0 0 41 [(0, .ref a0), (1, .ref a1), (2, .int i2), (3, .int i3), (4, .int n9.1)] []) : gG Z ad T M 0 0 41 [(0, .ref a0), (1, .ref a1), (2, .int i2), (3, .int i3), (4, .int i4)] [] := by
  unfold f_X1_countBindings_B41 at h
  refine g_iload hF 4 rfl dX1_countBindings_41 ?_
  refine g_aload_n hF 1 rfl rfl dX1_countBindings_43 ?_
  refine g_get_iN hF fn_RX1_33 q1 dX1_countBindings_44 ?_
  refine g_icmp_ge (tgt := 151) hF dX1_countBindings_47 (by decide) (fun c5 => ?_) (fun c5 => ?_)
  · replace h := gif_t c5 h
    exact gG_sub [] rfl (hE _ (Option.some.inj h).symm)
  · replace h := gif_f c5 h
    refine g_iload hF 4 rfl dX1_countBindings_50 ?_
    refine g_iload_n hF 2 rfl rfl dX1_countBindings_52 ?_
    obtain ⟨x6, h6, h⟩ := gbnd h
    refine g_callSN hF my_X8_cellOf kn_460 kw_461 (c_X8_cellOf (d := d - 1) (by omega)  h6) (by omega) (Nat.zero_le _) (Nat.zero_le _) rfl rfl (Nat.le_of_ble_eq_true rfl) dX1_countBindings_53 (g_sameS ?_)
    refine g_istore (ls' := [(5, .int x6), (0, .ref a0), (1, .ref a1), (2, .int i2), (3, .int i3), (4, .int i4)]) hF (by rw [hn]; decide) rfl dX1_countBindings_56 ?_
    refine g_aload_n hF 2 rfl rfl dX1_countBindings_58 ?_
    obtain ⟨b7, h7, h⟩ := gbnd h
    obtain ⟨g7, l7, q_b7⟩ := ldr_sp h7
    refine g_get_rN hF g7 fn_RX1_39 q1 dX1_countBindings_59 ?_
    refine g_iload hF 5 rfl dX1_countBindings_62 ?_
    obtain ⟨b8, h8, h⟩ := gbnd h
    obtain ⟨i8h, g8, l8, q_b8⟩ := aldr_sp q_b7 h8
    refine g_aald hF q_b7 (Or.inr (Or.inl ⟨rfl, rfl⟩)) i8h g8 dX1_countBindings_64 ?_
    obtain ⟨x9, h9, h⟩ := gbnd h
    refine g_callVN hF my_X3_isLoaded kn_405 kw_407 kw_4 gC_3.1 (by decide) q_b8 (c_X3_isLoaded (d := d - 1) (by omega) q_b8 h9) (by omega) (Nat.zero_le _) (Nat.zero_le _) rfl rfl (Nat.le_of_ble_eq_true rfl) dX1_countBindings_65 (g_sameS ?_)
    refine g_if_ne (tgt := 82) hF dX1_countBindings_68 (by decide) (fun c10 => ?_) (fun c10 => ?_)
    · replace h := gif_t c10 h
      refine g_aload_n hF 2 rfl rfl dX1_countBindings_82 ?_
      obtain ⟨b11, h11, h⟩ := gbnd h
      obtain ⟨g11, l11, q_b11⟩ := ldr_sp h11
      refine g_get_rN hF g11 fn_RX1_39 q1 dX1_countBindings_83 ?_
      refine g_iload hF 5 rfl dX1_countBindings_86 ?_
      obtain ⟨b12, h12, h⟩ := gbnd h
      obtain ⟨i12h, g12, l12, q_b12⟩ := aldr_sp q_b11 h12
      refine g_aald hF q_b11 (Or.inr (Or.inl ⟨rfl, rfl⟩)) i12h g12 dX1_countBindings_88 ?_
      refine g_get_iN hF fn_RX1_106 q_b12 dX1_countBindings_89 ?_
      refine g_if_eq (tgt := 132) hF dX1_countBindings_92 (by decide) (fun c13 => ?_) (fun c13 => ?_)
      · replace h := gif_t c13 h
        exact gG_sub [1, 2, 3, 4, 5, 0] rfl (t_X1_countBindings_132 hF hn hd q0 q1 h hE hN)
      · replace h := gif_f c13 h
        refine g_aload_n hF 1 rfl rfl dX1_countBindings_95 ?_
        refine g_aload_n hF 1 rfl rfl dX1_countBindings_96 ?_
        obtain ⟨b14, h14, h⟩ := gbnd h
        obtain ⟨g14, l14, q_b14⟩ := ldr_sp h14
        refine g_get_r hF g14 fl_RX1_24 q0 dX1_countBindings_97 ?_
        refine g_iload hF 0 rfl dX1_countBindings_100 ?_
        obtain ⟨v15, h15, h⟩ := gbnd h
        obtain ⟨i15h, e15v⟩ := ald_sp q_b14 h15
        refine g_iald hF q_b14 i15h dX1_countBindings_102 ?_
        rw [← e15v]
        refine g_iload_n hF 3 rfl rfl dX1_countBindings_103 ?_
        refine g_aload_n hF 2 rfl rfl dX1_countBindings_104 ?_
        refine g_get_iN hF fn_RX1_110 q1 dX1_countBindings_105 ?_
        refine g_iload_n hF 4 rfl rfl dX1_countBindings_108 ?_
        obtain ⟨x16, h16, h⟩ := gbnd h
        refine g_callV hF my_X1_isLargeEnough kw_490 kw_492 kw_18 gC_1.1 (by decide) q0 (c_X1_isLargeEnough (d := d - 1) (by omega) q0 h16) (by omega) (Nat.zero_le _) (Nat.zero_le _) rfl rfl (Nat.le_of_ble_eq_true rfl) dX1_countBindings_109 (g_sameS ?_)
        refine g_if_eq (tgt := 132) hF dX1_countBindings_112 (by decide) (fun c17 => ?_) (fun c17 => ?_)
        · replace h := gif_t c17 h
          exact gG_sub [1, 2, 3, 4, 5, 0] rfl (t_X1_countBindings_132 hF hn hd q0 q1 h hE hN)
        · replace h := gif_f c17 h
          refine g_aload_n hF 1 rfl rfl dX1_countBindings_115 ?_
          obtain ⟨b18, h18, h⟩ := gbnd h
          obtain ⟨g18, l18, q_b18⟩ := ldr_sp h18
          refine g_get_r hF g18 fl_RX1_30 q0 dX1_countBindings_116 ?_
          refine g_iload hF 0 rfl dX1_countBindings_119 ?_
          refine g_aload_n hF 1 rfl rfl dX1_countBindings_121 ?_
          obtain ⟨b19, h19, h⟩ := gbnd h
          obtain ⟨g19, l19, q_b19⟩ := ldr_sp h19
          refine g_get_r hF g19 fl_RX1_24 q0 dX1_countBindings_122 ?_
          refine g_iload hF 0 rfl dX1_countBindings_125 ?_
          obtain ⟨v20, h20, h⟩ := gbnd h
          obtain ⟨i20h, e20v⟩ := ald_sp q_b19 h20
          refine g_iald hF q_b19 i20h dX1_countBindings_127 ?_
          rw [← e20v]
          obtain ⟨M21, h21, h⟩ := gbnd h
          obtain ⟨i21h, e21v⟩ := ast_sp q_b18 h21
          refine g_iast hF q_b18 i21h dX1_countBindings_128 ?_
          rw [← e21v]
          refine g_goto (tgt := 145) hF dX1_countBindings_129 (by decide) ?_
          exact gG_sub [1, 2, 3, 4, 5] rfl (t_X1_countBindings_145 hF hn hd q0 q1 h hE hN)
    · replace h := gif_n c10 h
      refine g_aload_n hF 1 rfl rfl dX1_countBindings_71 ?_
      obtain ⟨b22, h22, h⟩ := gbnd h
      obtain ⟨g22, l22, q_b22⟩ := ldr_sp h22
      refine g_get_r hF g22 fl_RX1_30 q0 dX1_countBindings_72 ?_
      refine g_iload hF 0 rfl dX1_countBindings_75 ?_
      refine g_iconst (v := (-1 : Int32)) hF rfl dX1_countBindings_77 ?_
      obtain ⟨M23, h23, h⟩ := gbnd h
      obtain ⟨i23h, e23v⟩ := ast_sp q_b22 h23
      refine g_iast hF q_b22 i23h dX1_countBindings_78 ?_
      rw [← e23v]
      refine g_goto (tgt := 145) hF dX1_countBindings_79 (by decide) ?_
      exact gG_sub [1, 2, 3, 4, 5] rfl (t_X1_countBindings_145 hF hn hd q0 q1 h hE hN)
theorem t_X1_countBindings_L41 {Z : gZ} {d mc ms : Nat} {Acc : Option Value → (Nat → Nat) → gT → gM → Prop} {AccX : Nat → (Nat → Nat) → gT → gM → Prop} {ad : Nat → Nat} {T : gT} {M : gM} {m_a0 m_a1 : Nat} {a0 : Nat} {a1 : Nat} {i2 : Int32} {i3 : Int32} {i4 : Int32} {o : gM} (hF : gFix Z cX1_countBindings RX1 "countBindings" none d mc ms Acc AccX) (hn : Z.2.2.2.2.2.1 = 6) (hd : 3 ≤ d) (q0 : T[a0]? = some (1, m_a0)) (q1 : T[a1]? = some (0, m_a1)) (h : gloop (fun x => f_X1_countBindings_B41 T x.2 a0 a1 i2 i3 x.1) gFU (i4, M) = some o) (hE : gG Z ad T o 0 0 151 [] []) : gG Z ad T M 0 0 41 [(0, .ref a0), (1, .ref a1), (2, .int i2), (3, .int i3), (4, .int i4)] [] := by
  refine gloop_ind (P := fun x0 : Int32 × gM => gG Z ad T x0.2 0 0 41 [(0, .ref a0), (1, .ref a1), (2, .int i2), (3, .int i3), (4, .int x0.1)] []) (e := o) (fun x0 y hy hl hr => ?_) gFU (i4, M) h
  exact t_X1_countBindings_B41 hF hn hd q0 q1 hy (fun e9 q9 => by rw [hl _ q9]; exact hE) (fun n9 q9 => hr n9 q9)
theorem t_X1_countBindings_B5 {Z : gZ} {d mc ms : Nat} {Acc : Option Value → (Nat → Nat) → gT → gM → Prop} {AccX : Nat → (Nat → Nat) → gT → gM → Prop} {ad : Nat → Nat} {T : gT} {M : gM} {m_a0 m_a1 : Nat} {a0 : Nat} {a1 : Nat} {i2 : Int32} {i3 : Int32} {i4 : Int32} {o : (Int32) ⊕ (Int32 × Int32)} (hF : gFix Z cX1_countBindings RX1 "countBindings" none d mc ms Acc AccX) (hn : Z.2.2.2.2.2.1 = 6) (hd : 3 ≤ d) (q0 : T[a0]? = some (1, m_a0)) (q1 : T[a1]? = some (0, m_a1)) (h : f_X1_countBindings_B5 T M a0 a1 i2 i3 i4 = some o) (hE : ∀ e9, o = .inl e9 → gG Z ad T M 0 0 38 [(0, .ref a0), (1, .ref a1), (2, .int i2), (3, .int e9)] []) (hN : ∀ n9, o = .inr n9 → gG Z ad T M 0 0 5 [(0, .ref a0), (1, .ref a1), (2, .int i2), (3, .int n9.1), (4, .int n9.2)] []) : gG Z ad T M 0 0 5 [(0, .ref a0), (1, .ref a1), (2, .int i2), (3, .int i3), (4, .int i4)] [] := by
  unfold f_X1_countBindings_B5 at h
  refine g_iload hF 4 rfl dX1_countBindings_5 ?_
  refine g_aload_n hF 1 rfl rfl dX1_countBindings_7 ?_
  refine g_get_iN hF fn_RX1_33 q1 dX1_countBindings_8 ?_
  refine g_icmp_ge (tgt := 38) hF dX1_countBindings_11 (by decide) (fun c24 => ?_) (fun c24 => ?_)
  · replace h := gif_t c24 h
    exact gG_sub [0, 1, 2, 3] rfl (hE _ (Option.some.inj h).symm)
  · replace h := gif_f c24 h
    refine g_iload_n hF 3 rfl rfl dX1_countBindings_14 ?_
    refine g_iconst (v := (0 : Int32)) hF rfl dX1_countBindings_15 ?_
    refine g_aload_n hF 0 rfl rfl dX1_countBindings_16 ?_
    obtain ⟨b25, h25, h⟩ := gbnd h
    obtain ⟨g25, l25, q_b25⟩ := ldr_sp h25
    refine g_get_r hF g25 fl_RX1_27 q0 dX1_countBindings_17 ?_
    refine g_iload hF 4 rfl dX1_countBindings_20 ?_
    refine g_iload_n hF 2 rfl rfl dX1_countBindings_22 ?_
    obtain ⟨x26, h26, h⟩ := gbnd h
    refine g_callSN hF my_X8_cellOf kn_460 kw_461 (c_X8_cellOf (d := d - 1) (by omega)  h26) (by omega) (Nat.zero_le _) (Nat.zero_le _) rfl rfl (Nat.le_of_ble_eq_true rfl) dX1_countBindings_23 (g_sameS ?_)
    obtain ⟨v27, h27, h⟩ := gbnd h
    obtain ⟨i27h, e27v⟩ := ald_sp q_b25 h27
    refine g_iald hF q_b25 i27h dX1_countBindings_26 ?_
    rw [← e27v]
    refine g_max hF kw_483 (by omega) (Nat.zero_le _) (Nat.zero_le _) (Nat.le_of_ble_eq_true rfl) dX1_countBindings_27 ?_
    refine g_iadd hF dX1_countBindings_30 ?_
    refine g_istore_n (ls' := [(3, .int (i3 + (imax (0 : Int32) v27))), (0, .ref a0), (1, .ref a1), (2, .int i2), (4, .int i4)]) hF rfl (by rw [hn]; decide) rfl dX1_countBindings_31 ?_
    refine g_iinc (n := 1) (v := (i4 + (1 : Int32))) (ls' := [(4, .int (i4 + (1 : Int32))), (3, .int (i3 + (imax (0 : Int32) v27))), (0, .ref a0), (1, .ref a1), (2, .int i2)]) hF 4 rfl rfl (by rw [hn]; decide) rfl dX1_countBindings_32 ?_
    refine g_goto (tgt := 5) hF dX1_countBindings_35 (by decide) ?_
    exact gG_sub [2, 3, 4, 1, 0] rfl (hN _ (Option.some.inj h).symm)
theorem t_X1_countBindings_L5 {Z : gZ} {d mc ms : Nat} {Acc : Option Value → (Nat → Nat) → gT → gM → Prop} {AccX : Nat → (Nat → Nat) → gT → gM → Prop} {ad : Nat → Nat} {T : gT} {M : gM} {m_a0 m_a1 : Nat} {a0 : Nat} {a1 : Nat} {i2 : Int32} {i3 : Int32} {i4 : Int32} {o : Int32} (hF : gFix Z cX1_countBindings RX1 "countBindings" none d mc ms Acc AccX) (hn : Z.2.2.2.2.2.1 = 6) (hd : 3 ≤ d) (q0 : T[a0]? = some (1, m_a0)) (q1 : T[a1]? = some (0, m_a1)) (h : gloop (fun x => f_X1_countBindings_B5 T M a0 a1 i2 x.1 x.2) gFU (i3, i4) = some o) (hE : gG Z ad T M 0 0 38 [(0, .ref a0), (1, .ref a1), (2, .int i2), (3, .int o)] []) : gG Z ad T M 0 0 5 [(0, .ref a0), (1, .ref a1), (2, .int i2), (3, .int i3), (4, .int i4)] [] := by
  refine gloop_ind (P := fun x0 : Int32 × Int32 => gG Z ad T M 0 0 5 [(0, .ref a0), (1, .ref a1), (2, .int i2), (3, .int x0.1), (4, .int x0.2)] []) (e := o) (fun x0 y hy hl hr => ?_) gFU (i3, i4) h
  exact t_X1_countBindings_B5 hF hn hd q0 q1 hy (fun e9 q9 => by rw [hl _ q9]; exact hE) (fun n9 q9 => hr n9 q9)
theorem t_X1_countBindings {Z : gZ} {d mc ms : Nat} {Acc : Option Value → (Nat → Nat) → gT → gM → Prop} {AccX : Nat → (Nat → Nat) → gT → gM → Prop} {ad : Nat → Nat} {T : gT} {M : gM} {m_a0 m_a1 : Nat} {a0 : Nat} {a1 : Nat} {i2 : Int32} {o : gM} (hF : gFix Z cX1_countBindings RX1 "countBindings" none d mc ms Acc AccX) (hn : Z.2.2.2.2.2.1 = 6) (hd : 3 ≤ d) (q0 : T[a0]? = some (1, m_a0)) (q1 : T[a1]? = some (0, m_a1)) (h : f_X1_countBindings T M a0 a1 i2 = some o) (hR : Acc none ad T o) : gG Z ad T M 0 0 0 [(0, .ref a0), (1, .ref a1), (2, .int i2)] [] := by
  unfold f_X1_countBindings at h
  refine g_iconst (v := (0 : Int32)) hF rfl dX1_countBindings_0 ?_
  refine g_istore_n (ls' := [(3, .int (0 : Int32)), (0, .ref a0), (1, .ref a1), (2, .int i2)]) hF rfl (by rw [hn]; decide) rfl dX1_countBindings_1 ?_
  refine g_iconst (v := (0 : Int32)) hF rfl dX1_countBindings_2 ?_
  refine g_istore (ls' := [(4, .int (0 : Int32)), (3, .int (0 : Int32)), (0, .ref a0), (1, .ref a1), (2, .int i2)]) hF (by rw [hn]; decide) rfl dX1_countBindings_3 ?_
  obtain ⟨x29, h29, h⟩ := gbnd h
  refine gG_sub [2, 3, 4, 1, 0] rfl (t_X1_countBindings_L5 hF hn hd q0 q1 h29 ?_)
  refine g_iconst (v := (0 : Int32)) hF rfl dX1_countBindings_38 ?_
  refine g_istore (ls' := [(4, .int (0 : Int32)), (0, .ref a0), (1, .ref a1), (2, .int i2), (3, .int x29)]) hF (by rw [hn]; decide) rfl dX1_countBindings_39 ?_
  obtain ⟨x30, h30, h⟩ := gbnd h
  refine gG_sub [1, 2, 3, 4, 0] rfl (t_X1_countBindings_L41 hF hn hd q0 q1 h30 ?_)
  cases h
  exact g_ret_v hF rfl dX1_countBindings_151 hR (Nat.zero_le _) (Nat.zero_le _)
theorem c_X1_countBindings {d : Nat} {T : gT} {M : gM} {m_a0 m_a1 : Nat} {a0 : Nat} {a1 : Nat} {i2 : Int32} {r : gM} (hd : 3 ≤ d) (q0 : T[a0]? = some (1, m_a0)) (q1 : T[a1]? = some (0, m_a1)) (h : f_X1_countBindings T M a0 a1 i2 = some (r)) : gRet d yX1_countBindings cX1_countBindings 6 none 0 0 [.ref a0, .ref a1, .int i2] T M (gSame T none r) := by
  refine gRet_of (own := RX1) (by decide) rfl (Nat.le_of_ble_eq_true rfl) (fun Z ad0 hn h0 hF => ?_)
  exact t_X1_countBindings hF hn hd q0 q1 h ⟨rfl, rfl, rfl, rfl⟩
theorem t_X1_count_36 {Z : gZ} {d mc ms : Nat} {Acc : Option Value → (Nat → Nat) → gT → gM → Prop} {AccX : Nat → (Nat → Nat) → gT → gM → Prop} {ad : Nat → Nat} {T : gT} {M : gM} {m_a0 m_a1 m_b0 : Nat} {a0 : Nat} {a1 : Nat} {i2 : Int32} {b0 : Nat} {k1 : Int32} {k2 : Int32} {o : (gM) ⊕ (Int32 × gM)} (hF : gFix Z cX1_count RX1 "count" none d mc ms Acc AccX) (hn : Z.2.2.2.2.2.1 = 3) (hd : 5 ≤ d) (q0 : T[a0]? = some (1, m_a0)) (q1 : T[a1]? = some (0, m_a1)) (p0 : T[b0]? = some (11, m_b0)) (h : f_X1_count_36 T M a0 a1 i2 b0 k1 k2 = some o) (hE : ∀ e9, o = .inl e9 → gG Z ad T e9 0 0 43 [(0, .ref a0), (1, .ref a1)] []) (hN : ∀ n9, o = .inr n9 → gG Z ad T n9.2 0 0 2 [(0, .ref a0), (1, .ref a1), (2, .int n9.1)] []) : gG Z ad T M 0 0 36 [(0, .ref a0), (1, .ref a1), (2, .int i2)] [.int k2, .int k1, .ref b0] := by
  unfold f_X1_count_36 at h
  obtain ⟨M1, h1, h⟩ := gbnd h
  obtain ⟨i1h, e1v⟩ := ast_sp p0 h1
  refine g_iast hF p0 i1h dX1_count_36 ?_
  rw [← e1v]
  refine g_iinc (n := 1) (v := (i2 + (1 : Int32))) (ls' := [(2, .int (i2 + (1 : Int32))), (0, .ref a0), (1, .ref a1)]) hF 2 rfl rfl (by rw [hn]; decide) rfl dX1_count_37 ?_
  refine g_goto (tgt := 2) hF dX1_count_40 (by decide) ?_
  exact gG_sub [1, 2, 0] rfl (hN _ (Option.some.inj h).symm)
theorem t_X1_count_B45 {Z : gZ} {d mc ms : Nat} {Acc : Option Value → (Nat → Nat) → gT → gM → Prop} {AccX : Nat → (Nat → Nat) → gT → gM → Prop} {ad : Nat → Nat} {T : gT} {M : gM} {m_a0 m_a1 : Nat} {a0 : Nat} {a1 : Nat} {i2 : Int32} {o : (gM) ⊕ (Int32 × gM)} (hF : gFix Z cX1_count RX1 "count" none d mc ms Acc AccX) (hn : Z.2.2.2.2.2.1 = 3) (hd : 5 ≤ d) (q0 : T[a0]? = some (1, m_a0)) (q1 : T[a1]? = some (0, m_a1)) (h : f_X1_count_B45 T M a0 a1 i2 = some o) (hE : ∀ e9, o = .inl e9 → gG Z ad T e9 0 0 89 [] []) (hN : ∀ n9, o = .inr n9 → gG Z ad T n9.2 0 0 45 [(0, .ref a0), (1, .ref a1), (2, .int n9.1)] []) : gG Z ad T M 0 0 45 [(0, .ref a0), (1, .ref a1), (2, .int i2)] [] := by
  unfold f_X1_count_B45 at h
  refine g_iload_n hF 2 rfl rfl dX1_count_45 ?_
  refine g_aload_n hF 1 rfl rfl dX1_count_46 ?_
  refine g_get_iN hF fn_RX1_53 q1 dX1_count_47 ?_
  refine g_icmp_ge (tgt := 89) hF dX1_count_50 (by decide) (fun c2 => ?_) (fun c2 => ?_)
  · replace h := gif_t c2 h
    exact gG_sub [] rfl (hE _ (Option.some.inj h).symm)
  · replace h := gif_f c2 h
    refine g_aload_n hF 0 rfl rfl dX1_count_53 ?_
    refine g_aload_n hF 1 rfl rfl dX1_count_54 ?_
    refine g_iload_n hF 2 rfl rfl dX1_count_55 ?_
    obtain ⟨x3, h3, h⟩ := gbnd h
    refine g_callV hF my_X1_countCandidates kw_451 kw_453 kw_11 gC_1.1 (by decide) q0 (c_X1_countCandidates (d := d - 1) (by omega) q0 q1 h3) (by omega) (Nat.zero_le _) (Nat.zero_le _) rfl rfl (Nat.le_of_ble_eq_true rfl) dX1_count_56 (g_sameN ?_)
    refine g_aload_n hF 0 rfl rfl dX1_count_59 ?_
    refine g_aload_n hF 1 rfl rfl dX1_count_60 ?_
    refine g_iload_n hF 2 rfl rfl dX1_count_61 ?_
    obtain ⟨x4, h4, h⟩ := gbnd h
    refine g_callV hF my_X1_countVotes kw_463 kw_465 kw_13 gC_1.1 (by decide) q0 (c_X1_countVotes (d := d - 1) (by omega) q0 q1 h4) (by omega) (Nat.zero_le _) (Nat.zero_le _) rfl rfl (Nat.le_of_ble_eq_true rfl) dX1_count_62 (g_sameN ?_)
    refine g_aload_n hF 0 rfl rfl dX1_count_65 ?_
    refine g_aload_n hF 1 rfl rfl dX1_count_66 ?_
    refine g_iload_n hF 2 rfl rfl dX1_count_67 ?_
    obtain ⟨x5, h5, h⟩ := gbnd h
    refine g_callV hF my_X1_countWinner kw_471 kw_473 kw_14 gC_1.1 (by decide) q0 (c_X1_countWinner (d := d - 1) (by omega) q0 q1 h5) (by omega) (Nat.zero_le _) (Nat.zero_le _) rfl rfl (Nat.le_of_ble_eq_true rfl) dX1_count_68 (g_sameN ?_)
    refine g_aload_n hF 0 rfl rfl dX1_count_71 ?_
    refine g_aload_n hF 1 rfl rfl dX1_count_72 ?_
    refine g_iload_n hF 2 rfl rfl dX1_count_73 ?_
    obtain ⟨x6, h6, h⟩ := gbnd h
    refine g_callV hF my_X1_countMargin kw_479 kw_481 kw_16 gC_1.1 (by decide) q0 (c_X1_countMargin (d := d - 1) (by omega) q0 q1 h6) (by omega) (Nat.zero_le _) (Nat.zero_le _) rfl rfl (Nat.le_of_ble_eq_true rfl) dX1_count_74 (g_sameN ?_)
    refine g_aload_n hF 0 rfl rfl dX1_count_77 ?_
    refine g_aload_n hF 1 rfl rfl dX1_count_78 ?_
    refine g_iload_n hF 2 rfl rfl dX1_count_79 ?_
    obtain ⟨x7, h7, h⟩ := gbnd h
    refine g_callV hF my_X1_countBindings kw_486 kw_488 kw_17 gC_1.1 (by decide) q0 (c_X1_countBindings (d := d - 1) (by omega) q0 q1 h7) (by omega) (Nat.zero_le _) (Nat.zero_le _) rfl rfl (Nat.le_of_ble_eq_true rfl) dX1_count_80 (g_sameN ?_)
    refine g_iinc (n := 1) (v := (i2 + (1 : Int32))) (ls' := [(2, .int (i2 + (1 : Int32))), (0, .ref a0), (1, .ref a1)]) hF 2 rfl rfl (by rw [hn]; decide) rfl dX1_count_83 ?_
    refine g_goto (tgt := 45) hF dX1_count_86 (by decide) ?_
    exact gG_sub [1, 2, 0] rfl (hN _ (Option.some.inj h).symm)
theorem t_X1_count_L45 {Z : gZ} {d mc ms : Nat} {Acc : Option Value → (Nat → Nat) → gT → gM → Prop} {AccX : Nat → (Nat → Nat) → gT → gM → Prop} {ad : Nat → Nat} {T : gT} {M : gM} {m_a0 m_a1 : Nat} {a0 : Nat} {a1 : Nat} {i2 : Int32} {o : gM} (hF : gFix Z cX1_count RX1 "count" none d mc ms Acc AccX) (hn : Z.2.2.2.2.2.1 = 3) (hd : 5 ≤ d) (q0 : T[a0]? = some (1, m_a0)) (q1 : T[a1]? = some (0, m_a1)) (h : gloop (fun x => f_X1_count_B45 T x.2 a0 a1 x.1) gFU (i2, M) = some o) (hE : gG Z ad T o 0 0 89 [] []) : gG Z ad T M 0 0 45 [(0, .ref a0), (1, .ref a1), (2, .int i2)] [] := by
  refine gloop_ind (P := fun x0 : Int32 × gM => gG Z ad T x0.2 0 0 45 [(0, .ref a0), (1, .ref a1), (2, .int x0.1)] []) (e := o) (fun x0 y hy hl hr => ?_) gFU (i2, M) h
  exact t_X1_count_B45 hF hn hd q0 q1 hy (fun e9 q9 => by rw [hl _ q9]; exact hE) (fun n9 q9 => hr n9 q9)
theorem t_X1_count_B2 {Z : gZ} {d mc ms : Nat} {Acc : Option Value → (Nat → Nat) → gT → gM → Prop} {AccX : Nat → (Nat → Nat) → gT → gM → Prop} {ad : Nat → Nat} {T : gT} {M : gM} {m_a0 m_a1 : Nat} {a0 : Nat} {a1 : Nat} {i2 : Int32} {o : (gM) ⊕ (Int32 × gM)} (hF : gFix Z cX1_count RX1 "count" none d mc ms Acc AccX) (hn : Z.2.2.2.2.2.1 = 3) (hd : 5 ≤ d) (q0 : T[a0]? = some (1, m_a0)) (q1 : T[a1]? = some (0, m_a1)) (h : f_X1_count_B2 T M a0 a1 i2 = some o) (hE : ∀ e9, o = .inl e9 → gG Z ad T e9 0 0 43 [(0, .ref a0), (1, .ref a1)] []) (hN : ∀ n9, o = .inr n9 → gG Z ad T n9.2 0 0 2 [(0, .ref a0), (1, .ref a1), (2, .int n9.1)] []) : gG Z ad T M 0 0 2 [(0, .ref a0), (1, .ref a1), (2, .int i2)] [] := by
  unfold f_X1_count_B2 at h
  refine g_iload_n hF 2 rfl rfl dX1_count_2 ?_
  refine g_aload_n hF 1 rfl rfl dX1_count_3 ?_
  refine g_get_iN hF fn_RX1_33 q1 dX1_count_4 ?_
  refine g_icmp_ge (tgt := 43) hF dX1_count_7 (by decide) (fun c8 => ?_) (fun c8 => ?_)
  · replace h := gif_t c8 h
    exact gG_sub [0, 1] rfl (hE _ (Option.some.inj h).symm)
  · replace h := gif_f c8 h
    refine g_aload_n hF 0 rfl rfl dX1_count_10 ?_
    obtain ⟨b9, h9, h⟩ := gbnd h
    obtain ⟨g9, l9, q_b9⟩ := ldr_sp h9
    refine g_get_r hF g9 fl_RX1_9 q0 dX1_count_11 ?_
    refine g_iload_n hF 2 rfl rfl dX1_count_14 ?_
    refine g_aload_n hF 1 rfl rfl dX1_count_15 ?_
    obtain ⟨b10, h10, h⟩ := gbnd h
    obtain ⟨g10, l10, q_b10⟩ := ldr_sp h10
    refine g_get_rN hF g10 fn_RX1_39 q1 dX1_count_16 ?_
    refine g_iload_n hF 2 rfl rfl dX1_count_19 ?_
    obtain ⟨b11, h11, h⟩ := gbnd h
    obtain ⟨i11h, g11, l11, q_b11⟩ := aldr_sp q_b10 h11
    refine g_aald hF q_b10 (Or.inr (Or.inl ⟨rfl, rfl⟩)) i11h g11 dX1_count_20 ?_
    obtain ⟨x12, h12, h⟩ := gbnd h
    refine g_callVN hF my_X3_isLoaded kn_405 kw_407 kw_4 gC_3.1 (by decide) q_b11 (c_X3_isLoaded (d := d - 1) (by omega) q_b11 h12) (by omega) (Nat.zero_le _) (Nat.zero_le _) rfl rfl (Nat.le_of_ble_eq_true rfl) dX1_count_21 (g_sameS ?_)
    refine g_if_eq (tgt := 35) hF dX1_count_24 (by decide) (fun c13 => ?_) (fun c13 => ?_)
    · replace h := gif_t c13 h
      refine g_iconst (v := (-1 : Int32)) hF rfl dX1_count_35 ?_
      exact gG_sub [0, 1, 2] rfl (t_X1_count_36 hF hn hd q0 q1 q_b9 h hE hN)
    · replace h := gif_f c13 h
      refine g_aload_n hF 1 rfl rfl dX1_count_27 ?_
      refine g_iload_n hF 2 rfl rfl dX1_count_28 ?_
      obtain ⟨x14, h14, h⟩ := gbnd h
      refine g_callVN hF my_X0_weightOf kn_409 kw_411 kw_5 gC_0.1 (by decide) q1 (c_X0_weightOf (d := d - 1) (by omega) q1 h14) (by omega) (Nat.zero_le _) (Nat.zero_le _) rfl rfl (Nat.le_of_ble_eq_true rfl) dX1_count_29 (g_sameS ?_)
      refine g_goto (tgt := 36) hF dX1_count_32 (by decide) ?_
      exact gG_sub [0, 1, 2] rfl (t_X1_count_36 hF hn hd q0 q1 q_b9 h hE hN)
theorem t_X1_count_L2 {Z : gZ} {d mc ms : Nat} {Acc : Option Value → (Nat → Nat) → gT → gM → Prop} {AccX : Nat → (Nat → Nat) → gT → gM → Prop} {ad : Nat → Nat} {T : gT} {M : gM} {m_a0 m_a1 : Nat} {a0 : Nat} {a1 : Nat} {i2 : Int32} {o : gM} (hF : gFix Z cX1_count RX1 "count" none d mc ms Acc AccX) (hn : Z.2.2.2.2.2.1 = 3) (hd : 5 ≤ d) (q0 : T[a0]? = some (1, m_a0)) (q1 : T[a1]? = some (0, m_a1)) (h : gloop (fun x => f_X1_count_B2 T x.2 a0 a1 x.1) gFU (i2, M) = some o) (hE : gG Z ad T o 0 0 43 [(0, .ref a0), (1, .ref a1)] []) : gG Z ad T M 0 0 2 [(0, .ref a0), (1, .ref a1), (2, .int i2)] [] := by
  refine gloop_ind (P := fun x0 : Int32 × gM => gG Z ad T x0.2 0 0 2 [(0, .ref a0), (1, .ref a1), (2, .int x0.1)] []) (e := o) (fun x0 y hy hl hr => ?_) gFU (i2, M) h
  exact t_X1_count_B2 hF hn hd q0 q1 hy (fun e9 q9 => by rw [hl _ q9]; exact hE) (fun n9 q9 => hr n9 q9)
theorem t_X1_count {Z : gZ} {d mc ms : Nat} {Acc : Option Value → (Nat → Nat) → gT → gM → Prop} {AccX : Nat → (Nat → Nat) → gT → gM → Prop} {ad : Nat → Nat} {T : gT} {M : gM} {m_a0 m_a1 : Nat} {a0 : Nat} {a1 : Nat} {o : gM} (hF : gFix Z cX1_count RX1 "count" none d mc ms Acc AccX) (hn : Z.2.2.2.2.2.1 = 3) (hd : 5 ≤ d) (q0 : T[a0]? = some (1, m_a0)) (q1 : T[a1]? = some (0, m_a1)) (h : f_X1_count T M a0 a1 = some o) (hR : Acc none ad T o) : gG Z ad T M 0 0 0 [(0, .ref a0), (1, .ref a1)] [] := by
  unfold f_X1_count at h
  refine g_iconst (v := (0 : Int32)) hF rfl dX1_count_0 ?_
  refine g_istore_n (ls' := [(2, .int (0 : Int32)), (0, .ref a0), (1, .ref a1)]) hF rfl (by rw [hn]; decide) rfl dX1_count_1 ?_
  obtain ⟨x15, h15, h⟩ := gbnd h
  refine gG_sub [1, 2, 0] rfl (t_X1_count_L2 hF hn hd q0 q1 h15 ?_)
  refine g_iconst (v := (0 : Int32)) hF rfl dX1_count_43 ?_
  refine g_istore_n (ls' := [(2, .int (0 : Int32)), (0, .ref a0), (1, .ref a1)]) hF rfl (by rw [hn]; decide) rfl dX1_count_44 ?_
  obtain ⟨x16, h16, h⟩ := gbnd h
  refine gG_sub [1, 2, 0] rfl (t_X1_count_L45 hF hn hd q0 q1 h16 ?_)
  cases h
  exact g_ret_v hF rfl dX1_count_89 hR (Nat.zero_le _) (Nat.zero_le _)
theorem c_X1_count {d : Nat} {T : gT} {M : gM} {m_a0 m_a1 : Nat} {a0 : Nat} {a1 : Nat} {r : gM} (hd : 5 ≤ d) (q0 : T[a0]? = some (1, m_a0)) (q1 : T[a1]? = some (0, m_a1)) (h : f_X1_count T M a0 a1 = some (r)) : gRet d yX1_count cX1_count 3 none 0 0 [.ref a0, .ref a1] T M (gSame T none r) := by
  refine gRet_of (own := RX1) (by decide) rfl (Nat.le_of_ble_eq_true rfl) (fun Z ad0 hn h0 hF => ?_)
  exact t_X1_count hF hn hd q0 q1 h ⟨rfl, rfl, rfl, rfl⟩
theorem t_X2_init {Z : gZ} {d mc ms : Nat} {Acc : Option Value → (Nat → Nat) → gT → gM → Prop} {AccX : Nat → (Nat → Nat) → gT → gM → Prop} {ad : Nat → Nat} {T : gT} {M : gM} {m_a0 : Nat} {a0 : Nat} {o : gT × gM} (hF : gFix Z cX2_init RX2 "<init>" none d mc ms Acc AccX) (hn : Z.2.2.2.2.2.1 = 2) (hd : 3 ≤ d) (hmc : 233 ≤ mc) (hms : 1888 ≤ ms) (q0 : T[a0]? = some (2, m_a0)) (h : f_X2_init T M a0 = some o) (hR : ∀ ad1 : Nat → Nat, gExt T o.1 → (∀ a : Nat, a < T.length → ad1 a = ad a) → Acc none ad1 o.1 o.2) : gG Z ad T M 0 0 0 [(0, .ref a0)] [] := by
  unfold f_X2_init at h
  refine g_aload_n hF 0 rfl rfl dX2_init_0 ?_
  refine g_obj hF kw_331 kw_102 kw_103 (by omega) (Nat.le_of_ble_eq_true rfl) dX2_init_1 ?_
  refine g_aload_n hF 0 rfl rfl dX2_init_4 ?_
  refine g_bipush (v := (8 : Int32)) hF rfl dX2_init_5 ?_
  obtain ⟨x2, h2, h⟩ := gbnd h
  have g2 : gnew T M (13, 8) = some (x2.1, x2.2.1, x2.2.2) := h2
  refine g_newq_Data (N := 8) hF (by decide) (by decide) (by decide) kw_332 g2 (gnew_lt g2) (gFr_r (gT_ne q0) gFr_0) (gFr_r (gT_ne q0) gFr_0) (by omega) (by omega) dX2_init_7 (fun ad2 z2 => ?_)
  have X2 := gExt.tr gExt.rf (gnew_ext g2)
  have W2 := gad_new g2 z2 gExt.rf (fun _ _ => rfl)
  have q_3 := gnew_ext g2 _ _ q0
  have q_y2 := gnew_at g2
  refine g_putF_r hF (fun _ => rfl) (fun _ => rfl) (gT_lt q_y2) rfl (fun R9 T9 N9 t9 q9 => by rw [g_own2 q9]; rfl) fl_RX2_11 q_3 dX2_init_10 ?_
  refine g_aload_n hF 0 rfl rfl dX2_init_13 ?_
  refine g_iconst (v := (0 : Int32)) hF rfl dX2_init_14 ?_
  refine g_put_i hF rfl rfl fl_RX2_17 q_3 dX2_init_15 ?_
  refine g_aload_n hF 0 rfl rfl dX2_init_18 ?_
  refine g_iconst (v := (0 : Int32)) hF rfl dX2_init_19 ?_
  refine g_put_i hF rfl rfl fl_RX2_21 q_3 dX2_init_20 ?_
  refine g_iconst (v := (0 : Int32)) hF rfl dX2_init_23 ?_
  refine g_istore_n (ls' := [(1, .int (0 : Int32)), (0, .ref a0)]) hF rfl (by rw [hn]; decide) rfl dX2_init_24 ?_
  refine g_iload_n hF 0 rfl rfl dX2_init_25 ?_
  refine g_bipush (v := (8 : Int32)) hF rfl dX2_init_26 ?_
  refine g_icmp_ge (tgt := 50) hF dX2_init_28 (by decide) (fun q => absurd q (by decide)) (fun _ => ?_)
  refine g_aload_n hF 1 rfl rfl dX2_init_31 ?_
  obtain ⟨b4, h4, h⟩ := gbnd h
  obtain ⟨g4, l4, q_b4⟩ := ldr_sp h4
  refine g_get_r hF g4 fl_RX2_11 q_3 dX2_init_32 ?_
  refine g_iload_n hF 0 rfl rfl dX2_init_35 ?_
  obtain ⟨x5, h5, h⟩ := gbnd h
  have g5 : gnew x2.2.1 (si (si (sr x2.2.2 a0 0 (some x2.1)) a0 1 (0 : Int32)) a0 2 (0 : Int32)) (0, 0) = some (x5.1, x5.2.1, x5.2.2) := h5
  refine g_new hF gC_0 gDf_0 kw_332 kw_147 kw_68 g5 (gnew_lt g5) (gFr_i (gFr_r (gT_ne q_3) gFr_0)) (gFr_i (gFr_r (gT_ne q_b4) gFr_0)) (by omega) (by omega) dX2_init_36 (fun ad5 z5 => ?_)
  have X5 := gExt.tr X2 (gnew_ext g5)
  have W5 := gad_new g5 z5 X2 W2
  have q_6 := gnew_ext g5 _ _ q_3
  have q_7 := gnew_ext g5 _ _ q_b4
  have q_y5 := gnew_at g5
  refine g_dup hF rfl dX2_init_39 ?_
  obtain ⟨x8, h8, h⟩ := gbnd h
  refine g_callIN hF my_X0_init kn_334 kw_149 rfl gC_0.1 (by decide) q_y5 (c_X0_init (d := d - 1) (by omega) q_y5 h8) (by omega) (by omega) (by omega) rfl rfl (Nat.le_of_ble_eq_true rfl) dX2_init_40 (g_madeN (gOld_i (gOld_r (gT_lt q_6) gOld_0)) (gOld_r (gT_lt q_y5) (gOld_i (gOld_r (gT_lt q_7) gOld_0))) (fun ad8 e8 y8 => ?_))
  have X8 := gExt.tr X5 e8
  have W8 := gad_call y8 X5 W5
  have q_9 := e8 _ _ q_6
  have q_10 := e8 _ _ q_7
  have q_11 := e8 _ _ q_y5
  obtain ⟨M12, h12, h⟩ := gbnd h
  obtain ⟨i12h, e12v⟩ := astr_sp q_10 h12
  refine g_aast (r := (RX0, TX0, 5)) hF q_10 (Or.inl ⟨rfl, rfl⟩) q_11 i12h dX2_init_43 ?_
  rw [← e12v]
  refine g_iinc (n := 1) (v := (1 : Int32)) (ls' := [(1, .int (1 : Int32)), (0, .ref a0)]) hF 0 rfl rfl (by rw [hn]; decide) rfl dX2_init_44 ?_
  refine g_goto (tgt := 25) hF dX2_init_47 (by decide) ?_
  refine g_iload_n hF 0 rfl rfl dX2_init_25 ?_
  refine g_bipush (v := (8 : Int32)) hF rfl dX2_init_26 ?_
  refine g_icmp_ge (tgt := 50) hF dX2_init_28 (by decide) (fun q => absurd q (by decide)) (fun _ => ?_)
  refine g_aload_n hF 1 rfl rfl dX2_init_31 ?_
  obtain ⟨b13, h13, h⟩ := gbnd h
  obtain ⟨g13, l13, q_b13⟩ := ldr_sp h13
  refine g_get_r hF g13 fl_RX2_11 q_9 dX2_init_32 ?_
  refine g_iload_n hF 0 rfl rfl dX2_init_35 ?_
  obtain ⟨x14, h14, h⟩ := gbnd h
  have g14 : gnew x8.1 M12 (0, 0) = some (x14.1, x14.2.1, x14.2.2) := h14
  refine g_new hF gC_0 gDf_0 kw_332 kw_147 kw_68 g14 (gnew_lt g14) (gFr_i (gFr_r (gT_ne q_9) gFr_0)) (gFr_i (gFr_r (gT_ne q_b13) gFr_0)) (by omega) (by omega) dX2_init_36 (fun ad14 z14 => ?_)
  have X14 := gExt.tr X8 (gnew_ext g14)
  have W14 := gad_new g14 z14 X8 W8
  have q_15 := gnew_ext g14 _ _ q_9
  have q_16 := gnew_ext g14 _ _ q_b13
  have q_y14 := gnew_at g14
  refine g_dup hF rfl dX2_init_39 ?_
  obtain ⟨x17, h17, h⟩ := gbnd h
  refine g_callIN hF my_X0_init kn_334 kw_149 rfl gC_0.1 (by decide) q_y14 (c_X0_init (d := d - 1) (by omega) q_y14 h17) (by omega) (by omega) (by omega) rfl rfl (Nat.le_of_ble_eq_true rfl) dX2_init_40 (g_madeN (gOld_i (gOld_r (gT_lt q_15) gOld_0)) (gOld_r (gT_lt q_y14) (gOld_i (gOld_r (gT_lt q_16) gOld_0))) (fun ad17 e17 y17 => ?_))
  have X17 := gExt.tr X14 e17
  have W17 := gad_call y17 X14 W14
  have q_18 := e17 _ _ q_15
  have q_19 := e17 _ _ q_16
  have q_20 := e17 _ _ q_y14
  obtain ⟨M21, h21, h⟩ := gbnd h
  obtain ⟨i21h, e21v⟩ := astr_sp q_19 h21
  refine g_aast (r := (RX0, TX0, 5)) hF q_19 (Or.inl ⟨rfl, rfl⟩) q_20 i21h dX2_init_43 ?_
  rw [← e21v]
  refine g_iinc (n := 1) (v := (2 : Int32)) (ls' := [(1, .int (2 : Int32)), (0, .ref a0)]) hF 0 rfl rfl (by rw [hn]; decide) rfl dX2_init_44 ?_
  refine g_goto (tgt := 25) hF dX2_init_47 (by decide) ?_
  refine g_iload_n hF 0 rfl rfl dX2_init_25 ?_
  refine g_bipush (v := (8 : Int32)) hF rfl dX2_init_26 ?_
  refine g_icmp_ge (tgt := 50) hF dX2_init_28 (by decide) (fun q => absurd q (by decide)) (fun _ => ?_)
  refine g_aload_n hF 1 rfl rfl dX2_init_31 ?_
  obtain ⟨b22, h22, h⟩ := gbnd h
  obtain ⟨g22, l22, q_b22⟩ := ldr_sp h22
  refine g_get_r hF g22 fl_RX2_11 q_18 dX2_init_32 ?_
  refine g_iload_n hF 0 rfl rfl dX2_init_35 ?_
  obtain ⟨x23, h23, h⟩ := gbnd h
  have g23 : gnew x17.1 M21 (0, 0) = some (x23.1, x23.2.1, x23.2.2) := h23
  refine g_new hF gC_0 gDf_0 kw_332 kw_147 kw_68 g23 (gnew_lt g23) (gFr_i (gFr_r (gT_ne q_18) gFr_0)) (gFr_i (gFr_r (gT_ne q_b22) gFr_0)) (by omega) (by omega) dX2_init_36 (fun ad23 z23 => ?_)
  have X23 := gExt.tr X17 (gnew_ext g23)
  have W23 := gad_new g23 z23 X17 W17
  have q_24 := gnew_ext g23 _ _ q_18
  have q_25 := gnew_ext g23 _ _ q_b22
  have q_y23 := gnew_at g23
  refine g_dup hF rfl dX2_init_39 ?_
  obtain ⟨x26, h26, h⟩ := gbnd h
  refine g_callIN hF my_X0_init kn_334 kw_149 rfl gC_0.1 (by decide) q_y23 (c_X0_init (d := d - 1) (by omega) q_y23 h26) (by omega) (by omega) (by omega) rfl rfl (Nat.le_of_ble_eq_true rfl) dX2_init_40 (g_madeN (gOld_i (gOld_r (gT_lt q_24) gOld_0)) (gOld_r (gT_lt q_y23) (gOld_i (gOld_r (gT_lt q_25) gOld_0))) (fun ad26 e26 y26 => ?_))
  have X26 := gExt.tr X23 e26
  have W26 := gad_call y26 X23 W23
  have q_27 := e26 _ _ q_24
  have q_28 := e26 _ _ q_25
  have q_29 := e26 _ _ q_y23
  obtain ⟨M30, h30, h⟩ := gbnd h
  obtain ⟨i30h, e30v⟩ := astr_sp q_28 h30
  refine g_aast (r := (RX0, TX0, 5)) hF q_28 (Or.inl ⟨rfl, rfl⟩) q_29 i30h dX2_init_43 ?_
  rw [← e30v]
  refine g_iinc (n := 1) (v := (3 : Int32)) (ls' := [(1, .int (3 : Int32)), (0, .ref a0)]) hF 0 rfl rfl (by rw [hn]; decide) rfl dX2_init_44 ?_
  refine g_goto (tgt := 25) hF dX2_init_47 (by decide) ?_
  refine g_iload_n hF 0 rfl rfl dX2_init_25 ?_
  refine g_bipush (v := (8 : Int32)) hF rfl dX2_init_26 ?_
  refine g_icmp_ge (tgt := 50) hF dX2_init_28 (by decide) (fun q => absurd q (by decide)) (fun _ => ?_)
  refine g_aload_n hF 1 rfl rfl dX2_init_31 ?_
  obtain ⟨b31, h31, h⟩ := gbnd h
  obtain ⟨g31, l31, q_b31⟩ := ldr_sp h31
  refine g_get_r hF g31 fl_RX2_11 q_27 dX2_init_32 ?_
  refine g_iload_n hF 0 rfl rfl dX2_init_35 ?_
  obtain ⟨x32, h32, h⟩ := gbnd h
  have g32 : gnew x26.1 M30 (0, 0) = some (x32.1, x32.2.1, x32.2.2) := h32
  refine g_new hF gC_0 gDf_0 kw_332 kw_147 kw_68 g32 (gnew_lt g32) (gFr_i (gFr_r (gT_ne q_27) gFr_0)) (gFr_i (gFr_r (gT_ne q_b31) gFr_0)) (by omega) (by omega) dX2_init_36 (fun ad32 z32 => ?_)
  have X32 := gExt.tr X26 (gnew_ext g32)
  have W32 := gad_new g32 z32 X26 W26
  have q_33 := gnew_ext g32 _ _ q_27
  have q_34 := gnew_ext g32 _ _ q_b31
  have q_y32 := gnew_at g32
  refine g_dup hF rfl dX2_init_39 ?_
  obtain ⟨x35, h35, h⟩ := gbnd h
  refine g_callIN hF my_X0_init kn_334 kw_149 rfl gC_0.1 (by decide) q_y32 (c_X0_init (d := d - 1) (by omega) q_y32 h35) (by omega) (by omega) (by omega) rfl rfl (Nat.le_of_ble_eq_true rfl) dX2_init_40 (g_madeN (gOld_i (gOld_r (gT_lt q_33) gOld_0)) (gOld_r (gT_lt q_y32) (gOld_i (gOld_r (gT_lt q_34) gOld_0))) (fun ad35 e35 y35 => ?_))
  have X35 := gExt.tr X32 e35
  have W35 := gad_call y35 X32 W32
  have q_36 := e35 _ _ q_33
  have q_37 := e35 _ _ q_34
  have q_38 := e35 _ _ q_y32
  obtain ⟨M39, h39, h⟩ := gbnd h
  obtain ⟨i39h, e39v⟩ := astr_sp q_37 h39
  refine g_aast (r := (RX0, TX0, 5)) hF q_37 (Or.inl ⟨rfl, rfl⟩) q_38 i39h dX2_init_43 ?_
  rw [← e39v]
  refine g_iinc (n := 1) (v := (4 : Int32)) (ls' := [(1, .int (4 : Int32)), (0, .ref a0)]) hF 0 rfl rfl (by rw [hn]; decide) rfl dX2_init_44 ?_
  refine g_goto (tgt := 25) hF dX2_init_47 (by decide) ?_
  refine g_iload_n hF 0 rfl rfl dX2_init_25 ?_
  refine g_bipush (v := (8 : Int32)) hF rfl dX2_init_26 ?_
  refine g_icmp_ge (tgt := 50) hF dX2_init_28 (by decide) (fun q => absurd q (by decide)) (fun _ => ?_)
  refine g_aload_n hF 1 rfl rfl dX2_init_31 ?_
  obtain ⟨b40, h40, h⟩ := gbnd h
  obtain ⟨g40, l40, q_b40⟩ := ldr_sp h40
  refine g_get_r hF g40 fl_RX2_11 q_36 dX2_init_32 ?_
  refine g_iload_n hF 0 rfl rfl dX2_init_35 ?_
  obtain ⟨x41, h41, h⟩ := gbnd h
  have g41 : gnew x35.1 M39 (0, 0) = some (x41.1, x41.2.1, x41.2.2) := h41
  refine g_new hF gC_0 gDf_0 kw_332 kw_147 kw_68 g41 (gnew_lt g41) (gFr_i (gFr_r (gT_ne q_36) gFr_0)) (gFr_i (gFr_r (gT_ne q_b40) gFr_0)) (by omega) (by omega) dX2_init_36 (fun ad41 z41 => ?_)
  have X41 := gExt.tr X35 (gnew_ext g41)
  have W41 := gad_new g41 z41 X35 W35
  have q_42 := gnew_ext g41 _ _ q_36
  have q_43 := gnew_ext g41 _ _ q_b40
  have q_y41 := gnew_at g41
  refine g_dup hF rfl dX2_init_39 ?_
  obtain ⟨x44, h44, h⟩ := gbnd h
  refine g_callIN hF my_X0_init kn_334 kw_149 rfl gC_0.1 (by decide) q_y41 (c_X0_init (d := d - 1) (by omega) q_y41 h44) (by omega) (by omega) (by omega) rfl rfl (Nat.le_of_ble_eq_true rfl) dX2_init_40 (g_madeN (gOld_i (gOld_r (gT_lt q_42) gOld_0)) (gOld_r (gT_lt q_y41) (gOld_i (gOld_r (gT_lt q_43) gOld_0))) (fun ad44 e44 y44 => ?_))
  have X44 := gExt.tr X41 e44
  have W44 := gad_call y44 X41 W41
  have q_45 := e44 _ _ q_42
  have q_46 := e44 _ _ q_43
  have q_47 := e44 _ _ q_y41
  obtain ⟨M48, h48, h⟩ := gbnd h
  obtain ⟨i48h, e48v⟩ := astr_sp q_46 h48
  refine g_aast (r := (RX0, TX0, 5)) hF q_46 (Or.inl ⟨rfl, rfl⟩) q_47 i48h dX2_init_43 ?_
  rw [← e48v]
  refine g_iinc (n := 1) (v := (5 : Int32)) (ls' := [(1, .int (5 : Int32)), (0, .ref a0)]) hF 0 rfl rfl (by rw [hn]; decide) rfl dX2_init_44 ?_
  refine g_goto (tgt := 25) hF dX2_init_47 (by decide) ?_
  refine g_iload_n hF 0 rfl rfl dX2_init_25 ?_
  refine g_bipush (v := (8 : Int32)) hF rfl dX2_init_26 ?_
  refine g_icmp_ge (tgt := 50) hF dX2_init_28 (by decide) (fun q => absurd q (by decide)) (fun _ => ?_)
  refine g_aload_n hF 1 rfl rfl dX2_init_31 ?_
  obtain ⟨b49, h49, h⟩ := gbnd h
  obtain ⟨g49, l49, q_b49⟩ := ldr_sp h49
  refine g_get_r hF g49 fl_RX2_11 q_45 dX2_init_32 ?_
  refine g_iload_n hF 0 rfl rfl dX2_init_35 ?_
  obtain ⟨x50, h50, h⟩ := gbnd h
  have g50 : gnew x44.1 M48 (0, 0) = some (x50.1, x50.2.1, x50.2.2) := h50
  refine g_new hF gC_0 gDf_0 kw_332 kw_147 kw_68 g50 (gnew_lt g50) (gFr_i (gFr_r (gT_ne q_45) gFr_0)) (gFr_i (gFr_r (gT_ne q_b49) gFr_0)) (by omega) (by omega) dX2_init_36 (fun ad50 z50 => ?_)
  have X50 := gExt.tr X44 (gnew_ext g50)
  have W50 := gad_new g50 z50 X44 W44
  have q_51 := gnew_ext g50 _ _ q_45
  have q_52 := gnew_ext g50 _ _ q_b49
  have q_y50 := gnew_at g50
  refine g_dup hF rfl dX2_init_39 ?_
  obtain ⟨x53, h53, h⟩ := gbnd h
  refine g_callIN hF my_X0_init kn_334 kw_149 rfl gC_0.1 (by decide) q_y50 (c_X0_init (d := d - 1) (by omega) q_y50 h53) (by omega) (by omega) (by omega) rfl rfl (Nat.le_of_ble_eq_true rfl) dX2_init_40 (g_madeN (gOld_i (gOld_r (gT_lt q_51) gOld_0)) (gOld_r (gT_lt q_y50) (gOld_i (gOld_r (gT_lt q_52) gOld_0))) (fun ad53 e53 y53 => ?_))
  have X53 := gExt.tr X50 e53
  have W53 := gad_call y53 X50 W50
  have q_54 := e53 _ _ q_51
  have q_55 := e53 _ _ q_52
  have q_56 := e53 _ _ q_y50
  obtain ⟨M57, h57, h⟩ := gbnd h
  obtain ⟨i57h, e57v⟩ := astr_sp q_55 h57
  refine g_aast (r := (RX0, TX0, 5)) hF q_55 (Or.inl ⟨rfl, rfl⟩) q_56 i57h dX2_init_43 ?_
  rw [← e57v]
  refine g_iinc (n := 1) (v := (6 : Int32)) (ls' := [(1, .int (6 : Int32)), (0, .ref a0)]) hF 0 rfl rfl (by rw [hn]; decide) rfl dX2_init_44 ?_
  refine g_goto (tgt := 25) hF dX2_init_47 (by decide) ?_
  refine g_iload_n hF 0 rfl rfl dX2_init_25 ?_
  refine g_bipush (v := (8 : Int32)) hF rfl dX2_init_26 ?_
  refine g_icmp_ge (tgt := 50) hF dX2_init_28 (by decide) (fun q => absurd q (by decide)) (fun _ => ?_)
  refine g_aload_n hF 1 rfl rfl dX2_init_31 ?_
  obtain ⟨b58, h58, h⟩ := gbnd h
  obtain ⟨g58, l58, q_b58⟩ := ldr_sp h58
  refine g_get_r hF g58 fl_RX2_11 q_54 dX2_init_32 ?_
  refine g_iload_n hF 0 rfl rfl dX2_init_35 ?_
  obtain ⟨x59, h59, h⟩ := gbnd h
  have g59 : gnew x53.1 M57 (0, 0) = some (x59.1, x59.2.1, x59.2.2) := h59
  refine g_new hF gC_0 gDf_0 kw_332 kw_147 kw_68 g59 (gnew_lt g59) (gFr_i (gFr_r (gT_ne q_54) gFr_0)) (gFr_i (gFr_r (gT_ne q_b58) gFr_0)) (by omega) (by omega) dX2_init_36 (fun ad59 z59 => ?_)
  have X59 := gExt.tr X53 (gnew_ext g59)
  have W59 := gad_new g59 z59 X53 W53
  have q_60 := gnew_ext g59 _ _ q_54
  have q_61 := gnew_ext g59 _ _ q_b58
  have q_y59 := gnew_at g59
  refine g_dup hF rfl dX2_init_39 ?_
  obtain ⟨x62, h62, h⟩ := gbnd h
  refine g_callIN hF my_X0_init kn_334 kw_149 rfl gC_0.1 (by decide) q_y59 (c_X0_init (d := d - 1) (by omega) q_y59 h62) (by omega) (by omega) (by omega) rfl rfl (Nat.le_of_ble_eq_true rfl) dX2_init_40 (g_madeN (gOld_i (gOld_r (gT_lt q_60) gOld_0)) (gOld_r (gT_lt q_y59) (gOld_i (gOld_r (gT_lt q_61) gOld_0))) (fun ad62 e62 y62 => ?_))
  have X62 := gExt.tr X59 e62
  have W62 := gad_call y62 X59 W59
  have q_63 := e62 _ _ q_60
  have q_64 := e62 _ _ q_61
  have q_65 := e62 _ _ q_y59
  obtain ⟨M66, h66, h⟩ := gbnd h
  obtain ⟨i66h, e66v⟩ := astr_sp q_64 h66
  refine g_aast (r := (RX0, TX0, 5)) hF q_64 (Or.inl ⟨rfl, rfl⟩) q_65 i66h dX2_init_43 ?_
  rw [← e66v]
  refine g_iinc (n := 1) (v := (7 : Int32)) (ls' := [(1, .int (7 : Int32)), (0, .ref a0)]) hF 0 rfl rfl (by rw [hn]; decide) rfl dX2_init_44 ?_
  refine g_goto (tgt := 25) hF dX2_init_47 (by decide) ?_
  refine g_iload_n hF 0 rfl rfl dX2_init_25 ?_
  refine g_bipush (v := (8 : Int32)) hF rfl dX2_init_26 ?_
  refine g_icmp_ge (tgt := 50) hF dX2_init_28 (by decide) (fun q => absurd q (by decide)) (fun _ => ?_)
  refine g_aload_n hF 1 rfl rfl dX2_init_31 ?_
  obtain ⟨b67, h67, h⟩ := gbnd h
  obtain ⟨g67, l67, q_b67⟩ := ldr_sp h67
  refine g_get_r hF g67 fl_RX2_11 q_63 dX2_init_32 ?_
  refine g_iload_n hF 0 rfl rfl dX2_init_35 ?_
  obtain ⟨x68, h68, h⟩ := gbnd h
  have g68 : gnew x62.1 M66 (0, 0) = some (x68.1, x68.2.1, x68.2.2) := h68
  refine g_new hF gC_0 gDf_0 kw_332 kw_147 kw_68 g68 (gnew_lt g68) (gFr_i (gFr_r (gT_ne q_63) gFr_0)) (gFr_i (gFr_r (gT_ne q_b67) gFr_0)) (by omega) (by omega) dX2_init_36 (fun ad68 z68 => ?_)
  have X68 := gExt.tr X62 (gnew_ext g68)
  have W68 := gad_new g68 z68 X62 W62
  have q_69 := gnew_ext g68 _ _ q_63
  have q_70 := gnew_ext g68 _ _ q_b67
  have q_y68 := gnew_at g68
  refine g_dup hF rfl dX2_init_39 ?_
  obtain ⟨x71, h71, h⟩ := gbnd h
  refine g_callIN hF my_X0_init kn_334 kw_149 rfl gC_0.1 (by decide) q_y68 (c_X0_init (d := d - 1) (by omega) q_y68 h71) (by omega) (by omega) (by omega) rfl rfl (Nat.le_of_ble_eq_true rfl) dX2_init_40 (g_madeN (gOld_i (gOld_r (gT_lt q_69) gOld_0)) (gOld_r (gT_lt q_y68) (gOld_i (gOld_r (gT_lt q_70) gOld_0))) (fun ad71 e71 y71 => ?_))
  have X71 := gExt.tr X68 e71
  have W71 := gad_call y71 X68 W68
  have q_72 := e71 _ _ q_69
  have q_73 := e71 _ _ q_70
  have q_74 := e71 _ _ q_y68
  obtain ⟨M75, h75, h⟩ := gbnd h
  obtain ⟨i75h, e75v⟩ := astr_sp q_73 h75
  refine g_aast (r := (RX0, TX0, 5)) hF q_73 (Or.inl ⟨rfl, rfl⟩) q_74 i75h dX2_init_43 ?_
  rw [← e75v]
  refine g_iinc (n := 1) (v := (8 : Int32)) (ls' := [(1, .int (8 : Int32)), (0, .ref a0)]) hF 0 rfl rfl (by rw [hn]; decide) rfl dX2_init_44 ?_
  refine g_goto (tgt := 25) hF dX2_init_47 (by decide) ?_
  refine g_iload_n hF 0 rfl rfl dX2_init_25 ?_
  refine g_bipush (v := (8 : Int32)) hF rfl dX2_init_26 ?_
  refine g_icmp_ge (tgt := 50) hF dX2_init_28 (by decide) (fun _ => ?_) (fun q => absurd (by decide) q)
  cases h
  exact g_ret_v hF rfl dX2_init_50 (hR ad71 X71 W71) (by omega) (by omega)
theorem c_X2_init {d : Nat} {T : gT} {M : gM} {m_a0 : Nat} {a0 : Nat} {r : gT × gM} (hd : 3 ≤ d) (q0 : T[a0]? = some (2, m_a0)) (h : f_X2_init T M a0 = some (r)) : gRet d yX2_init cX2_init 2 none 233 1888 [.ref a0] T M (gMade T none r.1 r.2) := by
  refine gRet_of (own := RX2) (by decide) rfl (Nat.le_of_ble_eq_true rfl) (fun Z ad0 hn h0 hF => ?_)
  exact t_X2_init hF hn hd (Nat.le_refl _) (Nat.le_refl _) q0 h (fun ad1 x1 y1 => ⟨rfl, rfl, rfl, x1, y1⟩)
