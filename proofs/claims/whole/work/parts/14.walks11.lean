theorem t_X8_call {Z : gZ} {d mc ms : Nat} {Acc : Option Value → (Nat → Nat) → gT → gM → Prop} {AccX : Nat → (Nat → Nat) → gT → gM → Prop} {ad : Nat → Nat} {T : gT} {M : gM} {m_a0 : Nat} {a0 : Nat} {i1 : Int32} {i2 : Int32} {o : Nat ⊕ (Int32 × gM)} (hF : gFix Z cX8_call RX8 "call" (some .int) d mc ms Acc AccX) (hn : Z.2.2.2.2.2.1 = 3) (hd : 7 ≤ d) (q0 : T[a0]? = some (8, m_a0)) (h : f_X8_call T M a0 i1 i2 = some o) (hR : ∀ v9, o = .inr v9 → Acc (some (.int v9.1)) ad T v9.2) (hX : ∀ k9, o = .inl k9 → AccX k9 ad T M ∧ 1 ≤ mc ∧ 6 ≤ ms) : gG Z ad T M 0 0 0 [(0, .ref a0), (1, .int i1), (2, .int i2)] [] := by
  unfold f_X8_call at h
  refine g_aload_n hF 0 rfl rfl dX8_call_0 ?_
  refine g_iload_n hF 1 rfl rfl dX8_call_1 ?_
  obtain ⟨x1, h1, h⟩ := gbnd h
  rcases x1 with k1 | r1
  · replace h := gcase_l h
    cases h
    exact g_callVX hF my_X8_requireLibrary kw_556 kw_558 kw_20 gC_8.1 (by decide) q0 (cx_X8_requireLibrary (d := d - 1) (by omega) q0 h1) (by omega) (by have q9 := (hX _ rfl).2; omega) (by have q9 := (hX _ rfl).2; omega) rfl rfl (Nat.le_of_ble_eq_true rfl) (hX _ rfl).1 dX8_call_2
  · replace h := gcase_r h
    refine g_callV hF my_X8_requireLibrary kw_556 kw_558 kw_20 gC_8.1 (by decide) q0 (c_X8_requireLibrary (d := d - 1) (by omega) q0 h1) (by omega) (Nat.zero_le _) (Nat.zero_le _) rfl rfl (Nat.le_of_ble_eq_true rfl) dX8_call_2 (g_sameN ?_)
    refine g_aload_n hF 0 rfl rfl dX8_call_5 ?_
    refine g_iload_n hF 2 rfl rfl dX8_call_6 ?_
    obtain ⟨x2, h2, h⟩ := gbnd h
    rcases x2 with k2 | r2
    · replace h := gcase_l h
      cases h
      exact g_callVX hF my_X8_requireName kw_648 kw_650 kw_22 gC_8.1 (by decide) q0 (cx_X8_requireName (d := d - 1) (by omega) q0 h2) (by omega) (by have q9 := (hX _ rfl).2; omega) (by have q9 := (hX _ rfl).2; omega) rfl rfl (Nat.le_of_ble_eq_true rfl) (hX _ rfl).1 dX8_call_7
    · replace h := gcase_r h
      refine g_callV hF my_X8_requireName kw_648 kw_650 kw_22 gC_8.1 (by decide) q0 (c_X8_requireName (d := d - 1) (by omega) q0 h2) (by omega) (Nat.zero_le _) (Nat.zero_le _) rfl rfl (Nat.le_of_ble_eq_true rfl) dX8_call_7 (g_sameN ?_)
      refine g_aload_n hF 0 rfl rfl dX8_call_10 ?_
      obtain ⟨b3, h3, h⟩ := gbnd h
      obtain ⟨g3, l3, q_b3⟩ := ldr_sp h3
      refine g_get_r hF g3 fl_RX8_44 q0 dX8_call_11 ?_
      refine g_aload_n hF 0 rfl rfl dX8_call_14 ?_
      obtain ⟨b4, h4, h⟩ := gbnd h
      obtain ⟨g4, l4, q_b4⟩ := ldr_sp h4
      refine g_get_r hF g4 fl_RX8_30 q0 dX8_call_15 ?_
      refine g_aload_n hF 0 rfl rfl dX8_call_18 ?_
      obtain ⟨b5, h5, h⟩ := gbnd h
      obtain ⟨g5, l5, q_b5⟩ := ldr_sp h5
      refine g_get_r hF g5 fl_RX8_37 q0 dX8_call_19 ?_
      refine g_iload_n hF 1 rfl rfl dX8_call_22 ?_
      refine g_iload_n hF 2 rfl rfl dX8_call_23 ?_
      obtain ⟨x6, h6, h⟩ := gbnd h
      refine g_callVN hF my_X4_follow kn_662 kw_664 kw_23 gC_4.1 (by decide) q_b3 (c_X4_follow (d := d - 1) (by omega) q_b3 q_b4 q_b5 h6) (by omega) (Nat.zero_le _) (Nat.zero_le _) rfl rfl (Nat.le_of_ble_eq_true rfl) dX8_call_24 (g_sameN ?_)
      refine g_aload_n hF 0 rfl rfl dX8_call_27 ?_
      obtain ⟨b7, h7, h⟩ := gbnd h
      obtain ⟨g7, l7, q_b7⟩ := ldr_sp h7
      refine g_get_r hF g7 fl_RX8_44 q0 dX8_call_28 ?_
      refine g_get_iN hF fn_RX8_167 q_b7 dX8_call_31 ?_
      cases h
      exact g_ret_i hF rfl rfl dX8_call_34 (hR _ rfl) (Nat.zero_le _) (Nat.zero_le _)
theorem c_X8_call {d : Nat} {T : gT} {M : gM} {m_a0 : Nat} {a0 : Nat} {i1 : Int32} {i2 : Int32} {r : Int32 × gM} (hd : 7 ≤ d) (q0 : T[a0]? = some (8, m_a0)) (h : f_X8_call T M a0 i1 i2 = some (.inr r)) : gRet d yX8_call cX8_call 3 (some .int) 0 0 [.ref a0, .int i1, .int i2] T M (gSame T (some (.int r.1)) r.2) := by
  refine gRet_of (own := RX8) (by decide) rfl (Nat.le_of_ble_eq_true rfl) (fun Z ad0 hn h0 hF => ?_)
  exact t_X8_call hF hn hd q0 h (fun v9 q9 => by cases q9; exact ⟨rfl, rfl, rfl, rfl⟩) (fun k9 q9 => nomatch q9)
theorem cx_X8_call {d : Nat} {T : gT} {M : gM} {m_a0 : Nat} {a0 : Nat} {i1 : Int32} {i2 : Int32} {k : Nat} (hd : 7 ≤ d) (q0 : T[a0]? = some (8, m_a0)) (h : f_X8_call T M a0 i1 i2 = some (.inl k)) : gRetX d yX8_call cX8_call 3 (some .int) 1 6 [.ref a0, .int i1, .int i2] T M k := by
  refine gRetX_of (own := RX8) (by decide) rfl (Nat.le_of_ble_eq_true rfl) (fun Z ad0 hn h0 hF => ?_)
  exact t_X8_call hF hn hd q0 h (fun v9 q9 => nomatch q9) (fun k9 q9 => by cases q9; exact ⟨⟨rfl, rfl, rfl, rfl⟩, Nat.le_of_ble_eq_true rfl, Nat.le_of_ble_eq_true rfl⟩)
theorem t_X8_steps {Z : gZ} {d mc ms : Nat} {Acc : Option Value → (Nat → Nat) → gT → gM → Prop} {AccX : Nat → (Nat → Nat) → gT → gM → Prop} {ad : Nat → Nat} {T : gT} {M : gM} {m_a0 : Nat} {a0 : Nat} {i1 : Int32} {i2 : Int32} {o : Nat ⊕ (Int32 × gM)} (hF : gFix Z cX8_steps RX8 "steps" (some .int) d mc ms Acc AccX) (hn : Z.2.2.2.2.2.1 = 3) (hd : 7 ≤ d) (q0 : T[a0]? = some (8, m_a0)) (h : f_X8_steps T M a0 i1 i2 = some o) (hR : ∀ v9, o = .inr v9 → Acc (some (.int v9.1)) ad T v9.2) (hX : ∀ k9, o = .inl k9 → AccX k9 ad T M ∧ 1 ≤ mc ∧ 6 ≤ ms) : gG Z ad T M 0 0 0 [(0, .ref a0), (1, .int i1), (2, .int i2)] [] := by
  unfold f_X8_steps at h
  refine g_aload_n hF 0 rfl rfl dX8_steps_0 ?_
  refine g_iload_n hF 1 rfl rfl dX8_steps_1 ?_
  obtain ⟨x1, h1, h⟩ := gbnd h
  rcases x1 with k1 | r1
  · replace h := gcase_l h
    cases h
    exact g_callVX hF my_X8_requireLibrary kw_556 kw_558 kw_20 gC_8.1 (by decide) q0 (cx_X8_requireLibrary (d := d - 1) (by omega) q0 h1) (by omega) (by have q9 := (hX _ rfl).2; omega) (by have q9 := (hX _ rfl).2; omega) rfl rfl (Nat.le_of_ble_eq_true rfl) (hX _ rfl).1 dX8_steps_2
  · replace h := gcase_r h
    refine g_callV hF my_X8_requireLibrary kw_556 kw_558 kw_20 gC_8.1 (by decide) q0 (c_X8_requireLibrary (d := d - 1) (by omega) q0 h1) (by omega) (Nat.zero_le _) (Nat.zero_le _) rfl rfl (Nat.le_of_ble_eq_true rfl) dX8_steps_2 (g_sameN ?_)
    refine g_aload_n hF 0 rfl rfl dX8_steps_5 ?_
    refine g_iload_n hF 2 rfl rfl dX8_steps_6 ?_
    obtain ⟨x2, h2, h⟩ := gbnd h
    rcases x2 with k2 | r2
    · replace h := gcase_l h
      cases h
      exact g_callVX hF my_X8_requireName kw_648 kw_650 kw_22 gC_8.1 (by decide) q0 (cx_X8_requireName (d := d - 1) (by omega) q0 h2) (by omega) (by have q9 := (hX _ rfl).2; omega) (by have q9 := (hX _ rfl).2; omega) rfl rfl (Nat.le_of_ble_eq_true rfl) (hX _ rfl).1 dX8_steps_7
    · replace h := gcase_r h
      refine g_callV hF my_X8_requireName kw_648 kw_650 kw_22 gC_8.1 (by decide) q0 (c_X8_requireName (d := d - 1) (by omega) q0 h2) (by omega) (Nat.zero_le _) (Nat.zero_le _) rfl rfl (Nat.le_of_ble_eq_true rfl) dX8_steps_7 (g_sameN ?_)
      refine g_aload_n hF 0 rfl rfl dX8_steps_10 ?_
      obtain ⟨b3, h3, h⟩ := gbnd h
      obtain ⟨g3, l3, q_b3⟩ := ldr_sp h3
      refine g_get_r hF g3 fl_RX8_44 q0 dX8_steps_11 ?_
      refine g_aload_n hF 0 rfl rfl dX8_steps_14 ?_
      obtain ⟨b4, h4, h⟩ := gbnd h
      obtain ⟨g4, l4, q_b4⟩ := ldr_sp h4
      refine g_get_r hF g4 fl_RX8_30 q0 dX8_steps_15 ?_
      refine g_aload_n hF 0 rfl rfl dX8_steps_18 ?_
      obtain ⟨b5, h5, h⟩ := gbnd h
      obtain ⟨g5, l5, q_b5⟩ := ldr_sp h5
      refine g_get_r hF g5 fl_RX8_37 q0 dX8_steps_19 ?_
      refine g_iload_n hF 1 rfl rfl dX8_steps_22 ?_
      refine g_iload_n hF 2 rfl rfl dX8_steps_23 ?_
      obtain ⟨x6, h6, h⟩ := gbnd h
      refine g_callVN hF my_X4_follow kn_662 kw_664 kw_23 gC_4.1 (by decide) q_b3 (c_X4_follow (d := d - 1) (by omega) q_b3 q_b4 q_b5 h6) (by omega) (Nat.zero_le _) (Nat.zero_le _) rfl rfl (Nat.le_of_ble_eq_true rfl) dX8_steps_24 (g_sameN ?_)
      refine g_aload_n hF 0 rfl rfl dX8_steps_27 ?_
      obtain ⟨b7, h7, h⟩ := gbnd h
      obtain ⟨g7, l7, q_b7⟩ := ldr_sp h7
      refine g_get_r hF g7 fl_RX8_44 q0 dX8_steps_28 ?_
      refine g_get_iN hF fn_RX8_170 q_b7 dX8_steps_31 ?_
      cases h
      exact g_ret_i hF rfl rfl dX8_steps_34 (hR _ rfl) (Nat.zero_le _) (Nat.zero_le _)
theorem c_X8_steps {d : Nat} {T : gT} {M : gM} {m_a0 : Nat} {a0 : Nat} {i1 : Int32} {i2 : Int32} {r : Int32 × gM} (hd : 7 ≤ d) (q0 : T[a0]? = some (8, m_a0)) (h : f_X8_steps T M a0 i1 i2 = some (.inr r)) : gRet d yX8_steps cX8_steps 3 (some .int) 0 0 [.ref a0, .int i1, .int i2] T M (gSame T (some (.int r.1)) r.2) := by
  refine gRet_of (own := RX8) (by decide) rfl (Nat.le_of_ble_eq_true rfl) (fun Z ad0 hn h0 hF => ?_)
  exact t_X8_steps hF hn hd q0 h (fun v9 q9 => by cases q9; exact ⟨rfl, rfl, rfl, rfl⟩) (fun k9 q9 => nomatch q9)
theorem cx_X8_steps {d : Nat} {T : gT} {M : gM} {m_a0 : Nat} {a0 : Nat} {i1 : Int32} {i2 : Int32} {k : Nat} (hd : 7 ≤ d) (q0 : T[a0]? = some (8, m_a0)) (h : f_X8_steps T M a0 i1 i2 = some (.inl k)) : gRetX d yX8_steps cX8_steps 3 (some .int) 1 6 [.ref a0, .int i1, .int i2] T M k := by
  refine gRetX_of (own := RX8) (by decide) rfl (Nat.le_of_ble_eq_true rfl) (fun Z ad0 hn h0 hF => ?_)
  exact t_X8_steps hF hn hd q0 h (fun v9 q9 => nomatch q9) (fun k9 q9 => by cases q9; exact ⟨⟨rfl, rfl, rfl, rfl⟩, Nat.le_of_ble_eq_true rfl, Nat.le_of_ble_eq_true rfl⟩)
theorem t_X8_users_48 {Z : gZ} {d mc ms : Nat} {Acc : Option Value → (Nat → Nat) → gT → gM → Prop} {AccX : Nat → (Nat → Nat) → gT → gM → Prop} {ad : Nat → Nat} {T : gT} {M : gM} {m_a0 : Nat} {a0 : Nat} {i1 : Int32} {i2 : Int32} {i3 : Int32} {i4 : Int32} {o : (Int32) ⊕ (Int32 × Int32)} (hF : gFix Z cX8_users RX8 "users" (some .int) d mc ms Acc AccX) (hn : Z.2.2.2.2.2.1 = 5) (hd : 7 ≤ d) (q0 : T[a0]? = some (8, m_a0)) (h : f_X8_users_48 T M a0 i1 i2 i3 i4 = some o) (hE : ∀ e9, o = .inl e9 → gG Z ad T M 0 0 54 [(3, .int e9)] []) (hN : ∀ n9, o = .inr n9 → gG Z ad T M 0 0 15 [(0, .ref a0), (1, .int i1), (2, .int i2), (3, .int n9.1), (4, .int n9.2)] []) : gG Z ad T M 0 0 48 [(0, .ref a0), (1, .int i1), (2, .int i2), (3, .int i3), (4, .int i4)] [] := by
  unfold f_X8_users_48 at h
  refine g_iinc (n := 1) (v := (i4 + (1 : Int32))) (ls' := [(4, .int (i4 + (1 : Int32))), (0, .ref a0), (1, .int i1), (2, .int i2), (3, .int i3)]) hF 4 rfl rfl (by rw [hn]; decide) rfl dX8_users_48 ?_
  refine g_goto (tgt := 15) hF dX8_users_51 (by decide) ?_
  exact gG_sub [1, 2, 3, 4, 0] rfl (hN _ (Option.some.inj h).symm)
theorem t_X8_users_B15 {Z : gZ} {d mc ms : Nat} {Acc : Option Value → (Nat → Nat) → gT → gM → Prop} {AccX : Nat → (Nat → Nat) → gT → gM → Prop} {ad : Nat → Nat} {T : gT} {M : gM} {m_a0 : Nat} {a0 : Nat} {i1 : Int32} {i2 : Int32} {i3 : Int32} {i4 : Int32} {o : (Int32) ⊕ (Int32 × Int32)} (hF : gFix Z cX8_users RX8 "users" (some .int) d mc ms Acc AccX) (hn : Z.2.2.2.2.2.1 = 5) (hd : 7 ≤ d) (q0 : T[a0]? = some (8, m_a0)) (h : f_X8_users_B15 T M a0 i1 i2 i3 i4 = some o) (hE : ∀ e9, o = .inl e9 → gG Z ad T M 0 0 54 [(3, .int e9)] []) (hN : ∀ n9, o = .inr n9 → gG Z ad T M 0 0 15 [(0, .ref a0), (1, .int i1), (2, .int i2), (3, .int n9.1), (4, .int n9.2)] []) : gG Z ad T M 0 0 15 [(0, .ref a0), (1, .int i1), (2, .int i2), (3, .int i3), (4, .int i4)] [] := by
  unfold f_X8_users_B15 at h
  refine g_iload hF 4 rfl dX8_users_15 ?_
  refine g_aload_n hF 0 rfl rfl dX8_users_17 ?_
  obtain ⟨b1, h1, h⟩ := gbnd h
  obtain ⟨g1, l1, q_b1⟩ := ldr_sp h1
  refine g_get_r hF g1 fl_RX8_30 q0 dX8_users_18 ?_
  refine g_get_iN hF fn_RX8_91 q_b1 dX8_users_21 ?_
  refine g_icmp_ge (tgt := 54) hF dX8_users_24 (by decide) (fun c2 => ?_) (fun c2 => ?_)
  · replace h := gif_t c2 h
    exact gG_sub [3] rfl (hE _ (Option.some.inj h).symm)
  · replace h := gif_f c2 h
    refine g_aload_n hF 0 rfl rfl dX8_users_27 ?_
    obtain ⟨b3, h3, h⟩ := gbnd h
    obtain ⟨g3, l3, q_b3⟩ := ldr_sp h3
    refine g_get_r hF g3 fl_RX8_37 q0 dX8_users_28 ?_
    obtain ⟨b4, h4, h⟩ := gbnd h
    obtain ⟨g4, l4, q_b4⟩ := ldr_sp h4
    refine g_get_rN hF g4 fn_RX8_156 q_b3 dX8_users_31 ?_
    refine g_iload hF 4 rfl dX8_users_34 ?_
    refine g_iload_n hF 2 rfl rfl dX8_users_36 ?_
    obtain ⟨x5, h5, h⟩ := gbnd h
    refine g_callS hF my_X8_cellOf kw_657 kw_513 (c_X8_cellOf (d := d - 1) (by omega)  h5) (by omega) (Nat.zero_le _) (Nat.zero_le _) rfl rfl (Nat.le_of_ble_eq_true rfl) dX8_users_37 (g_sameS ?_)
    obtain ⟨v6, h6, h⟩ := gbnd h
    obtain ⟨i6h, e6v⟩ := ald_sp q_b4 h6
    refine g_iald hF q_b4 i6h dX8_users_40 ?_
    rw [← e6v]
    refine g_iload_n hF 1 rfl rfl dX8_users_41 ?_
    refine g_icmp_ne (tgt := 48) hF dX8_users_42 (by decide) (fun c7 => ?_) (fun c7 => ?_)
    · replace h := gif_t c7 h
      exact gG_sub [0, 1, 2, 3, 4] rfl (t_X8_users_48 hF hn hd q0 h hE hN)
    · replace h := gif_n c7 h
      refine g_iinc (n := 1) (v := (i3 + (1 : Int32))) (ls' := [(3, .int (i3 + (1 : Int32))), (0, .ref a0), (1, .int i1), (2, .int i2), (4, .int i4)]) hF 3 rfl rfl (by rw [hn]; decide) rfl dX8_users_45 ?_
      exact gG_sub [1, 2, 3, 0, 4] rfl (t_X8_users_48 hF hn hd q0 h hE hN)
theorem t_X8_users_L15 {Z : gZ} {d mc ms : Nat} {Acc : Option Value → (Nat → Nat) → gT → gM → Prop} {AccX : Nat → (Nat → Nat) → gT → gM → Prop} {ad : Nat → Nat} {T : gT} {M : gM} {m_a0 : Nat} {a0 : Nat} {i1 : Int32} {i2 : Int32} {i3 : Int32} {i4 : Int32} {o : Int32} (hF : gFix Z cX8_users RX8 "users" (some .int) d mc ms Acc AccX) (hn : Z.2.2.2.2.2.1 = 5) (hd : 7 ≤ d) (q0 : T[a0]? = some (8, m_a0)) (h : gloop (fun x => f_X8_users_B15 T M a0 i1 i2 x.1 x.2) gFU (i3, i4) = some o) (hE : gG Z ad T M 0 0 54 [(3, .int o)] []) : gG Z ad T M 0 0 15 [(0, .ref a0), (1, .int i1), (2, .int i2), (3, .int i3), (4, .int i4)] [] := by
  refine gloop_ind (P := fun x0 : Int32 × Int32 => gG Z ad T M 0 0 15 [(0, .ref a0), (1, .int i1), (2, .int i2), (3, .int x0.1), (4, .int x0.2)] []) (e := o) (fun x0 y hy hl hr => ?_) gFU (i3, i4) h
  exact t_X8_users_B15 hF hn hd q0 hy (fun e9 q9 => by rw [hl _ q9]; exact hE) (fun n9 q9 => hr n9 q9)
theorem t_X8_users {Z : gZ} {d mc ms : Nat} {Acc : Option Value → (Nat → Nat) → gT → gM → Prop} {AccX : Nat → (Nat → Nat) → gT → gM → Prop} {ad : Nat → Nat} {T : gT} {M : gM} {m_a0 : Nat} {a0 : Nat} {i1 : Int32} {i2 : Int32} {o : Nat ⊕ Int32} (hF : gFix Z cX8_users RX8 "users" (some .int) d mc ms Acc AccX) (hn : Z.2.2.2.2.2.1 = 5) (hd : 7 ≤ d) (q0 : T[a0]? = some (8, m_a0)) (h : f_X8_users T M a0 i1 i2 = some o) (hR : ∀ v9, o = .inr v9 → Acc (some (.int v9)) ad T M) (hX : ∀ k9, o = .inl k9 → AccX k9 ad T M ∧ 1 ≤ mc ∧ 6 ≤ ms) : gG Z ad T M 0 0 0 [(0, .ref a0), (1, .int i1), (2, .int i2)] [] := by
  unfold f_X8_users at h
  refine g_aload_n hF 0 rfl rfl dX8_users_0 ?_
  refine g_iload_n hF 1 rfl rfl dX8_users_1 ?_
  obtain ⟨x8, h8, h⟩ := gbnd h
  rcases x8 with k8 | r8
  · replace h := gcase_l h
    cases h
    exact g_callVX hF my_X8_requireLibrary kw_556 kw_558 kw_20 gC_8.1 (by decide) q0 (cx_X8_requireLibrary (d := d - 1) (by omega) q0 h8) (by omega) (by have q9 := (hX _ rfl).2; omega) (by have q9 := (hX _ rfl).2; omega) rfl rfl (Nat.le_of_ble_eq_true rfl) (hX _ rfl).1 dX8_users_2
  · replace h := gcase_r h
    refine g_callV hF my_X8_requireLibrary kw_556 kw_558 kw_20 gC_8.1 (by decide) q0 (c_X8_requireLibrary (d := d - 1) (by omega) q0 h8) (by omega) (Nat.zero_le _) (Nat.zero_le _) rfl rfl (Nat.le_of_ble_eq_true rfl) dX8_users_2 (g_sameN ?_)
    refine g_aload_n hF 0 rfl rfl dX8_users_5 ?_
    refine g_iload_n hF 2 rfl rfl dX8_users_6 ?_
    obtain ⟨x9, h9, h⟩ := gbnd h
    rcases x9 with k9 | r9
    · replace h := gcase_l h
      cases h
      exact g_callVX hF my_X8_requireName kw_648 kw_650 kw_22 gC_8.1 (by decide) q0 (cx_X8_requireName (d := d - 1) (by omega) q0 h9) (by omega) (by have q9 := (hX _ rfl).2; omega) (by have q9 := (hX _ rfl).2; omega) rfl rfl (Nat.le_of_ble_eq_true rfl) (hX _ rfl).1 dX8_users_7
    · replace h := gcase_r h
      refine g_callV hF my_X8_requireName kw_648 kw_650 kw_22 gC_8.1 (by decide) q0 (c_X8_requireName (d := d - 1) (by omega) q0 h9) (by omega) (Nat.zero_le _) (Nat.zero_le _) rfl rfl (Nat.le_of_ble_eq_true rfl) dX8_users_7 (g_sameN ?_)
      refine g_iconst (v := (0 : Int32)) hF rfl dX8_users_10 ?_
      refine g_istore_n (ls' := [(3, .int (0 : Int32)), (0, .ref a0), (1, .int i1), (2, .int i2)]) hF rfl (by rw [hn]; decide) rfl dX8_users_11 ?_
      refine g_iconst (v := (0 : Int32)) hF rfl dX8_users_12 ?_
      refine g_istore (ls' := [(4, .int (0 : Int32)), (3, .int (0 : Int32)), (0, .ref a0), (1, .int i1), (2, .int i2)]) hF (by rw [hn]; decide) rfl dX8_users_13 ?_
      obtain ⟨x10, h10, h⟩ := gbnd h
      refine gG_sub [2, 3, 4, 1, 0] rfl (t_X8_users_L15 hF hn hd q0 h10 ?_)
      refine g_iload_n hF 0 rfl rfl dX8_users_54 ?_
      cases h
      exact g_ret_i hF rfl rfl dX8_users_55 (hR _ rfl) (Nat.zero_le _) (Nat.zero_le _)
theorem c_X8_users {d : Nat} {T : gT} {M : gM} {m_a0 : Nat} {a0 : Nat} {i1 : Int32} {i2 : Int32} {r : Int32} (hd : 7 ≤ d) (q0 : T[a0]? = some (8, m_a0)) (h : f_X8_users T M a0 i1 i2 = some (.inr r)) : gRet d yX8_users cX8_users 5 (some .int) 0 0 [.ref a0, .int i1, .int i2] T M (gSame T (some (.int r)) M) := by
  refine gRet_of (own := RX8) (by decide) rfl (Nat.le_of_ble_eq_true rfl) (fun Z ad0 hn h0 hF => ?_)
  exact t_X8_users hF hn hd q0 h (fun v9 q9 => by cases q9; exact ⟨rfl, rfl, rfl, rfl⟩) (fun k9 q9 => nomatch q9)
theorem cx_X8_users {d : Nat} {T : gT} {M : gM} {m_a0 : Nat} {a0 : Nat} {i1 : Int32} {i2 : Int32} {k : Nat} (hd : 7 ≤ d) (q0 : T[a0]? = some (8, m_a0)) (h : f_X8_users T M a0 i1 i2 = some (.inl k)) : gRetX d yX8_users cX8_users 5 (some .int) 1 6 [.ref a0, .int i1, .int i2] T M k := by
  refine gRetX_of (own := RX8) (by decide) rfl (Nat.le_of_ble_eq_true rfl) (fun Z ad0 hn h0 hF => ?_)
  exact t_X8_users hF hn hd q0 h (fun v9 q9 => nomatch q9) (fun k9 q9 => by cases q9; exact ⟨⟨rfl, rfl, rfl, rfl⟩, Nat.le_of_ble_eq_true rfl, Nat.le_of_ble_eq_true rfl⟩)
theorem t_X8_changedBindings_62 {Z : gZ} {d mc ms : Nat} {Acc : Option Value → (Nat → Nat) → gT → gM → Prop} {AccX : Nat → (Nat → Nat) → gT → gM → Prop} {ad : Nat → Nat} {T : gT} {M : gM} {m_a0 : Nat} {a0 : Nat} {i1 : Int32} {i2 : Int32} {i3 : Int32} {o : (Int32) ⊕ (Int32 × Int32)} (hF : gFix Z cX8_changedBindings RX8 "changedBindings" (some .int) d mc ms Acc AccX) (hn : Z.2.2.2.2.2.1 = 5) (hd : 2 ≤ d) (q0 : T[a0]? = some (8, m_a0)) (h : f_X8_changedBindings_62 T M a0 i1 i2 i3 = some o) (hE : ∀ e9, o = .inl e9 → gG Z ad T M 0 0 68 [(2, .int e9)] []) (hN : ∀ n9, o = .inr n9 → gG Z ad T M 0 0 21 [(0, .ref a0), (1, .int i1), (2, .int n9.1), (3, .int n9.2)] []) : gG Z ad T M 0 0 62 [(0, .ref a0), (1, .int i1), (2, .int i2), (3, .int i3)] [] := by
  unfold f_X8_changedBindings_62 at h
  refine g_iinc (n := 1) (v := (i3 + (1 : Int32))) (ls' := [(3, .int (i3 + (1 : Int32))), (0, .ref a0), (1, .int i1), (2, .int i2)]) hF 3 rfl rfl (by rw [hn]; decide) rfl dX8_changedBindings_62 ?_
  refine g_goto (tgt := 21) hF dX8_changedBindings_65 (by decide) ?_
  exact gG_sub [1, 2, 3, 0] rfl (hN _ (Option.some.inj h).symm)
theorem t_X8_changedBindings_B21 {Z : gZ} {d mc ms : Nat} {Acc : Option Value → (Nat → Nat) → gT → gM → Prop} {AccX : Nat → (Nat → Nat) → gT → gM → Prop} {ad : Nat → Nat} {T : gT} {M : gM} {m_a0 : Nat} {a0 : Nat} {i1 : Int32} {i2 : Int32} {i3 : Int32} {o : (Int32) ⊕ (Int32 × Int32)} (hF : gFix Z cX8_changedBindings RX8 "changedBindings" (some .int) d mc ms Acc AccX) (hn : Z.2.2.2.2.2.1 = 5) (hd : 2 ≤ d) (q0 : T[a0]? = some (8, m_a0)) (h : f_X8_changedBindings_B21 T M a0 i1 i2 i3 = some o) (hE : ∀ e9, o = .inl e9 → gG Z ad T M 0 0 68 [(2, .int e9)] []) (hN : ∀ n9, o = .inr n9 → gG Z ad T M 0 0 21 [(0, .ref a0), (1, .int i1), (2, .int n9.1), (3, .int n9.2)] []) : gG Z ad T M 0 0 21 [(0, .ref a0), (1, .int i1), (2, .int i2), (3, .int i3)] [] := by
  unfold f_X8_changedBindings_B21 at h
  refine g_iload_n hF 3 rfl rfl dX8_changedBindings_21 ?_
  refine g_aload_n hF 0 rfl rfl dX8_changedBindings_22 ?_
  obtain ⟨b1, h1, h⟩ := gbnd h
  obtain ⟨g1, l1, q_b1⟩ := ldr_sp h1
  refine g_get_r hF g1 fl_RX8_30 q0 dX8_changedBindings_23 ?_
  refine g_get_iN hF fn_RX8_94 q_b1 dX8_changedBindings_26 ?_
  refine g_icmp_ge (tgt := 68) hF dX8_changedBindings_29 (by decide) (fun c2 => ?_) (fun c2 => ?_)
  · replace h := gif_t c2 h
    exact gG_sub [2] rfl (hE _ (Option.some.inj h).symm)
  · replace h := gif_f c2 h
    refine g_iload_n hF 1 rfl rfl dX8_changedBindings_32 ?_
    refine g_iload_n hF 3 rfl rfl dX8_changedBindings_33 ?_
    obtain ⟨x3, h3, h⟩ := gbnd h
    refine g_callS hF my_X8_cellOf kw_657 kw_513 (c_X8_cellOf (d := d - 1) (by omega)  h3) (by omega) (Nat.zero_le _) (Nat.zero_le _) rfl rfl (Nat.le_of_ble_eq_true rfl) dX8_changedBindings_34 (g_sameS ?_)
    refine g_istore (ls' := [(4, .int x3), (0, .ref a0), (1, .int i1), (2, .int i2), (3, .int i3)]) hF (by rw [hn]; decide) rfl dX8_changedBindings_37 ?_
    refine g_aload_n hF 1 rfl rfl dX8_changedBindings_39 ?_
    obtain ⟨b4, h4, h⟩ := gbnd h
    obtain ⟨g4, l4, q_b4⟩ := ldr_sp h4
    refine g_get_r hF g4 fl_RX8_37 q0 dX8_changedBindings_40 ?_
    obtain ⟨b5, h5, h⟩ := gbnd h
    obtain ⟨g5, l5, q_b5⟩ := ldr_sp h5
    refine g_get_rN hF g5 fn_RX8_156 q_b4 dX8_changedBindings_43 ?_
    refine g_iload hF 0 rfl dX8_changedBindings_46 ?_
    obtain ⟨v6, h6, h⟩ := gbnd h
    obtain ⟨i6h, e6v⟩ := ald_sp q_b5 h6
    refine g_iald hF q_b5 i6h dX8_changedBindings_48 ?_
    rw [← e6v]
    refine g_aload_n hF 1 rfl rfl dX8_changedBindings_49 ?_
    obtain ⟨b7, h7, h⟩ := gbnd h
    obtain ⟨g7, l7, q_b7⟩ := ldr_sp h7
    refine g_get_r hF g7 fl_RX8_55 q0 dX8_changedBindings_50 ?_
    refine g_iload hF 0 rfl dX8_changedBindings_53 ?_
    obtain ⟨v8, h8, h⟩ := gbnd h
    obtain ⟨i8h, e8v⟩ := ald_sp q_b7 h8
    refine g_iald hF q_b7 i8h dX8_changedBindings_55 ?_
    rw [← e8v]
    refine g_icmp_eq (tgt := 62) hF dX8_changedBindings_56 (by decide) (fun c9 => ?_) (fun c9 => ?_)
    · replace h := gif_t c9 h
      exact gG_sub [1, 2, 3, 4] rfl (t_X8_changedBindings_62 hF hn hd q0 h hE hN)
    · replace h := gif_f c9 h
      refine g_iinc (n := 1) (v := (i2 + (1 : Int32))) (ls' := [(2, .int (i2 + (1 : Int32))), (4, .int x3), (0, .ref a0), (1, .int i1), (3, .int i3)]) hF 3 rfl rfl (by rw [hn]; decide) rfl dX8_changedBindings_59 ?_
      exact gG_sub [2, 3, 0, 4] rfl (t_X8_changedBindings_62 hF hn hd q0 h hE hN)
theorem t_X8_changedBindings_L21 {Z : gZ} {d mc ms : Nat} {Acc : Option Value → (Nat → Nat) → gT → gM → Prop} {AccX : Nat → (Nat → Nat) → gT → gM → Prop} {ad : Nat → Nat} {T : gT} {M : gM} {m_a0 : Nat} {a0 : Nat} {i1 : Int32} {i2 : Int32} {i3 : Int32} {o : Int32} (hF : gFix Z cX8_changedBindings RX8 "changedBindings" (some .int) d mc ms Acc AccX) (hn : Z.2.2.2.2.2.1 = 5) (hd : 2 ≤ d) (q0 : T[a0]? = some (8, m_a0)) (h : gloop (fun x => f_X8_changedBindings_B21 T M a0 i1 x.1 x.2) gFU (i2, i3) = some o) (hE : gG Z ad T M 0 0 68 [(2, .int o)] []) : gG Z ad T M 0 0 21 [(0, .ref a0), (1, .int i1), (2, .int i2), (3, .int i3)] [] := by
  refine gloop_ind (P := fun x0 : Int32 × Int32 => gG Z ad T M 0 0 21 [(0, .ref a0), (1, .int i1), (2, .int x0.1), (3, .int x0.2)] []) (e := o) (fun x0 y hy hl hr => ?_) gFU (i2, i3) h
  exact t_X8_changedBindings_B21 hF hn hd q0 hy (fun e9 q9 => by rw [hl _ q9]; exact hE) (fun n9 q9 => hr n9 q9)
theorem t_X8_changedBindings {Z : gZ} {d mc ms : Nat} {Acc : Option Value → (Nat → Nat) → gT → gM → Prop} {AccX : Nat → (Nat → Nat) → gT → gM → Prop} {ad : Nat → Nat} {T : gT} {M : gM} {m_a0 : Nat} {a0 : Nat} {i1 : Int32} {o : Int32} (hF : gFix Z cX8_changedBindings RX8 "changedBindings" (some .int) d mc ms Acc AccX) (hn : Z.2.2.2.2.2.1 = 5) (hd : 2 ≤ d) (q0 : T[a0]? = some (8, m_a0)) (h : f_X8_changedBindings T M a0 i1 = some o) (hR : Acc (some (.int o)) ad T M) : gG Z ad T M 0 0 0 [(0, .ref a0), (1, .int i1)] [] := by
  unfold f_X8_changedBindings at h
  refine g_aload_n hF 0 rfl rfl dX8_changedBindings_0 ?_
  obtain ⟨b10, h10, h⟩ := gbnd h
  obtain ⟨g10, l10, q_b10⟩ := ldr_sp h10
  refine g_get_r hF g10 fl_RX8_30 q0 dX8_changedBindings_1 ?_
  obtain ⟨b11, h11, h⟩ := gbnd h
  obtain ⟨g11, l11, q_b11⟩ := ldr_sp h11
  refine g_get_rN hF g11 fn_RX8_103 q_b10 dX8_changedBindings_4 ?_
  refine g_iload_n hF 1 rfl rfl dX8_changedBindings_7 ?_
  obtain ⟨b12, h12, h⟩ := gbnd h
  obtain ⟨i12h, g12, l12, q_b12⟩ := aldr_sp q_b11 h12
  refine g_aald hF q_b11 (Or.inr ⟨rfl, rfl⟩) i12h g12 dX8_changedBindings_8 ?_
  obtain ⟨x13, h13, h⟩ := gbnd h
  refine g_callVN hF my_X3_isLoaded kn_963 kw_459 kw_5 gC_3.1 (by decide) q_b12 (c_X3_isLoaded (d := d - 1) (by omega) q_b12 h13) (by omega) (Nat.zero_le _) (Nat.zero_le _) rfl rfl (Nat.le_of_ble_eq_true rfl) dX8_changedBindings_9 (g_sameS ?_)
  refine g_if_ne (tgt := 17) hF dX8_changedBindings_12 (by decide) (fun c14 => ?_) (fun c14 => ?_)
  · replace h := gif_t c14 h
    refine g_iconst (v := (0 : Int32)) hF rfl dX8_changedBindings_17 ?_
    refine g_istore_n (ls' := [(2, .int (0 : Int32)), (0, .ref a0), (1, .int i1)]) hF rfl (by rw [hn]; decide) rfl dX8_changedBindings_18 ?_
    refine g_iconst (v := (0 : Int32)) hF rfl dX8_changedBindings_19 ?_
    refine g_istore_n (ls' := [(3, .int (0 : Int32)), (2, .int (0 : Int32)), (0, .ref a0), (1, .int i1)]) hF rfl (by rw [hn]; decide) rfl dX8_changedBindings_20 ?_
    obtain ⟨x15, h15, h⟩ := gbnd h
    refine gG_sub [2, 3, 1, 0] rfl (t_X8_changedBindings_L21 hF hn hd q0 h15 ?_)
    refine g_iload_n hF 0 rfl rfl dX8_changedBindings_68 ?_
    cases h
    exact g_ret_i hF rfl rfl dX8_changedBindings_69 hR (Nat.zero_le _) (Nat.zero_le _)
  · replace h := gif_n c14 h
    refine g_iconst (v := (0 : Int32)) hF rfl dX8_changedBindings_15 ?_
    cases h
    exact g_ret_i hF rfl rfl dX8_changedBindings_16 hR (Nat.zero_le _) (Nat.zero_le _)
theorem c_X8_changedBindings {d : Nat} {T : gT} {M : gM} {m_a0 : Nat} {a0 : Nat} {i1 : Int32} {r : Int32} (hd : 2 ≤ d) (q0 : T[a0]? = some (8, m_a0)) (h : f_X8_changedBindings T M a0 i1 = some (r)) : gRet d yX8_changedBindings cX8_changedBindings 5 (some .int) 0 0 [.ref a0, .int i1] T M (gSame T (some (.int r)) M) := by
  refine gRet_of (own := RX8) (by decide) rfl (Nat.le_of_ble_eq_true rfl) (fun Z ad0 hn h0 hF => ?_)
  exact t_X8_changedBindings hF hn hd q0 h ⟨rfl, rfl, rfl, rfl⟩
theorem t_X8_changedBindingsOfAll_B4 {Z : gZ} {d mc ms : Nat} {Acc : Option Value → (Nat → Nat) → gT → gM → Prop} {AccX : Nat → (Nat → Nat) → gT → gM → Prop} {ad : Nat → Nat} {T : gT} {M : gM} {m_a0 : Nat} {a0 : Nat} {i1 : Int32} {i2 : Int32} {o : (Int32) ⊕ (Int32 × Int32)} (hF : gFix Z cX8_changedBindingsOfAll RX8 "changedBindingsOfAll" (some .int) d mc ms Acc AccX) (hn : Z.2.2.2.2.2.1 = 3) (hd : 3 ≤ d) (q0 : T[a0]? = some (8, m_a0)) (h : f_X8_changedBindingsOfAll_B4 T M a0 i1 i2 = some o) (hE : ∀ e9, o = .inl e9 → gG Z ad T M 0 0 29 [(1, .int e9)] []) (hN : ∀ n9, o = .inr n9 → gG Z ad T M 0 0 4 [(0, .ref a0), (1, .int n9.1), (2, .int n9.2)] []) : gG Z ad T M 0 0 4 [(0, .ref a0), (1, .int i1), (2, .int i2)] [] := by
  unfold f_X8_changedBindingsOfAll_B4 at h
  refine g_iload_n hF 2 rfl rfl dX8_changedBindingsOfAll_4 ?_
  refine g_aload_n hF 0 rfl rfl dX8_changedBindingsOfAll_5 ?_
  obtain ⟨b1, h1, h⟩ := gbnd h
  obtain ⟨g1, l1, q_b1⟩ := ldr_sp h1
  refine g_get_r hF g1 fl_RX8_30 q0 dX8_changedBindingsOfAll_6 ?_
  refine g_get_iN hF fn_RX8_91 q_b1 dX8_changedBindingsOfAll_9 ?_
  refine g_icmp_ge (tgt := 29) hF dX8_changedBindingsOfAll_12 (by decide) (fun c2 => ?_) (fun c2 => ?_)
  · replace h := gif_t c2 h
    exact gG_sub [1] rfl (hE _ (Option.some.inj h).symm)
  · replace h := gif_f c2 h
    refine g_iload_n hF 1 rfl rfl dX8_changedBindingsOfAll_15 ?_
    refine g_aload_n hF 0 rfl rfl dX8_changedBindingsOfAll_16 ?_
    refine g_iload_n hF 2 rfl rfl dX8_changedBindingsOfAll_17 ?_
    obtain ⟨x3, h3, h⟩ := gbnd h
    refine g_callV hF my_X8_changedBindings kw_1014 kw_1016 kw_61 gC_8.1 (by decide) q0 (c_X8_changedBindings (d := d - 1) (by omega) q0 h3) (by omega) (Nat.zero_le _) (Nat.zero_le _) rfl rfl (Nat.le_of_ble_eq_true rfl) dX8_changedBindingsOfAll_18 (g_sameS ?_)
    refine g_iadd hF dX8_changedBindingsOfAll_21 ?_
    refine g_istore_n (ls' := [(1, .int (i1 + x3)), (0, .ref a0), (2, .int i2)]) hF rfl (by rw [hn]; decide) rfl dX8_changedBindingsOfAll_22 ?_
    refine g_iinc (n := 1) (v := (i2 + (1 : Int32))) (ls' := [(2, .int (i2 + (1 : Int32))), (1, .int (i1 + x3)), (0, .ref a0)]) hF 2 rfl rfl (by rw [hn]; decide) rfl dX8_changedBindingsOfAll_23 ?_
    refine g_goto (tgt := 4) hF dX8_changedBindingsOfAll_26 (by decide) ?_
    exact gG_sub [2, 1, 0] rfl (hN _ (Option.some.inj h).symm)
theorem t_X8_changedBindingsOfAll_L4 {Z : gZ} {d mc ms : Nat} {Acc : Option Value → (Nat → Nat) → gT → gM → Prop} {AccX : Nat → (Nat → Nat) → gT → gM → Prop} {ad : Nat → Nat} {T : gT} {M : gM} {m_a0 : Nat} {a0 : Nat} {i1 : Int32} {i2 : Int32} {o : Int32} (hF : gFix Z cX8_changedBindingsOfAll RX8 "changedBindingsOfAll" (some .int) d mc ms Acc AccX) (hn : Z.2.2.2.2.2.1 = 3) (hd : 3 ≤ d) (q0 : T[a0]? = some (8, m_a0)) (h : gloop (fun x => f_X8_changedBindingsOfAll_B4 T M a0 x.1 x.2) gFU (i1, i2) = some o) (hE : gG Z ad T M 0 0 29 [(1, .int o)] []) : gG Z ad T M 0 0 4 [(0, .ref a0), (1, .int i1), (2, .int i2)] [] := by
  refine gloop_ind (P := fun x0 : Int32 × Int32 => gG Z ad T M 0 0 4 [(0, .ref a0), (1, .int x0.1), (2, .int x0.2)] []) (e := o) (fun x0 y hy hl hr => ?_) gFU (i1, i2) h
  exact t_X8_changedBindingsOfAll_B4 hF hn hd q0 hy (fun e9 q9 => by rw [hl _ q9]; exact hE) (fun n9 q9 => hr n9 q9)
theorem t_X8_changedBindingsOfAll {Z : gZ} {d mc ms : Nat} {Acc : Option Value → (Nat → Nat) → gT → gM → Prop} {AccX : Nat → (Nat → Nat) → gT → gM → Prop} {ad : Nat → Nat} {T : gT} {M : gM} {m_a0 : Nat} {a0 : Nat} {o : Int32} (hF : gFix Z cX8_changedBindingsOfAll RX8 "changedBindingsOfAll" (some .int) d mc ms Acc AccX) (hn : Z.2.2.2.2.2.1 = 3) (hd : 3 ≤ d) (q0 : T[a0]? = some (8, m_a0)) (h : f_X8_changedBindingsOfAll T M a0 = some o) (hR : Acc (some (.int o)) ad T M) : gG Z ad T M 0 0 0 [(0, .ref a0)] [] := by
  unfold f_X8_changedBindingsOfAll at h
  refine g_iconst (v := (0 : Int32)) hF rfl dX8_changedBindingsOfAll_0 ?_
  refine g_istore_n (ls' := [(1, .int (0 : Int32)), (0, .ref a0)]) hF rfl (by rw [hn]; decide) rfl dX8_changedBindingsOfAll_1 ?_
  refine g_iconst (v := (0 : Int32)) hF rfl dX8_changedBindingsOfAll_2 ?_
  refine g_istore_n (ls' := [(2, .int (0 : Int32)), (1, .int (0 : Int32)), (0, .ref a0)]) hF rfl (by rw [hn]; decide) rfl dX8_changedBindingsOfAll_3 ?_
  obtain ⟨x4, h4, h⟩ := gbnd h
  refine gG_sub [2, 1, 0] rfl (t_X8_changedBindingsOfAll_L4 hF hn hd q0 h4 ?_)
  refine g_iload_n hF 0 rfl rfl dX8_changedBindingsOfAll_29 ?_
  cases h
  exact g_ret_i hF rfl rfl dX8_changedBindingsOfAll_30 hR (Nat.zero_le _) (Nat.zero_le _)
theorem c_X8_changedBindingsOfAll {d : Nat} {T : gT} {M : gM} {m_a0 : Nat} {a0 : Nat} {r : Int32} (hd : 3 ≤ d) (q0 : T[a0]? = some (8, m_a0)) (h : f_X8_changedBindingsOfAll T M a0 = some (r)) : gRet d yX8_changedBindingsOfAll cX8_changedBindingsOfAll 3 (some .int) 0 0 [.ref a0] T M (gSame T (some (.int r)) M) := by
  refine gRet_of (own := RX8) (by decide) rfl (Nat.le_of_ble_eq_true rfl) (fun Z ad0 hn h0 hF => ?_)
  exact t_X8_changedBindingsOfAll hF hn hd q0 h ⟨rfl, rfl, rfl, rfl⟩
theorem t_X8_unload {Z : gZ} {d mc ms : Nat} {Acc : Option Value → (Nat → Nat) → gT → gM → Prop} {AccX : Nat → (Nat → Nat) → gT → gM → Prop} {ad : Nat → Nat} {T : gT} {M : gM} {m_a0 : Nat} {a0 : Nat} {i1 : Int32} {o : Nat ⊕ (Int32 × gM)} (hF : gFix Z cX8_unload RX8 "unload" (some .int) d mc ms Acc AccX) (hn : Z.2.2.2.2.2.1 = 2) (hd : 7 ≤ d) (q0 : T[a0]? = some (8, m_a0)) (h : f_X8_unload T M a0 i1 = some o) (hR : ∀ v9, o = .inr v9 → Acc (some (.int v9.1)) ad T v9.2) (hX : ∀ k9, o = .inl k9 → AccX k9 ad T M ∧ 1 ≤ mc ∧ 6 ≤ ms) : gG Z ad T M 0 0 0 [(0, .ref a0), (1, .int i1)] [] := by
  unfold f_X8_unload at h
  refine g_aload_n hF 0 rfl rfl dX8_unload_0 ?_
  refine g_iload_n hF 1 rfl rfl dX8_unload_1 ?_
  obtain ⟨x1, h1, h⟩ := gbnd h
  rcases x1 with k1 | r1
  · replace h := gcase_l h
    cases h
    exact g_callVX hF my_X8_requireLibrary kw_556 kw_558 kw_20 gC_8.1 (by decide) q0 (cx_X8_requireLibrary (d := d - 1) (by omega) q0 h1) (by omega) (by have q9 := (hX _ rfl).2; omega) (by have q9 := (hX _ rfl).2; omega) rfl rfl (Nat.le_of_ble_eq_true rfl) (hX _ rfl).1 dX8_unload_2
  · replace h := gcase_r h
    refine g_callV hF my_X8_requireLibrary kw_556 kw_558 kw_20 gC_8.1 (by decide) q0 (c_X8_requireLibrary (d := d - 1) (by omega) q0 h1) (by omega) (Nat.zero_le _) (Nat.zero_le _) rfl rfl (Nat.le_of_ble_eq_true rfl) dX8_unload_2 (g_sameN ?_)
    refine g_aload_n hF 0 rfl rfl dX8_unload_5 ?_
    obtain ⟨b2, h2, h⟩ := gbnd h
    obtain ⟨g2, l2, q_b2⟩ := ldr_sp h2
    refine g_get_r hF g2 fl_RX8_30 q0 dX8_unload_6 ?_
    obtain ⟨b3, h3, h⟩ := gbnd h
    obtain ⟨g3, l3, q_b3⟩ := ldr_sp h3
    refine g_get_rN hF g3 fn_RX8_103 q_b2 dX8_unload_9 ?_
    refine g_iload_n hF 1 rfl rfl dX8_unload_12 ?_
    obtain ⟨b4, h4, h⟩ := gbnd h
    obtain ⟨i4h, g4, l4, q_b4⟩ := aldr_sp q_b3 h4
    refine g_aald hF q_b3 (Or.inr ⟨rfl, rfl⟩) i4h g4 dX8_unload_13 ?_
    obtain ⟨x5, h5, h⟩ := gbnd h
    refine g_callVN hF my_X3_isLoaded kn_963 kw_459 kw_5 gC_3.1 (by decide) q_b4 (c_X3_isLoaded (d := d - 1) (by omega) q_b4 h5) (by omega) (Nat.zero_le _) (Nat.zero_le _) rfl rfl (Nat.le_of_ble_eq_true rfl) dX8_unload_14 (g_sameS ?_)
    refine g_if_ne (tgt := 30) hF dX8_unload_17 (by decide) (fun c6 => ?_) (fun c6 => ?_)
    · replace h := gif_t c6 h
      refine g_aload_n hF 0 rfl rfl dX8_unload_30 ?_
      obtain ⟨x7, h7, h⟩ := gbnd h
      refine g_callV hF my_X8_beginChange kw_898 kw_900 kw_57 gC_8.1 (by decide) q0 (c_X8_beginChange (d := d - 1) (by omega) q0 h7) (by omega) (Nat.zero_le _) (Nat.zero_le _) rfl rfl (Nat.le_of_ble_eq_true rfl) dX8_unload_31 (g_sameN ?_)
      refine g_aload_n hF 0 rfl rfl dX8_unload_34 ?_
      obtain ⟨b8, h8, h⟩ := gbnd h
      obtain ⟨g8, l8, q_b8⟩ := ldr_sp h8
      refine g_get_r hF g8 fl_RX8_30 q0 dX8_unload_35 ?_
      refine g_iload_n hF 1 rfl rfl dX8_unload_38 ?_
      obtain ⟨x9, h9, h⟩ := gbnd h
      refine g_callVN hF my_X0_takeOut kn_1006 kw_1008 kw_59 gC_0.1 (by decide) q_b8 (c_X0_takeOut (d := d - 1) (by omega) q_b8 h9) (by omega) (Nat.zero_le _) (Nat.zero_le _) rfl rfl (Nat.le_of_ble_eq_true rfl) dX8_unload_39 (g_sameN ?_)
      refine g_aload_n hF 0 rfl rfl dX8_unload_42 ?_
      obtain ⟨b10, h10, h⟩ := gbnd h
      obtain ⟨g10, l10, q_b10⟩ := ldr_sp h10
      refine g_get_r hF g10 fl_RX8_37 q0 dX8_unload_43 ?_
      refine g_aload_n hF 0 rfl rfl dX8_unload_46 ?_
      obtain ⟨b11, h11, h⟩ := gbnd h
      obtain ⟨g11, l11, q_b11⟩ := ldr_sp h11
      refine g_get_r hF g11 fl_RX8_30 q0 dX8_unload_47 ?_
      obtain ⟨x12, h12, h⟩ := gbnd h
      refine g_callVN hF my_X1_count kn_453 kw_455 kw_4 gC_1.1 (by decide) q_b10 (c_X1_count (d := d - 1) (by omega) q_b10 q_b11 h12) (by omega) (Nat.zero_le _) (Nat.zero_le _) rfl rfl (Nat.le_of_ble_eq_true rfl) dX8_unload_50 (g_sameN ?_)
      refine g_aload_n hF 0 rfl rfl dX8_unload_53 ?_
      obtain ⟨x13, h13, h⟩ := gbnd h
      refine g_callV hF my_X8_changedBindingsOfAll kw_1010 kw_1012 kw_60 gC_8.1 (by decide) q0 (c_X8_changedBindingsOfAll (d := d - 1) (by omega) q0 h13) (by omega) (Nat.zero_le _) (Nat.zero_le _) rfl rfl (Nat.le_of_ble_eq_true rfl) dX8_unload_54 (g_sameS ?_)
      cases h
      exact g_ret_i hF rfl rfl dX8_unload_57 (hR _ rfl) (Nat.zero_le _) (Nat.zero_le _)
    · replace h := gif_n c6 h
      cases h
      exact g_throw (text := "the library is not loaded") (sa := gSB + 17) hF thr_RX8_173 (by decide +kernel) (Nat.le_of_ble_eq_true rfl) (by omega) (hX _ rfl).2.1 (hX _ rfl).2.2 (hX _ rfl).1 dX8_unload_20 dX8_unload_23 dX8_unload_24 dX8_unload_26 dX8_unload_29
theorem c_X8_unload {d : Nat} {T : gT} {M : gM} {m_a0 : Nat} {a0 : Nat} {i1 : Int32} {r : Int32 × gM} (hd : 7 ≤ d) (q0 : T[a0]? = some (8, m_a0)) (h : f_X8_unload T M a0 i1 = some (.inr r)) : gRet d yX8_unload cX8_unload 2 (some .int) 0 0 [.ref a0, .int i1] T M (gSame T (some (.int r.1)) r.2) := by
  refine gRet_of (own := RX8) (by decide) rfl (Nat.le_of_ble_eq_true rfl) (fun Z ad0 hn h0 hF => ?_)
  exact t_X8_unload hF hn hd q0 h (fun v9 q9 => by cases q9; exact ⟨rfl, rfl, rfl, rfl⟩) (fun k9 q9 => nomatch q9)
theorem cx_X8_unload {d : Nat} {T : gT} {M : gM} {m_a0 : Nat} {a0 : Nat} {i1 : Int32} {k : Nat} (hd : 7 ≤ d) (q0 : T[a0]? = some (8, m_a0)) (h : f_X8_unload T M a0 i1 = some (.inl k)) : gRetX d yX8_unload cX8_unload 2 (some .int) 1 6 [.ref a0, .int i1] T M k := by
  refine gRetX_of (own := RX8) (by decide) rfl (Nat.le_of_ble_eq_true rfl) (fun Z ad0 hn h0 hF => ?_)
  exact t_X8_unload hF hn hd q0 h (fun v9 q9 => nomatch q9) (fun k9 q9 => by cases q9; exact ⟨⟨rfl, rfl, rfl, rfl⟩, Nat.le_of_ble_eq_true rfl, Nat.le_of_ble_eq_true rfl⟩)
theorem t_X8_reload {Z : gZ} {d mc ms : Nat} {Acc : Option Value → (Nat → Nat) → gT → gM → Prop} {AccX : Nat → (Nat → Nat) → gT → gM → Prop} {ad : Nat → Nat} {T : gT} {M : gM} {m_a0 : Nat} {a0 : Nat} {i1 : Int32} {o : Nat ⊕ (Int32 × gM)} (hF : gFix Z cX8_reload RX8 "reload" (some .int) d mc ms Acc AccX) (hn : Z.2.2.2.2.2.1 = 2) (hd : 7 ≤ d) (q0 : T[a0]? = some (8, m_a0)) (h : f_X8_reload T M a0 i1 = some o) (hR : ∀ v9, o = .inr v9 → Acc (some (.int v9.1)) ad T v9.2) (hX : ∀ k9, o = .inl k9 → AccX k9 ad T M ∧ 1 ≤ mc ∧ 6 ≤ ms) : gG Z ad T M 0 0 0 [(0, .ref a0), (1, .int i1)] [] := by
  unfold f_X8_reload at h
  refine g_aload_n hF 0 rfl rfl dX8_reload_0 ?_
  refine g_iload_n hF 1 rfl rfl dX8_reload_1 ?_
  obtain ⟨x1, h1, h⟩ := gbnd h
  rcases x1 with k1 | r1
  · replace h := gcase_l h
    cases h
    exact g_callVX hF my_X8_requireLibrary kw_556 kw_558 kw_20 gC_8.1 (by decide) q0 (cx_X8_requireLibrary (d := d - 1) (by omega) q0 h1) (by omega) (by have q9 := (hX _ rfl).2; omega) (by have q9 := (hX _ rfl).2; omega) rfl rfl (Nat.le_of_ble_eq_true rfl) (hX _ rfl).1 dX8_reload_2
  · replace h := gcase_r h
    refine g_callV hF my_X8_requireLibrary kw_556 kw_558 kw_20 gC_8.1 (by decide) q0 (c_X8_requireLibrary (d := d - 1) (by omega) q0 h1) (by omega) (Nat.zero_le _) (Nat.zero_le _) rfl rfl (Nat.le_of_ble_eq_true rfl) dX8_reload_2 (g_sameN ?_)
    refine g_aload_n hF 0 rfl rfl dX8_reload_5 ?_
    obtain ⟨b2, h2, h⟩ := gbnd h
    obtain ⟨g2, l2, q_b2⟩ := ldr_sp h2
    refine g_get_r hF g2 fl_RX8_30 q0 dX8_reload_6 ?_
    obtain ⟨b3, h3, h⟩ := gbnd h
    obtain ⟨g3, l3, q_b3⟩ := ldr_sp h3
    refine g_get_rN hF g3 fn_RX8_103 q_b2 dX8_reload_9 ?_
    refine g_iload_n hF 1 rfl rfl dX8_reload_12 ?_
    obtain ⟨b4, h4, h⟩ := gbnd h
    obtain ⟨i4h, g4, l4, q_b4⟩ := aldr_sp q_b3 h4
    refine g_aald hF q_b3 (Or.inr ⟨rfl, rfl⟩) i4h g4 dX8_reload_13 ?_
    obtain ⟨x5, h5, h⟩ := gbnd h
    refine g_callVN hF my_X3_isLoaded kn_963 kw_459 kw_5 gC_3.1 (by decide) q_b4 (c_X3_isLoaded (d := d - 1) (by omega) q_b4 h5) (by omega) (Nat.zero_le _) (Nat.zero_le _) rfl rfl (Nat.le_of_ble_eq_true rfl) dX8_reload_14 (g_sameS ?_)
    refine g_if_eq (tgt := 30) hF dX8_reload_17 (by decide) (fun c6 => ?_) (fun c6 => ?_)
    · replace h := gif_t c6 h
      refine g_aload_n hF 0 rfl rfl dX8_reload_30 ?_
      obtain ⟨x7, h7, h⟩ := gbnd h
      refine g_callV hF my_X8_beginChange kw_898 kw_900 kw_57 gC_8.1 (by decide) q0 (c_X8_beginChange (d := d - 1) (by omega) q0 h7) (by omega) (Nat.zero_le _) (Nat.zero_le _) rfl rfl (Nat.le_of_ble_eq_true rfl) dX8_reload_31 (g_sameN ?_)
      refine g_aload_n hF 0 rfl rfl dX8_reload_34 ?_
      obtain ⟨b8, h8, h⟩ := gbnd h
      obtain ⟨g8, l8, q_b8⟩ := ldr_sp h8
      refine g_get_r hF g8 fl_RX8_30 q0 dX8_reload_35 ?_
      refine g_iload_n hF 1 rfl rfl dX8_reload_38 ?_
      obtain ⟨x9, h9, h⟩ := gbnd h
      refine g_callVN hF my_X0_takeIn kn_1026 kw_1028 kw_62 gC_0.1 (by decide) q_b8 (c_X0_takeIn (d := d - 1) (by omega) q_b8 h9) (by omega) (Nat.zero_le _) (Nat.zero_le _) rfl rfl (Nat.le_of_ble_eq_true rfl) dX8_reload_39 (g_sameN ?_)
      refine g_aload_n hF 0 rfl rfl dX8_reload_42 ?_
      obtain ⟨b10, h10, h⟩ := gbnd h
      obtain ⟨g10, l10, q_b10⟩ := ldr_sp h10
      refine g_get_r hF g10 fl_RX8_37 q0 dX8_reload_43 ?_
      refine g_aload_n hF 0 rfl rfl dX8_reload_46 ?_
      obtain ⟨b11, h11, h⟩ := gbnd h
      obtain ⟨g11, l11, q_b11⟩ := ldr_sp h11
      refine g_get_r hF g11 fl_RX8_30 q0 dX8_reload_47 ?_
      obtain ⟨x12, h12, h⟩ := gbnd h
      refine g_callVN hF my_X1_count kn_453 kw_455 kw_4 gC_1.1 (by decide) q_b10 (c_X1_count (d := d - 1) (by omega) q_b10 q_b11 h12) (by omega) (Nat.zero_le _) (Nat.zero_le _) rfl rfl (Nat.le_of_ble_eq_true rfl) dX8_reload_50 (g_sameN ?_)
      refine g_aload_n hF 0 rfl rfl dX8_reload_53 ?_
      obtain ⟨x13, h13, h⟩ := gbnd h
      refine g_callV hF my_X8_changedBindingsOfAll kw_1010 kw_1012 kw_60 gC_8.1 (by decide) q0 (c_X8_changedBindingsOfAll (d := d - 1) (by omega) q0 h13) (by omega) (Nat.zero_le _) (Nat.zero_le _) rfl rfl (Nat.le_of_ble_eq_true rfl) dX8_reload_54 (g_sameS ?_)
      refine g_aload_n hF 0 rfl rfl dX8_reload_57 ?_
      refine g_iload_n hF 1 rfl rfl dX8_reload_58 ?_
      obtain ⟨x14, h14, h⟩ := gbnd h
      refine g_callV hF my_X8_changedBindings kw_1014 kw_1016 kw_61 gC_8.1 (by decide) q0 (c_X8_changedBindings (d := d - 1) (by omega) q0 h14) (by omega) (Nat.zero_le _) (Nat.zero_le _) rfl rfl (Nat.le_of_ble_eq_true rfl) dX8_reload_59 (g_sameS ?_)
      refine g_isub hF dX8_reload_62 ?_
      cases h
      exact g_ret_i hF rfl rfl dX8_reload_63 (hR _ rfl) (Nat.zero_le _) (Nat.zero_le _)
    · replace h := gif_f c6 h
      cases h
      exact g_throw (text := "the library is loaded") (sa := gSB + 18) hF thr_RX8_173 (by decide +kernel) (Nat.le_of_ble_eq_true rfl) (by omega) (hX _ rfl).2.1 (hX _ rfl).2.2 (hX _ rfl).1 dX8_reload_20 dX8_reload_23 dX8_reload_24 dX8_reload_26 dX8_reload_29
theorem c_X8_reload {d : Nat} {T : gT} {M : gM} {m_a0 : Nat} {a0 : Nat} {i1 : Int32} {r : Int32 × gM} (hd : 7 ≤ d) (q0 : T[a0]? = some (8, m_a0)) (h : f_X8_reload T M a0 i1 = some (.inr r)) : gRet d yX8_reload cX8_reload 2 (some .int) 0 0 [.ref a0, .int i1] T M (gSame T (some (.int r.1)) r.2) := by
  refine gRet_of (own := RX8) (by decide) rfl (Nat.le_of_ble_eq_true rfl) (fun Z ad0 hn h0 hF => ?_)
  exact t_X8_reload hF hn hd q0 h (fun v9 q9 => by cases q9; exact ⟨rfl, rfl, rfl, rfl⟩) (fun k9 q9 => nomatch q9)
theorem cx_X8_reload {d : Nat} {T : gT} {M : gM} {m_a0 : Nat} {a0 : Nat} {i1 : Int32} {k : Nat} (hd : 7 ≤ d) (q0 : T[a0]? = some (8, m_a0)) (h : f_X8_reload T M a0 i1 = some (.inl k)) : gRetX d yX8_reload cX8_reload 2 (some .int) 1 6 [.ref a0, .int i1] T M k := by
  refine gRetX_of (own := RX8) (by decide) rfl (Nat.le_of_ble_eq_true rfl) (fun Z ad0 hn h0 hF => ?_)
  exact t_X8_reload hF hn hd q0 h (fun v9 q9 => nomatch q9) (fun k9 q9 => by cases q9; exact ⟨⟨rfl, rfl, rfl, rfl⟩, Nat.le_of_ble_eq_true rfl, Nat.le_of_ble_eq_true rfl⟩)
theorem t_X8_changeOffer {Z : gZ} {d mc ms : Nat} {Acc : Option Value → (Nat → Nat) → gT → gM → Prop} {AccX : Nat → (Nat → Nat) → gT → gM → Prop} {ad : Nat → Nat} {T : gT} {M : gM} {m_a0 : Nat} {a0 : Nat} {i1 : Int32} {i2 : Int32} {i3 : Int32} {o : Int32 × gM} (hF : gFix Z cX8_changeOffer RX8 "changeOffer" (some .int) d mc ms Acc AccX) (hn : Z.2.2.2.2.2.1 = 4) (hd : 6 ≤ d) (q0 : T[a0]? = some (8, m_a0)) (h : f_X8_changeOffer T M a0 i1 i2 i3 = some o) (hR : Acc (some (.int o.1)) ad T o.2) : gG Z ad T M 0 0 0 [(0, .ref a0), (1, .int i1), (2, .int i2), (3, .int i3)] [] := by
  unfold f_X8_changeOffer at h
  refine g_aload_n hF 0 rfl rfl dX8_changeOffer_0 ?_
  obtain ⟨x1, h1, h⟩ := gbnd h
  refine g_callV hF my_X8_beginChange kw_898 kw_900 kw_57 gC_8.1 (by decide) q0 (c_X8_beginChange (d := d - 1) (by omega) q0 h1) (by omega) (Nat.zero_le _) (Nat.zero_le _) rfl rfl (Nat.le_of_ble_eq_true rfl) dX8_changeOffer_1 (g_sameN ?_)
  refine g_aload_n hF 0 rfl rfl dX8_changeOffer_4 ?_
  obtain ⟨b2, h2, h⟩ := gbnd h
  obtain ⟨g2, l2, q_b2⟩ := ldr_sp h2
  refine g_get_r hF g2 fl_RX8_30 q0 dX8_changeOffer_5 ?_
  obtain ⟨b3, h3, h⟩ := gbnd h
  obtain ⟨g3, l3, q_b3⟩ := ldr_sp h3
  refine g_get_rN hF g3 fn_RX8_103 q_b2 dX8_changeOffer_8 ?_
  refine g_iload_n hF 1 rfl rfl dX8_changeOffer_11 ?_
  obtain ⟨b4, h4, h⟩ := gbnd h
  obtain ⟨i4h, g4, l4, q_b4⟩ := aldr_sp q_b3 h4
  refine g_aald hF q_b3 (Or.inr ⟨rfl, rfl⟩) i4h g4 dX8_changeOffer_12 ?_
  obtain ⟨b5, h5, h⟩ := gbnd h
  obtain ⟨g5, l5, q_b5⟩ := ldr_sp h5
  refine g_get_rN hF g5 fn_RX8_134 q_b4 dX8_changeOffer_13 ?_
  refine g_iload_n hF 2 rfl rfl dX8_changeOffer_16 ?_
  refine g_iload_n hF 3 rfl rfl dX8_changeOffer_17 ?_
  obtain ⟨M6, h6, h⟩ := gbnd h
  obtain ⟨i6h, e6v⟩ := ast_sp q_b5 h6
  refine g_iast hF q_b5 i6h dX8_changeOffer_18 ?_
  rw [← e6v]
  refine g_aload_n hF 0 rfl rfl dX8_changeOffer_19 ?_
  obtain ⟨b7, h7, h⟩ := gbnd h
  obtain ⟨g7, l7, q_b7⟩ := ldr_sp h7
  refine g_get_r hF g7 fl_RX8_37 q0 dX8_changeOffer_20 ?_
  refine g_aload_n hF 0 rfl rfl dX8_changeOffer_23 ?_
  obtain ⟨b8, h8, h⟩ := gbnd h
  obtain ⟨g8, l8, q_b8⟩ := ldr_sp h8
  refine g_get_r hF g8 fl_RX8_30 q0 dX8_changeOffer_24 ?_
  obtain ⟨x9, h9, h⟩ := gbnd h
  refine g_callVN hF my_X1_count kn_453 kw_455 kw_4 gC_1.1 (by decide) q_b7 (c_X1_count (d := d - 1) (by omega) q_b7 q_b8 h9) (by omega) (Nat.zero_le _) (Nat.zero_le _) rfl rfl (Nat.le_of_ble_eq_true rfl) dX8_changeOffer_27 (g_sameN ?_)
  refine g_aload_n hF 0 rfl rfl dX8_changeOffer_30 ?_
  obtain ⟨b10, h10, h⟩ := gbnd h
  obtain ⟨g10, l10, q_b10⟩ := ldr_sp h10
  refine g_get_r hF g10 fl_RX8_37 q0 dX8_changeOffer_31 ?_
  obtain ⟨b11, h11, h⟩ := gbnd h
  obtain ⟨g11, l11, q_b11⟩ := ldr_sp h11
  refine g_get_rN hF g11 fn_RX8_150 q_b10 dX8_changeOffer_34 ?_
  refine g_iload_n hF 2 rfl rfl dX8_changeOffer_37 ?_
  obtain ⟨v12, h12, h⟩ := gbnd h
  obtain ⟨i12h, e12v⟩ := ald_sp q_b11 h12
  refine g_iald hF q_b11 i12h dX8_changeOffer_38 ?_
  rw [← e12v]
  cases h
  exact g_ret_i hF rfl rfl dX8_changeOffer_39 hR (Nat.zero_le _) (Nat.zero_le _)
theorem c_X8_changeOffer {d : Nat} {T : gT} {M : gM} {m_a0 : Nat} {a0 : Nat} {i1 : Int32} {i2 : Int32} {i3 : Int32} {r : Int32 × gM} (hd : 6 ≤ d) (q0 : T[a0]? = some (8, m_a0)) (h : f_X8_changeOffer T M a0 i1 i2 i3 = some (r)) : gRet d yX8_changeOffer cX8_changeOffer 4 (some .int) 0 0 [.ref a0, .int i1, .int i2, .int i3] T M (gSame T (some (.int r.1)) r.2) := by
  refine gRet_of (own := RX8) (by decide) rfl (Nat.le_of_ble_eq_true rfl) (fun Z ad0 hn h0 hF => ?_)
  exact t_X8_changeOffer hF hn hd q0 h ⟨rfl, rfl, rfl, rfl⟩
