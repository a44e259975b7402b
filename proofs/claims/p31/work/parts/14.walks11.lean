theorem t_X8_changedBindingsOfAll_B4 {Z : gZ} {d mc ms : Nat} {Acc : Option Value → (Nat → Nat) → gT → gM → Prop} {AccX : Nat → (Nat → Nat) → gT → gM → Prop} {ad : Nat → Nat} {T : gT} {M : gM} {m_a0 : Nat} {a0 : Nat} {i1 : Int32} {i2 : Int32} {o : (Int32) ⊕ (Int32 × Int32)} (hF : gFix Z cX8_changedBindingsOfAll RX8 "changedBindingsOfAll" (some .int) d mc ms Acc AccX) (hn : Z.2.2.2.2.2.1 = 3) (hd : 3 ≤ d) (q0 : T[a0]? = some (8, m_a0)) (h : f_X8_changedBindingsOfAll_B4 T M a0 i1 i2 = some o) (hE : ∀ e9, o = .inl e9 → gG Z ad T M 0 0 29 [(1, .int e9)] []) (hN : ∀ n9, o = .inr n9 → gG Z ad T M 0 0 4 [(0, .ref a0), (1, .int n9.1), (2, .int n9.2)] []) : gG Z ad T M 0 0 4 [(0, .ref a0), (1, .int i1), (2, .int i2)] [] := by
  unfold f_X8_changedBindingsOfAll_B4 at h
  refine g_iload_n hF 2 rfl rfl dX8_changedBindingsOfAll_4 ?_
  refine g_aload_n hF 0 rfl rfl dX8_changedBindingsOfAll_5 ?_
  obtain ⟨b1, h1, h⟩ := gbnd h
  obtain ⟨g1, l1, q_b1⟩ := ldr_sp h1
  refine g_get_r hF g1 fl_RX8_30 q0 dX8_changedBindingsOfAll_6 ?_
  refine g_get_iN hF fn_RX8_91 q_b1 dX8_changedBindingsOfAll_9 ?_
  refine g_icmp_ge (tgt := 29) hF dX8_changedBindingsOfAll_12 (by decide) (fun c2 => ?_) (fun c2 => ?_)
  · replace h := gif_t c2 h
    exact gG_sub [1] rfl (hE _ (Option.some.inj h).symm)
  · replace h := gif_f c2 h
    refine g_iload_n hF 1 rfl rfl dX8_changedBindingsOfAll_15 ?_
    refine g_aload_n hF 0 rfl rfl dX8_changedBindingsOfAll_16 ?_
    refine g_iload_n hF 2 rfl rfl dX8_changedBindingsOfAll_17 ?_
    obtain ⟨x3, h3, h⟩ := gbnd h
    refine g_callV hF my_X8_changedBindings kw_1031 kw_1033 kw_60 gC_8.1 (by decide) q0 (c_X8_changedBindings (d := d - 1) (by omega) q0 h3) (by omega) (Nat.zero_le _) (Nat.zero_le _) rfl rfl (Nat.le_of_ble_eq_true rfl) dX8_changedBindingsOfAll_18 (g_sameS ?_)
    refine g_iadd hF dX8_changedBindingsOfAll_21 ?_
    refine g_istore_n (ls' := [(1, .int (i1 + x3)), (0, .ref a0), (2, .int i2)]) hF rfl (by rw [hn]; decide) rfl dX8_changedBindingsOfAll_22 ?_
    refine g_iinc (n := 1) (v := (i2 + (1 : Int32))) (ls' := [(2, .int (i2 + (1 : Int32))), (1, .int (i1 + x3)), (0, .ref a0)]) hF 2 rfl rfl (by rw [hn]; decide) rfl dX8_changedBindingsOfAll_23 ?_
    refine g_goto (tgt := 4) hF dX8_changedBindingsOfAll_26 (by decide) ?_
    exact gG_sub [2, 1, 0] rfl (hN _ (Option.some.inj h).symm)
theorem t_X8_changedBindingsOfAll_L4 {Z : gZ} {d mc ms : Nat} {Acc : Option Value → (Nat → Nat) → gT → gM → Prop} {AccX : Nat → (Nat → Nat) → gT → gM → Prop} {ad : Nat → Nat} {T : gT} {M : gM} {m_a0 : Nat} {a0 : Nat} {i1 : Int32} {i2 : Int32} {o : Int32} (hF : gFix Z cX8_changedBindingsOfAll RX8 "changedBindingsOfAll" (some .int) d mc ms Acc AccX) (hn : Z.2.2.2.2.2.1 = 3) (hd : 3 ≤ d) (q0 : T[a0]? = some (8, m_a0)) (h : gloop (fun x => f_X8_changedBindingsOfAll_B4 T M a0 x.1 x.2) gFU (i1, i2) = some o) (hE : gG Z ad T M 0 0 29 [(1, .int o)] []) : gG Z ad T M 0 0 4 [(0, .ref a0), (1, .int i1), (2, .int i2)] [] := by
  refine gloop_ind (P := fun x0 : Int32 × Int32 => gG Z ad T M 0 0 4 [(0, .ref a0), (1, .int x0.1), (2, .int x0.2)] []) (e := o) (fun x0 y hy hl hr => ?_) gFU (i1, i2) h
  exact t_X8_changedBindingsOfAll_B4 hF hn hd q0 hy (fun e9 q9 => by rw [hl _ q9]; exact hE) (fun n9 q9 => hr n9 q9)
theorem t_X8_changedBindingsOfAll {Z : gZ} {d mc ms : Nat} {Acc : Option Value → (Nat → Nat) → gT → gM → Prop} {AccX : Nat → (Nat → Nat) → gT → gM → Prop} {ad : Nat → Nat} {T : gT} {M : gM} {m_a0 : Nat} {a0 : Nat} {o : Int32} (hF : gFix Z cX8_changedBindingsOfAll RX8 "changedBindingsOfAll" (some .int) d mc ms Acc AccX) (hn : Z.2.2.2.2.2.1 = 3) (hd : 3 ≤ d) (q0 : T[a0]? = some (8, m_a0)) (h : f_X8_changedBindingsOfAll T M a0 = some o) (hR : Acc (some (.int o)) ad T M) : gG Z ad T M 0 0 0 [(0, .ref a0)] [] := by
  unfold f_X8_changedBindingsOfAll at h
  refine g_iconst (v := (0 : Int32)) hF rfl dX8_changedBindingsOfAll_0 ?_
  refine g_istore_n (ls' := [(1, .int (0 : Int32)), (0, .ref a0)]) hF rfl (by rw [hn]; decide) rfl dX8_changedBindingsOfAll_1 ?_
  refine g_iconst (v := (0 : Int32)) hF rfl dX8_changedBindingsOfAll_2 ?_
  refine g_istore_n (ls' := [(2, .int (0 : Int32)), (1, .int (0 : Int32)), (0, .ref a0)]) hF rfl (by rw [hn]; decide) rfl dX8_changedBindingsOfAll_3 ?_
  obtain ⟨x4, h4, h⟩ := gbnd h
  refine gG_sub [2, 1, 0] rfl (t_X8_changedBindingsOfAll_L4 hF hn hd q0 h4 ?_)
  refine g_iload_n hF 0 rfl rfl dX8_changedBindingsOfAll_29 ?_
  cases h
  exact g_ret_i hF rfl rfl dX8_changedBindingsOfAll_30 hR (Nat.zero_le _) (Nat.zero_le _)
theorem c_X8_changedBindingsOfAll {d : Nat} {T : gT} {M : gM} {m_a0 : Nat} {a0 : Nat} {r : Int32} (hd : 3 ≤ d) (q0 : T[a0]? = some (8, m_a0)) (h : f_X8_changedBindingsOfAll T M a0 = some (r)) : gRet d yX8_changedBindingsOfAll cX8_changedBindingsOfAll 3 (some .int) 0 0 [.ref a0] T M (gSame T (some (.int r)) M) := by
  refine gRet_of (own := RX8) (by decide) rfl (Nat.le_of_ble_eq_true rfl) (fun Z ad0 hn h0 hF => ?_)
  exact t_X8_changedBindingsOfAll hF hn hd q0 h ⟨rfl, rfl, rfl, rfl⟩
theorem t_X8_unload {Z : gZ} {d mc ms : Nat} {Acc : Option Value → (Nat → Nat) → gT → gM → Prop} {AccX : Nat → (Nat → Nat) → gT → gM → Prop} {ad : Nat → Nat} {T : gT} {M : gM} {m_a0 : Nat} {a0 : Nat} {i1 : Int32} {o : Nat ⊕ (Int32 × gM)} (hF : gFix Z cX8_unload RX8 "unload" (some .int) d mc ms Acc AccX) (hn : Z.2.2.2.2.2.1 = 2) (hd : 7 ≤ d) (q0 : T[a0]? = some (8, m_a0)) (h : f_X8_unload T M a0 i1 = some o) (hR : ∀ v9, o = .inr v9 → Acc (some (.int v9.1)) ad T v9.2) (hX : ∀ k9, o = .inl k9 → AccX k9 ad T M ∧ 1 ≤ mc ∧ 6 ≤ ms) : gG Z ad T M 0 0 0 [(0, .ref a0), (1, .int i1)] [] := by
  unfold f_X8_unload at h
  refine g_aload_n hF 0 rfl rfl dX8_unload_0 ?_
  refine g_iload_n hF 1 rfl rfl dX8_unload_1 ?_
  obtain ⟨x1, h1, h⟩ := gbnd h
  rcases x1 with k1 | r1
  · replace h := gcase_l h
    cases h
    exact g_callVX hF my_X8_requireLibrary kw_988 kw_990 kw_56 gC_8.1 (by decide) q0 (cx_X8_requireLibrary (d := d - 1) (by omega) q0 h1) (by omega) (by have q9 := (hX _ rfl).2; omega) (by have q9 := (hX _ rfl).2; omega) rfl rfl (Nat.le_of_ble_eq_true rfl) (hX _ rfl).1 dX8_unload_2
  · replace h := gcase_r h
    refine g_callV hF my_X8_requireLibrary kw_988 kw_990 kw_56 gC_8.1 (by decide) q0 (c_X8_requireLibrary (d := d - 1) (by omega) q0 h1) (by omega) (Nat.zero_le _) (Nat.zero_le _) rfl rfl (Nat.le_of_ble_eq_true rfl) dX8_unload_2 (g_sameN ?_)
    refine g_aload_n hF 0 rfl rfl dX8_unload_5 ?_
    obtain ⟨b2, h2, h⟩ := gbnd h
    obtain ⟨g2, l2, q_b2⟩ := ldr_sp h2
    refine g_get_r hF g2 fl_RX8_30 q0 dX8_unload_6 ?_
    obtain ⟨b3, h3, h⟩ := gbnd h
    obtain ⟨g3, l3, q_b3⟩ := ldr_sp h3
    refine g_get_rN hF g3 fn_RX8_103 q_b2 dX8_unload_9 ?_
    refine g_iload_n hF 1 rfl rfl dX8_unload_12 ?_
    obtain ⟨b4, h4, h⟩ := gbnd h
    obtain ⟨i4h, g4, l4, q_b4⟩ := aldr_sp q_b3 h4
    refine g_aald hF q_b3 (Or.inr (Or.inl ⟨rfl, rfl⟩)) i4h g4 dX8_unload_13 ?_
    obtain ⟨x5, h5, h⟩ := gbnd h
    refine g_callVN hF my_X3_isLoaded kn_979 kw_407 kw_4 gC_3.1 (by decide) q_b4 (c_X3_isLoaded (d := d - 1) (by omega) q_b4 h5) (by omega) (Nat.zero_le _) (Nat.zero_le _) rfl rfl (Nat.le_of_ble_eq_true rfl) dX8_unload_14 (g_sameS ?_)
    refine g_if_ne (tgt := 30) hF dX8_unload_17 (by decide) (fun c6 => ?_) (fun c6 => ?_)
    · replace h := gif_t c6 h
      refine g_aload_n hF 0 rfl rfl dX8_unload_30 ?_
      obtain ⟨x7, h7, h⟩ := gbnd h
      refine g_callV hF my_X8_beginChange kw_932 kw_934 kw_53 gC_8.1 (by decide) q0 (c_X8_beginChange (d := d - 1) (by omega) q0 h7) (by omega) (Nat.zero_le _) (Nat.zero_le _) rfl rfl (Nat.le_of_ble_eq_true rfl) dX8_unload_31 (g_sameN ?_)
      refine g_aload_n hF 0 rfl rfl dX8_unload_34 ?_
      obtain ⟨b8, h8, h⟩ := gbnd h
      obtain ⟨g8, l8, q_b8⟩ := ldr_sp h8
      refine g_get_r hF g8 fl_RX8_30 q0 dX8_unload_35 ?_
      refine g_iload_n hF 1 rfl rfl dX8_unload_38 ?_
      obtain ⟨x9, h9, h⟩ := gbnd h
      refine g_callVN hF my_X0_takeOut kn_1023 kw_1025 kw_58 gC_0.1 (by decide) q_b8 (c_X0_takeOut (d := d - 1) (by omega) q_b8 h9) (by omega) (Nat.zero_le _) (Nat.zero_le _) rfl rfl (Nat.le_of_ble_eq_true rfl) dX8_unload_39 (g_sameN ?_)
      refine g_aload_n hF 0 rfl rfl dX8_unload_42 ?_
      obtain ⟨b10, h10, h⟩ := gbnd h
      obtain ⟨g10, l10, q_b10⟩ := ldr_sp h10
      refine g_get_r hF g10 fl_RX8_37 q0 dX8_unload_43 ?_
      refine g_aload_n hF 0 rfl rfl dX8_unload_46 ?_
      obtain ⟨b11, h11, h⟩ := gbnd h
      obtain ⟨g11, l11, q_b11⟩ := ldr_sp h11
      refine g_get_r hF g11 fl_RX8_30 q0 dX8_unload_47 ?_
      obtain ⟨x12, h12, h⟩ := gbnd h
      refine g_callVN hF my_X1_count kn_401 kw_403 kw_3 gC_1.1 (by decide) q_b10 (c_X1_count (d := d - 1) (by omega) q_b10 q_b11 h12) (by omega) (Nat.zero_le _) (Nat.zero_le _) rfl rfl (Nat.le_of_ble_eq_true rfl) dX8_unload_50 (g_sameN ?_)
      refine g_aload_n hF 0 rfl rfl dX8_unload_53 ?_
      obtain ⟨x13, h13, h⟩ := gbnd h
      refine g_callV hF my_X8_changedBindingsOfAll kw_1027 kw_1029 kw_59 gC_8.1 (by decide) q0 (c_X8_changedBindingsOfAll (d := d - 1) (by omega) q0 h13) (by omega) (Nat.zero_le _) (Nat.zero_le _) rfl rfl (Nat.le_of_ble_eq_true rfl) dX8_unload_54 (g_sameS ?_)
      cases h
      exact g_ret_i hF rfl rfl dX8_unload_57 (hR _ rfl) (Nat.zero_le _) (Nat.zero_le _)
    · replace h := gif_n c6 h
      cases h
      exact g_throw (text := "the library is not loaded") (sa := gSB + 104) hF thr_RX8_173 (by decide +kernel) (Nat.le_of_ble_eq_true rfl) (by omega) (hX _ rfl).2.1 (hX _ rfl).2.2 (hX _ rfl).1 dX8_unload_20 dX8_unload_23 dX8_unload_24 dX8_unload_26 dX8_unload_29
theorem c_X8_unload {d : Nat} {T : gT} {M : gM} {m_a0 : Nat} {a0 : Nat} {i1 : Int32} {r : Int32 × gM} (hd : 7 ≤ d) (q0 : T[a0]? = some (8, m_a0)) (h : f_X8_unload T M a0 i1 = some (.inr r)) : gRet d yX8_unload cX8_unload 2 (some .int) 0 0 [.ref a0, .int i1] T M (gSame T (some (.int r.1)) r.2) := by
  refine gRet_of (own := RX8) (by decide) rfl (Nat.le_of_ble_eq_true rfl) (fun Z ad0 hn h0 hF => ?_)
  exact t_X8_unload hF hn hd q0 h (fun v9 q9 => by cases q9; exact ⟨rfl, rfl, rfl, rfl⟩) (fun k9 q9 => nomatch q9)
theorem cx_X8_unload {d : Nat} {T : gT} {M : gM} {m_a0 : Nat} {a0 : Nat} {i1 : Int32} {k : Nat} (hd : 7 ≤ d) (q0 : T[a0]? = some (8, m_a0)) (h : f_X8_unload T M a0 i1 = some (.inl k)) : gRetX d yX8_unload cX8_unload 2 (some .int) 1 6 [.ref a0, .int i1] T M k := by
  refine gRetX_of (own := RX8) (by decide) rfl (Nat.le_of_ble_eq_true rfl) (fun Z ad0 hn h0 hF => ?_)
  exact t_X8_unload hF hn hd q0 h (fun v9 q9 => nomatch q9) (fun k9 q9 => by cases q9; exact ⟨⟨rfl, rfl, rfl, rfl⟩, Nat.le_of_ble_eq_true rfl, Nat.le_of_ble_eq_true rfl⟩)
theorem t_X8_reload {Z : gZ} {d mc ms : Nat} {Acc : Option Value → (Nat → Nat) → gT → gM → Prop} {AccX : Nat → (Nat → Nat) → gT → gM → Prop} {ad : Nat → Nat} {T : gT} {M : gM} {m_a0 : Nat} {a0 : Nat} {i1 : Int32} {o : Nat ⊕ (Int32 × gM)} (hF : gFix Z cX8_reload RX8 "reload" (some .int) d mc ms Acc AccX) (hn : Z.2.2.2.2.2.1 = 2) (hd : 7 ≤ d) (q0 : T[a0]? = some (8, m_a0)) (h : f_X8_reload T M a0 i1 = some o) (hR : ∀ v9, o = .inr v9 → Acc (some (.int v9.1)) ad T v9.2) (hX : ∀ k9, o = .inl k9 → AccX k9 ad T M ∧ 1 ≤ mc ∧ 6 ≤ ms) : gG Z ad T M 0 0 0 [(0, .ref a0), (1, .int i1)] [] := by
  unfold f_X8_reload at h
  refine g_aload_n hF 0 rfl rfl dX8_reload_0 ?_
  refine g_iload_n hF 1 rfl rfl dX8_reload_1 ?_
  obtain ⟨x1, h1, h⟩ := gbnd h
  rcases x1 with k1 | r1
  · replace h := gcase_l h
    cases h
    exact g_callVX hF my_X8_requireLibrary kw_988 kw_990 kw_56 gC_8.1 (by decide) q0 (cx_X8_requireLibrary (d := d - 1) (by omega) q0 h1) (by omega) (by have q9 := (hX _ rfl).2; omega) (by have q9 := (hX _ rfl).2; omega) rfl rfl (Nat.le_of_ble_eq_true rfl) (hX _ rfl).1 dX8_reload_2
  · replace h := gcase_r h
    refine g_callV hF my_X8_requireLibrary kw_988 kw_990 kw_56 gC_8.1 (by decide) q0 (c_X8_requireLibrary (d := d - 1) (by omega) q0 h1) (by omega) (Nat.zero_le _) (Nat.zero_le _) rfl rfl (Nat.le_of_ble_eq_true rfl) dX8_reload_2 (g_sameN ?_)
    refine g_aload_n hF 0 rfl rfl dX8_reload_5 ?_
    obtain ⟨b2, h2, h⟩ := gbnd h
    obtain ⟨g2, l2, q_b2⟩ := ldr_sp h2
    refine g_get_r hF g2 fl_RX8_30 q0 dX8_reload_6 ?_
    obtain ⟨b3, h3, h⟩ := gbnd h
    obtain ⟨g3, l3, q_b3⟩ := ldr_sp h3
    refine g_get_rN hF g3 fn_RX8_103 q_b2 dX8_reload_9 ?_
    refine g_iload_n hF 1 rfl rfl dX8_reload_12 ?_
    obtain ⟨b4, h4, h⟩ := gbnd h
    obtain ⟨i4h, g4, l4, q_b4⟩ := aldr_sp q_b3 h4
    refine g_aald hF q_b3 (Or.inr (Or.inl ⟨rfl, rfl⟩)) i4h g4 dX8_reload_13 ?_
    obtain ⟨x5, h5, h⟩ := gbnd h
    refine g_callVN hF my_X3_isLoaded kn_979 kw_407 kw_4 gC_3.1 (by decide) q_b4 (c_X3_isLoaded (d := d - 1) (by omega) q_b4 h5) (by omega) (Nat.zero_le _) (Nat.zero_le _) rfl rfl (Nat.le_of_ble_eq_true rfl) dX8_reload_14 (g_sameS ?_)
    refine g_if_eq (tgt := 30) hF dX8_reload_17 (by decide) (fun c6 => ?_) (fun c6 => ?_)
    · replace h := gif_t c6 h
      refine g_aload_n hF 0 rfl rfl dX8_reload_30 ?_
      obtain ⟨x7, h7, h⟩ := gbnd h
      refine g_callV hF my_X8_beginChange kw_932 kw_934 kw_53 gC_8.1 (by decide) q0 (c_X8_beginChange (d := d - 1) (by omega) q0 h7) (by omega) (Nat.zero_le _) (Nat.zero_le _) rfl rfl (Nat.le_of_ble_eq_true rfl) dX8_reload_31 (g_sameN ?_)
      refine g_aload_n hF 0 rfl rfl dX8_reload_34 ?_
      obtain ⟨b8, h8, h⟩ := gbnd h
      obtain ⟨g8, l8, q_b8⟩ := ldr_sp h8
      refine g_get_r hF g8 fl_RX8_30 q0 dX8_reload_35 ?_
      refine g_iload_n hF 1 rfl rfl dX8_reload_38 ?_
      obtain ⟨x9, h9, h⟩ := gbnd h
      refine g_callVN hF my_X0_takeIn kn_1044 kw_1046 kw_61 gC_0.1 (by decide) q_b8 (c_X0_takeIn (d := d - 1) (by omega) q_b8 h9) (by omega) (Nat.zero_le _) (Nat.zero_le _) rfl rfl (Nat.le_of_ble_eq_true rfl) dX8_reload_39 (g_sameN ?_)
      refine g_aload_n hF 0 rfl rfl dX8_reload_42 ?_
      obtain ⟨b10, h10, h⟩ := gbnd h
      obtain ⟨g10, l10, q_b10⟩ := ldr_sp h10
      refine g_get_r hF g10 fl_RX8_37 q0 dX8_reload_43 ?_
      refine g_aload_n hF 0 rfl rfl dX8_reload_46 ?_
      obtain ⟨b11, h11, h⟩ := gbnd h
      obtain ⟨g11, l11, q_b11⟩ := ldr_sp h11
      refine g_get_r hF g11 fl_RX8_30 q0 dX8_reload_47 ?_
      obtain ⟨x12, h12, h⟩ := gbnd h
      refine g_callVN hF my_X1_count kn_401 kw_403 kw_3 gC_1.1 (by decide) q_b10 (c_X1_count (d := d - 1) (by omega) q_b10 q_b11 h12) (by omega) (Nat.zero_le _) (Nat.zero_le _) rfl rfl (Nat.le_of_ble_eq_true rfl) dX8_reload_50 (g_sameN ?_)
      refine g_aload_n hF 0 rfl rfl dX8_reload_53 ?_
      obtain ⟨x13, h13, h⟩ := gbnd h
      refine g_callV hF my_X8_changedBindingsOfAll kw_1027 kw_1029 kw_59 gC_8.1 (by decide) q0 (c_X8_changedBindingsOfAll (d := d - 1) (by omega) q0 h13) (by omega) (Nat.zero_le _) (Nat.zero_le _) rfl rfl (Nat.le_of_ble_eq_true rfl) dX8_reload_54 (g_sameS ?_)
      refine g_aload_n hF 0 rfl rfl dX8_reload_57 ?_
      refine g_iload_n hF 1 rfl rfl dX8_reload_58 ?_
      obtain ⟨x14, h14, h⟩ := gbnd h
      refine g_callV hF my_X8_changedBindings kw_1031 kw_1033 kw_60 gC_8.1 (by decide) q0 (c_X8_changedBindings (d := d - 1) (by omega) q0 h14) (by omega) (Nat.zero_le _) (Nat.zero_le _) rfl rfl (Nat.le_of_ble_eq_true rfl) dX8_reload_59 (g_sameS ?_)
      refine g_isub hF dX8_reload_62 ?_
      cases h
      exact g_ret_i hF rfl rfl dX8_reload_63 (hR _ rfl) (Nat.zero_le _) (Nat.zero_le _)
    · replace h := gif_f c6 h
      cases h
      exact g_throw (text := "the library is loaded") (sa := gSB + 105) hF thr_RX8_173 (by decide +kernel) (Nat.le_of_ble_eq_true rfl) (by omega) (hX _ rfl).2.1 (hX _ rfl).2.2 (hX _ rfl).1 dX8_reload_20 dX8_reload_23 dX8_reload_24 dX8_reload_26 dX8_reload_29
theorem c_X8_reload {d : Nat} {T : gT} {M : gM} {m_a0 : Nat} {a0 : Nat} {i1 : Int32} {r : Int32 × gM} (hd : 7 ≤ d) (q0 : T[a0]? = some (8, m_a0)) (h : f_X8_reload T M a0 i1 = some (.inr r)) : gRet d yX8_reload cX8_reload 2 (some .int) 0 0 [.ref a0, .int i1] T M (gSame T (some (.int r.1)) r.2) := by
  refine gRet_of (own := RX8) (by decide) rfl (Nat.le_of_ble_eq_true rfl) (fun Z ad0 hn h0 hF => ?_)
  exact t_X8_reload hF hn hd q0 h (fun v9 q9 => by cases q9; exact ⟨rfl, rfl, rfl, rfl⟩) (fun k9 q9 => nomatch q9)
theorem cx_X8_reload {d : Nat} {T : gT} {M : gM} {m_a0 : Nat} {a0 : Nat} {i1 : Int32} {k : Nat} (hd : 7 ≤ d) (q0 : T[a0]? = some (8, m_a0)) (h : f_X8_reload T M a0 i1 = some (.inl k)) : gRetX d yX8_reload cX8_reload 2 (some .int) 1 6 [.ref a0, .int i1] T M k := by
  refine gRetX_of (own := RX8) (by decide) rfl (Nat.le_of_ble_eq_true rfl) (fun Z ad0 hn h0 hF => ?_)
  exact t_X8_reload hF hn hd q0 h (fun v9 q9 => nomatch q9) (fun k9 q9 => by cases q9; exact ⟨⟨rfl, rfl, rfl, rfl⟩, Nat.le_of_ble_eq_true rfl, Nat.le_of_ble_eq_true rfl⟩)
theorem t_X8_changeOffer {Z : gZ} {d mc ms : Nat} {Acc : Option Value → (Nat → Nat) → gT → gM → Prop} {AccX : Nat → (Nat → Nat) → gT → gM → Prop} {ad : Nat → Nat} {T : gT} {M : gM} {m_a0 : Nat} {a0 : Nat} {i1 : Int32} {i2 : Int32} {i3 : Int32} {o : Int32 × gM} (hF : gFix Z cX8_changeOffer RX8 "changeOffer" (some .int) d mc ms Acc AccX) (hn : Z.2.2.2.2.2.1 = 4) (hd : 6 ≤ d) (q0 : T[a0]? = some (8, m_a0)) (h : f_X8_changeOffer T M a0 i1 i2 i3 = some o) (hR : Acc (some (.int o.1)) ad T o.2) : gG Z ad T M 0 0 0 [(0, .ref a0), (1, .int i1), (2, .int i2), (3, .int i3)] [] := by
  unfold f_X8_changeOffer at h
  refine g_aload_n hF 0 rfl rfl dX8_changeOffer_0 ?_
  obtain ⟨x1, h1, h⟩ := gbnd h
  refine g_callV hF my_X8_beginChange kw_932 kw_934 kw_53 gC_8.1 (by decide) q0 (c_X8_beginChange (d := d - 1) (by omega) q0 h1) (by omega) (Nat.zero_le _) (Nat.zero_le _) rfl rfl (Nat.le_of_ble_eq_true rfl) dX8_changeOffer_1 (g_sameN ?_)
  refine g_aload_n hF 0 rfl rfl dX8_changeOffer_4 ?_
  obtain ⟨b2, h2, h⟩ := gbnd h
  obtain ⟨g2, l2, q_b2⟩ := ldr_sp h2
  refine g_get_r hF g2 fl_RX8_30 q0 dX8_changeOffer_5 ?_
  obtain ⟨b3, h3, h⟩ := gbnd h
  obtain ⟨g3, l3, q_b3⟩ := ldr_sp h3
  refine g_get_rN hF g3 fn_RX8_103 q_b2 dX8_changeOffer_8 ?_
  refine g_iload_n hF 1 rfl rfl dX8_changeOffer_11 ?_
  obtain ⟨b4, h4, h⟩ := gbnd h
  obtain ⟨i4h, g4, l4, q_b4⟩ := aldr_sp q_b3 h4
  refine g_aald hF q_b3 (Or.inr (Or.inl ⟨rfl, rfl⟩)) i4h g4 dX8_changeOffer_12 ?_
  obtain ⟨b5, h5, h⟩ := gbnd h
  obtain ⟨g5, l5, q_b5⟩ := ldr_sp h5
  refine g_get_rN hF g5 fn_RX8_134 q_b4 dX8_changeOffer_13 ?_
  refine g_iload_n hF 2 rfl rfl dX8_changeOffer_16 ?_
  refine g_iload_n hF 3 rfl rfl dX8_changeOffer_17 ?_
  obtain ⟨M6, h6, h⟩ := gbnd h
  obtain ⟨i6h, e6v⟩ := ast_sp q_b5 h6
  refine g_iast hF q_b5 i6h dX8_changeOffer_18 ?_
  rw [← e6v]
  refine g_aload_n hF 0 rfl rfl dX8_changeOffer_19 ?_
  obtain ⟨b7, h7, h⟩ := gbnd h
  obtain ⟨g7, l7, q_b7⟩ := ldr_sp h7
  refine g_get_r hF g7 fl_RX8_37 q0 dX8_changeOffer_20 ?_
  refine g_aload_n hF 0 rfl rfl dX8_changeOffer_23 ?_
  obtain ⟨b8, h8, h⟩ := gbnd h
  obtain ⟨g8, l8, q_b8⟩ := ldr_sp h8
  refine g_get_r hF g8 fl_RX8_30 q0 dX8_changeOffer_24 ?_
  obtain ⟨x9, h9, h⟩ := gbnd h
  refine g_callVN hF my_X1_count kn_401 kw_403 kw_3 gC_1.1 (by decide) q_b7 (c_X1_count (d := d - 1) (by omega) q_b7 q_b8 h9) (by omega) (Nat.zero_le _) (Nat.zero_le _) rfl rfl (Nat.le_of_ble_eq_true rfl) dX8_changeOffer_27 (g_sameN ?_)
  refine g_aload_n hF 0 rfl rfl dX8_changeOffer_30 ?_
  obtain ⟨b10, h10, h⟩ := gbnd h
  obtain ⟨g10, l10, q_b10⟩ := ldr_sp h10
  refine g_get_r hF g10 fl_RX8_37 q0 dX8_changeOffer_31 ?_
  obtain ⟨b11, h11, h⟩ := gbnd h
  obtain ⟨g11, l11, q_b11⟩ := ldr_sp h11
  refine g_get_rN hF g11 fn_RX8_150 q_b10 dX8_changeOffer_34 ?_
  refine g_iload_n hF 2 rfl rfl dX8_changeOffer_37 ?_
  obtain ⟨v12, h12, h⟩ := gbnd h
  obtain ⟨i12h, e12v⟩ := ald_sp q_b11 h12
  refine g_iald hF q_b11 i12h dX8_changeOffer_38 ?_
  rw [← e12v]
  cases h
  exact g_ret_i hF rfl rfl dX8_changeOffer_39 hR (Nat.zero_le _) (Nat.zero_le _)
theorem c_X8_changeOffer {d : Nat} {T : gT} {M : gM} {m_a0 : Nat} {a0 : Nat} {i1 : Int32} {i2 : Int32} {i3 : Int32} {r : Int32 × gM} (hd : 6 ≤ d) (q0 : T[a0]? = some (8, m_a0)) (h : f_X8_changeOffer T M a0 i1 i2 i3 = some (r)) : gRet d yX8_changeOffer cX8_changeOffer 4 (some .int) 0 0 [.ref a0, .int i1, .int i2, .int i3] T M (gSame T (some (.int r.1)) r.2) := by
  refine gRet_of (own := RX8) (by decide) rfl (Nat.le_of_ble_eq_true rfl) (fun Z ad0 hn h0 hF => ?_)
  exact t_X8_changeOffer hF hn hd q0 h ⟨rfl, rfl, rfl, rfl⟩
theorem t_X8_offerValue_21 {Z : gZ} {d mc ms : Nat} {Acc : Option Value → (Nat → Nat) → gT → gM → Prop} {AccX : Nat → (Nat → Nat) → gT → gM → Prop} {ad : Nat → Nat} {T : gT} {M : gM} {o : Nat ⊕ (Int32 × gM)} (hF : gFix Z cX8_offerValue RX8 "offerValue" (some .int) d mc ms Acc AccX) (hn : Z.2.2.2.2.2.1 = 4) (hd : 7 ≤ d)  (h : f_X8_offerValue_21 T M  = some o) (hR : ∀ v9, o = .inr v9 → Acc (some (.int v9.1)) ad T v9.2) (hX : ∀ k9, o = .inl k9 → AccX k9 ad T M ∧ 1 ≤ mc ∧ 6 ≤ ms) : gG Z ad T M 0 0 21 [] [] := by
  unfold f_X8_offerValue_21 at h
  cases h
  exact g_throw (text := "value is not 0 to 9999") (sa := gSB + 106) hF thr_RX8_63 (by decide +kernel) (Nat.le_of_ble_eq_true rfl) (by omega) (hX _ rfl).2.1 (hX _ rfl).2.2 (hX _ rfl).1 dX8_offerValue_21 dX8_offerValue_24 dX8_offerValue_25 dX8_offerValue_27 dX8_offerValue_30
theorem t_X8_offerValue {Z : gZ} {d mc ms : Nat} {Acc : Option Value → (Nat → Nat) → gT → gM → Prop} {AccX : Nat → (Nat → Nat) → gT → gM → Prop} {ad : Nat → Nat} {T : gT} {M : gM} {m_a0 : Nat} {a0 : Nat} {i1 : Int32} {i2 : Int32} {i3 : Int32} {o : Nat ⊕ (Int32 × gM)} (hF : gFix Z cX8_offerValue RX8 "offerValue" (some .int) d mc ms Acc AccX) (hn : Z.2.2.2.2.2.1 = 4) (hd : 7 ≤ d) (q0 : T[a0]? = some (8, m_a0)) (h : f_X8_offerValue T M a0 i1 i2 i3 = some o) (hR : ∀ v9, o = .inr v9 → Acc (some (.int v9.1)) ad T v9.2) (hX : ∀ k9, o = .inl k9 → AccX k9 ad T M ∧ 1 ≤ mc ∧ 6 ≤ ms) : gG Z ad T M 0 0 0 [(0, .ref a0), (1, .int i1), (2, .int i2), (3, .int i3)] [] := by
  unfold f_X8_offerValue at h
  refine g_aload_n hF 0 rfl rfl dX8_offerValue_0 ?_
  refine g_iload_n hF 1 rfl rfl dX8_offerValue_1 ?_
  obtain ⟨x1, h1, h⟩ := gbnd h
  rcases x1 with k1 | r1
  · replace h := gcase_l h
    cases h
    exact g_callVX hF my_X8_requireLibrary kw_988 kw_990 kw_56 gC_8.1 (by decide) q0 (cx_X8_requireLibrary (d := d - 1) (by omega) q0 h1) (by omega) (by have q9 := (hX _ rfl).2; omega) (by have q9 := (hX _ rfl).2; omega) rfl rfl (Nat.le_of_ble_eq_true rfl) (hX _ rfl).1 dX8_offerValue_2
  · replace h := gcase_r h
    refine g_callV hF my_X8_requireLibrary kw_988 kw_990 kw_56 gC_8.1 (by decide) q0 (c_X8_requireLibrary (d := d - 1) (by omega) q0 h1) (by omega) (Nat.zero_le _) (Nat.zero_le _) rfl rfl (Nat.le_of_ble_eq_true rfl) dX8_offerValue_2 (g_sameN ?_)
    refine g_aload_n hF 0 rfl rfl dX8_offerValue_5 ?_
    refine g_iload_n hF 2 rfl rfl dX8_offerValue_6 ?_
    obtain ⟨x2, h2, h⟩ := gbnd h
    rcases x2 with k2 | r2
    · replace h := gcase_l h
      cases h
      exact g_callVX hF my_X8_requireName kw_951 kw_953 kw_55 gC_8.1 (by decide) q0 (cx_X8_requireName (d := d - 1) (by omega) q0 h2) (by omega) (by have q9 := (hX _ rfl).2; omega) (by have q9 := (hX _ rfl).2; omega) rfl rfl (Nat.le_of_ble_eq_true rfl) (hX _ rfl).1 dX8_offerValue_7
    · replace h := gcase_r h
      refine g_callV hF my_X8_requireName kw_951 kw_953 kw_55 gC_8.1 (by decide) q0 (c_X8_requireName (d := d - 1) (by omega) q0 h2) (by omega) (Nat.zero_le _) (Nat.zero_le _) rfl rfl (Nat.le_of_ble_eq_true rfl) dX8_offerValue_7 (g_sameN ?_)
      refine g_iload_n hF 3 rfl rfl dX8_offerValue_10 ?_
      refine g_if_lt (tgt := 21) hF dX8_offerValue_11 (by decide) (fun c3 => ?_) (fun c3 => ?_)
      · replace h := gif_t c3 h
        exact gG_sub [] rfl (t_X8_offerValue_21 hF hn hd  h hR hX)
      · replace h := gif_f c3 h
        refine g_iload_n hF 3 rfl rfl dX8_offerValue_14 ?_
        refine g_sipush (v := (9999 : Int32)) hF rfl dX8_offerValue_15 ?_
        refine g_icmp_le (tgt := 31) hF dX8_offerValue_18 (by decide) (fun c4 => ?_) (fun c4 => ?_)
        · replace h := gif_t c4 h
          refine g_aload_n hF 0 rfl rfl dX8_offerValue_31 ?_
          refine g_iload_n hF 1 rfl rfl dX8_offerValue_32 ?_
          refine g_iload_n hF 2 rfl rfl dX8_offerValue_33 ?_
          refine g_iload_n hF 3 rfl rfl dX8_offerValue_34 ?_
          obtain ⟨x5, h5, h⟩ := gbnd h
          refine g_callV hF my_X8_changeOffer kw_1056 kw_1058 kw_62 gC_8.1 (by decide) q0 (c_X8_changeOffer (d := d - 1) (by omega) q0 h5) (by omega) (Nat.zero_le _) (Nat.zero_le _) rfl rfl (Nat.le_of_ble_eq_true rfl) dX8_offerValue_35 (g_sameS ?_)
          cases h
          exact g_ret_i hF rfl rfl dX8_offerValue_38 (hR _ rfl) (Nat.zero_le _) (Nat.zero_le _)
        · replace h := gif_f c4 h
          exact gG_sub [] rfl (t_X8_offerValue_21 hF hn hd  h hR hX)
theorem c_X8_offerValue {d : Nat} {T : gT} {M : gM} {m_a0 : Nat} {a0 : Nat} {i1 : Int32} {i2 : Int32} {i3 : Int32} {r : Int32 × gM} (hd : 7 ≤ d) (q0 : T[a0]? = some (8, m_a0)) (h : f_X8_offerValue T M a0 i1 i2 i3 = some (.inr r)) : gRet d yX8_offerValue cX8_offerValue 4 (some .int) 0 0 [.ref a0, .int i1, .int i2, .int i3] T M (gSame T (some (.int r.1)) r.2) := by
  refine gRet_of (own := RX8) (by decide) rfl (Nat.le_of_ble_eq_true rfl) (fun Z ad0 hn h0 hF => ?_)
  exact t_X8_offerValue hF hn hd q0 h (fun v9 q9 => by cases q9; exact ⟨rfl, rfl, rfl, rfl⟩) (fun k9 q9 => nomatch q9)
theorem cx_X8_offerValue {d : Nat} {T : gT} {M : gM} {m_a0 : Nat} {a0 : Nat} {i1 : Int32} {i2 : Int32} {i3 : Int32} {k : Nat} (hd : 7 ≤ d) (q0 : T[a0]? = some (8, m_a0)) (h : f_X8_offerValue T M a0 i1 i2 i3 = some (.inl k)) : gRetX d yX8_offerValue cX8_offerValue 4 (some .int) 1 6 [.ref a0, .int i1, .int i2, .int i3] T M k := by
  refine gRetX_of (own := RX8) (by decide) rfl (Nat.le_of_ble_eq_true rfl) (fun Z ad0 hn h0 hF => ?_)
  exact t_X8_offerValue hF hn hd q0 h (fun v9 q9 => nomatch q9) (fun k9 q9 => by cases q9; exact ⟨⟨rfl, rfl, rfl, rfl⟩, Nat.le_of_ble_eq_true rfl, Nat.le_of_ble_eq_true rfl⟩)
theorem t_X8_offerForward {Z : gZ} {d mc ms : Nat} {Acc : Option Value → (Nat → Nat) → gT → gM → Prop} {AccX : Nat → (Nat → Nat) → gT → gM → Prop} {ad : Nat → Nat} {T : gT} {M : gM} {m_a0 : Nat} {a0 : Nat} {i1 : Int32} {i2 : Int32} {i3 : Int32} {o : Nat ⊕ (Int32 × gM)} (hF : gFix Z cX8_offerForward RX8 "offerForward" (some .int) d mc ms Acc AccX) (hn : Z.2.2.2.2.2.1 = 4) (hd : 7 ≤ d) (q0 : T[a0]? = some (8, m_a0)) (h : f_X8_offerForward T M a0 i1 i2 i3 = some o) (hR : ∀ v9, o = .inr v9 → Acc (some (.int v9.1)) ad T v9.2) (hX : ∀ k9, o = .inl k9 → AccX k9 ad T M ∧ 1 ≤ mc ∧ 6 ≤ ms) : gG Z ad T M 0 0 0 [(0, .ref a0), (1, .int i1), (2, .int i2), (3, .int i3)] [] := by
  unfold f_X8_offerForward at h
  refine g_aload_n hF 0 rfl rfl dX8_offerForward_0 ?_
  refine g_iload_n hF 1 rfl rfl dX8_offerForward_1 ?_
  obtain ⟨x1, h1, h⟩ := gbnd h
  rcases x1 with k1 | r1
  · replace h := gcase_l h
    cases h
    exact g_callVX hF my_X8_requireLibrary kw_988 kw_990 kw_56 gC_8.1 (by decide) q0 (cx_X8_requireLibrary (d := d - 1) (by omega) q0 h1) (by omega) (by have q9 := (hX _ rfl).2; omega) (by have q9 := (hX _ rfl).2; omega) rfl rfl (Nat.le_of_ble_eq_true rfl) (hX _ rfl).1 dX8_offerForward_2
  · replace h := gcase_r h
    refine g_callV hF my_X8_requireLibrary kw_988 kw_990 kw_56 gC_8.1 (by decide) q0 (c_X8_requireLibrary (d := d - 1) (by omega) q0 h1) (by omega) (Nat.zero_le _) (Nat.zero_le _) rfl rfl (Nat.le_of_ble_eq_true rfl) dX8_offerForward_2 (g_sameN ?_)
    refine g_aload_n hF 0 rfl rfl dX8_offerForward_5 ?_
    refine g_iload_n hF 2 rfl rfl dX8_offerForward_6 ?_
    obtain ⟨x2, h2, h⟩ := gbnd h
    rcases x2 with k2 | r2
    · replace h := gcase_l h
      cases h
      exact g_callVX hF my_X8_requireName kw_951 kw_953 kw_55 gC_8.1 (by decide) q0 (cx_X8_requireName (d := d - 1) (by omega) q0 h2) (by omega) (by have q9 := (hX _ rfl).2; omega) (by have q9 := (hX _ rfl).2; omega) rfl rfl (Nat.le_of_ble_eq_true rfl) (hX _ rfl).1 dX8_offerForward_7
    · replace h := gcase_r h
      refine g_callV hF my_X8_requireName kw_951 kw_953 kw_55 gC_8.1 (by decide) q0 (c_X8_requireName (d := d - 1) (by omega) q0 h2) (by omega) (Nat.zero_le _) (Nat.zero_le _) rfl rfl (Nat.le_of_ble_eq_true rfl) dX8_offerForward_7 (g_sameN ?_)
      refine g_aload_n hF 0 rfl rfl dX8_offerForward_10 ?_
      refine g_iload_n hF 3 rfl rfl dX8_offerForward_11 ?_
      obtain ⟨x3, h3, h⟩ := gbnd h
      rcases x3 with k3 | r3
      · replace h := gcase_l h
        cases h
        exact g_callVX hF my_X8_requireName kw_951 kw_953 kw_55 gC_8.1 (by decide) q0 (cx_X8_requireName (d := d - 1) (by omega) q0 h3) (by omega) (by have q9 := (hX _ rfl).2; omega) (by have q9 := (hX _ rfl).2; omega) rfl rfl (Nat.le_of_ble_eq_true rfl) (hX _ rfl).1 dX8_offerForward_12
      · replace h := gcase_r h
        refine g_callV hF my_X8_requireName kw_951 kw_953 kw_55 gC_8.1 (by decide) q0 (c_X8_requireName (d := d - 1) (by omega) q0 h3) (by omega) (Nat.zero_le _) (Nat.zero_le _) rfl rfl (Nat.le_of_ble_eq_true rfl) dX8_offerForward_12 (g_sameN ?_)
        refine g_aload_n hF 0 rfl rfl dX8_offerForward_15 ?_
        refine g_iload_n hF 1 rfl rfl dX8_offerForward_16 ?_
        refine g_iload_n hF 2 rfl rfl dX8_offerForward_17 ?_
        refine g_bipush (v := (-2 : Int32)) hF rfl dX8_offerForward_18 ?_
        refine g_iload_n hF 3 rfl rfl dX8_offerForward_20 ?_
        refine g_isub hF dX8_offerForward_21 ?_
        obtain ⟨x4, h4, h⟩ := gbnd h
        refine g_callV hF my_X8_changeOffer kw_1056 kw_1058 kw_62 gC_8.1 (by decide) q0 (c_X8_changeOffer (d := d - 1) (by omega) q0 h4) (by omega) (Nat.zero_le _) (Nat.zero_le _) rfl rfl (Nat.le_of_ble_eq_true rfl) dX8_offerForward_22 (g_sameS ?_)
        cases h
        exact g_ret_i hF rfl rfl dX8_offerForward_25 (hR _ rfl) (Nat.zero_le _) (Nat.zero_le _)
theorem c_X8_offerForward {d : Nat} {T : gT} {M : gM} {m_a0 : Nat} {a0 : Nat} {i1 : Int32} {i2 : Int32} {i3 : Int32} {r : Int32 × gM} (hd : 7 ≤ d) (q0 : T[a0]? = some (8, m_a0)) (h : f_X8_offerForward T M a0 i1 i2 i3 = some (.inr r)) : gRet d yX8_offerForward cX8_offerForward 4 (some .int) 0 0 [.ref a0, .int i1, .int i2, .int i3] T M (gSame T (some (.int r.1)) r.2) := by
  refine gRet_of (own := RX8) (by decide) rfl (Nat.le_of_ble_eq_true rfl) (fun Z ad0 hn h0 hF => ?_)
  exact t_X8_offerForward hF hn hd q0 h (fun v9 q9 => by cases q9; exact ⟨rfl, rfl, rfl, rfl⟩) (fun k9 q9 => nomatch q9)
theorem cx_X8_offerForward {d : Nat} {T : gT} {M : gM} {m_a0 : Nat} {a0 : Nat} {i1 : Int32} {i2 : Int32} {i3 : Int32} {k : Nat} (hd : 7 ≤ d) (q0 : T[a0]? = some (8, m_a0)) (h : f_X8_offerForward T M a0 i1 i2 i3 = some (.inl k)) : gRetX d yX8_offerForward cX8_offerForward 4 (some .int) 1 6 [.ref a0, .int i1, .int i2, .int i3] T M k := by
  refine gRetX_of (own := RX8) (by decide) rfl (Nat.le_of_ble_eq_true rfl) (fun Z ad0 hn h0 hF => ?_)
  exact t_X8_offerForward hF hn hd q0 h (fun v9 q9 => nomatch q9) (fun k9 q9 => by cases q9; exact ⟨⟨rfl, rfl, rfl, rfl⟩, Nat.le_of_ble_eq_true rfl, Nat.le_of_ble_eq_true rfl⟩)
theorem t_X8_withdraw {Z : gZ} {d mc ms : Nat} {Acc : Option Value → (Nat → Nat) → gT → gM → Prop} {AccX : Nat → (Nat → Nat) → gT → gM → Prop} {ad : Nat → Nat} {T : gT} {M : gM} {m_a0 : Nat} {a0 : Nat} {i1 : Int32} {i2 : Int32} {o : Nat ⊕ (Int32 × gM)} (hF : gFix Z cX8_withdraw RX8 "withdraw" (some .int) d mc ms Acc AccX) (hn : Z.2.2.2.2.2.1 = 3) (hd : 7 ≤ d) (q0 : T[a0]? = some (8, m_a0)) (h : f_X8_withdraw T M a0 i1 i2 = some o) (hR : ∀ v9, o = .inr v9 → Acc (some (.int v9.1)) ad T v9.2) (hX : ∀ k9, o = .inl k9 → AccX k9 ad T M ∧ 1 ≤ mc ∧ 6 ≤ ms) : gG Z ad T M 0 0 0 [(0, .ref a0), (1, .int i1), (2, .int i2)] [] := by
  unfold f_X8_withdraw at h
  refine g_aload_n hF 0 rfl rfl dX8_withdraw_0 ?_
  refine g_iload_n hF 1 rfl rfl dX8_withdraw_1 ?_
  obtain ⟨x1, h1, h⟩ := gbnd h
  rcases x1 with k1 | r1
  · replace h := gcase_l h
    cases h
    exact g_callVX hF my_X8_requireLibrary kw_988 kw_990 kw_56 gC_8.1 (by decide) q0 (cx_X8_requireLibrary (d := d - 1) (by omega) q0 h1) (by omega) (by have q9 := (hX _ rfl).2; omega) (by have q9 := (hX _ rfl).2; omega) rfl rfl (Nat.le_of_ble_eq_true rfl) (hX _ rfl).1 dX8_withdraw_2
  · replace h := gcase_r h
    refine g_callV hF my_X8_requireLibrary kw_988 kw_990 kw_56 gC_8.1 (by decide) q0 (c_X8_requireLibrary (d := d - 1) (by omega) q0 h1) (by omega) (Nat.zero_le _) (Nat.zero_le _) rfl rfl (Nat.le_of_ble_eq_true rfl) dX8_withdraw_2 (g_sameN ?_)
    refine g_aload_n hF 0 rfl rfl dX8_withdraw_5 ?_
    refine g_iload_n hF 2 rfl rfl dX8_withdraw_6 ?_
    obtain ⟨x2, h2, h⟩ := gbnd h
    rcases x2 with k2 | r2
    · replace h := gcase_l h
      cases h
      exact g_callVX hF my_X8_requireName kw_951 kw_953 kw_55 gC_8.1 (by decide) q0 (cx_X8_requireName (d := d - 1) (by omega) q0 h2) (by omega) (by have q9 := (hX _ rfl).2; omega) (by have q9 := (hX _ rfl).2; omega) rfl rfl (Nat.le_of_ble_eq_true rfl) (hX _ rfl).1 dX8_withdraw_7
    · replace h := gcase_r h
      refine g_callV hF my_X8_requireName kw_951 kw_953 kw_55 gC_8.1 (by decide) q0 (c_X8_requireName (d := d - 1) (by omega) q0 h2) (by omega) (Nat.zero_le _) (Nat.zero_le _) rfl rfl (Nat.le_of_ble_eq_true rfl) dX8_withdraw_7 (g_sameN ?_)
      refine g_aload_n hF 0 rfl rfl dX8_withdraw_10 ?_
      obtain ⟨b3, h3, h⟩ := gbnd h
      obtain ⟨g3, l3, q_b3⟩ := ldr_sp h3
      refine g_get_r hF g3 fl_RX8_30 q0 dX8_withdraw_11 ?_
      obtain ⟨b4, h4, h⟩ := gbnd h
      obtain ⟨g4, l4, q_b4⟩ := ldr_sp h4
      refine g_get_rN hF g4 fn_RX8_103 q_b3 dX8_withdraw_14 ?_
      refine g_iload_n hF 1 rfl rfl dX8_withdraw_17 ?_
      obtain ⟨b5, h5, h⟩ := gbnd h
      obtain ⟨i5h, g5, l5, q_b5⟩ := aldr_sp q_b4 h5
      refine g_aald hF q_b4 (Or.inr (Or.inl ⟨rfl, rfl⟩)) i5h g5 dX8_withdraw_18 ?_
      refine g_iload_n hF 2 rfl rfl dX8_withdraw_19 ?_
      obtain ⟨x6, h6, h⟩ := gbnd h
      refine g_callVN hF my_X3_hasOffer kn_1074 kw_419 kw_7 gC_3.1 (by decide) q_b5 (c_X3_hasOffer (d := d - 1) (by omega) q_b5 h6) (by omega) (Nat.zero_le _) (Nat.zero_le _) rfl rfl (Nat.le_of_ble_eq_true rfl) dX8_withdraw_20 (g_sameS ?_)
      refine g_if_ne (tgt := 36) hF dX8_withdraw_23 (by decide) (fun c7 => ?_) (fun c7 => ?_)
      · replace h := gif_t c7 h
        refine g_aload_n hF 0 rfl rfl dX8_withdraw_36 ?_
        refine g_iload_n hF 1 rfl rfl dX8_withdraw_37 ?_
        refine g_iload_n hF 2 rfl rfl dX8_withdraw_38 ?_
        refine g_iconst (v := (-1 : Int32)) hF rfl dX8_withdraw_39 ?_
        obtain ⟨x8, h8, h⟩ := gbnd h
        refine g_callV hF my_X8_changeOffer kw_1056 kw_1058 kw_62 gC_8.1 (by decide) q0 (c_X8_changeOffer (d := d - 1) (by omega) q0 h8) (by omega) (Nat.zero_le _) (Nat.zero_le _) rfl rfl (Nat.le_of_ble_eq_true rfl) dX8_withdraw_40 (g_sameS ?_)
        cases h
        exact g_ret_i hF rfl rfl dX8_withdraw_43 (hR _ rfl) (Nat.zero_le _) (Nat.zero_le _)
      · replace h := gif_n c7 h
        cases h
        exact g_throw (text := "the library does not offer this name") (sa := gSB + 107) hF thr_RX8_173 (by decide +kernel) (Nat.le_of_ble_eq_true rfl) (by omega) (hX _ rfl).2.1 (hX _ rfl).2.2 (hX _ rfl).1 dX8_withdraw_26 dX8_withdraw_29 dX8_withdraw_30 dX8_withdraw_32 dX8_withdraw_35
theorem c_X8_withdraw {d : Nat} {T : gT} {M : gM} {m_a0 : Nat} {a0 : Nat} {i1 : Int32} {i2 : Int32} {r : Int32 × gM} (hd : 7 ≤ d) (q0 : T[a0]? = some (8, m_a0)) (h : f_X8_withdraw T M a0 i1 i2 = some (.inr r)) : gRet d yX8_withdraw cX8_withdraw 3 (some .int) 0 0 [.ref a0, .int i1, .int i2] T M (gSame T (some (.int r.1)) r.2) := by
  refine gRet_of (own := RX8) (by decide) rfl (Nat.le_of_ble_eq_true rfl) (fun Z ad0 hn h0 hF => ?_)
  exact t_X8_withdraw hF hn hd q0 h (fun v9 q9 => by cases q9; exact ⟨rfl, rfl, rfl, rfl⟩) (fun k9 q9 => nomatch q9)
theorem cx_X8_withdraw {d : Nat} {T : gT} {M : gM} {m_a0 : Nat} {a0 : Nat} {i1 : Int32} {i2 : Int32} {k : Nat} (hd : 7 ≤ d) (q0 : T[a0]? = some (8, m_a0)) (h : f_X8_withdraw T M a0 i1 i2 = some (.inl k)) : gRetX d yX8_withdraw cX8_withdraw 3 (some .int) 1 6 [.ref a0, .int i1, .int i2] T M k := by
  refine gRetX_of (own := RX8) (by decide) rfl (Nat.le_of_ble_eq_true rfl) (fun Z ad0 hn h0 hF => ?_)
  exact t_X8_withdraw hF hn hd q0 h (fun v9 q9 => nomatch q9) (fun k9 q9 => by cases q9; exact ⟨⟨rfl, rfl, rfl, rfl⟩, Nat.le_of_ble_eq_true rfl, Nat.le_of_ble_eq_true rfl⟩)
theorem t_X8_setTrust_16 {Z : gZ} {d mc ms : Nat} {Acc : Option Value → (Nat → Nat) → gT → gM → Prop} {AccX : Nat → (Nat → Nat) → gT → gM → Prop} {ad : Nat → Nat} {T : gT} {M : gM} {o : Nat ⊕ (Int32 × gM)} (hF : gFix Z cX8_setTrust RX8 "setTrust" (some .int) d mc ms Acc AccX) (hn : Z.2.2.2.2.2.1 = 4) (hd : 7 ≤ d)  (h : f_X8_setTrust_16 T M  = some o) (hR : ∀ v9, o = .inr v9 → Acc (some (.int v9.1)) ad T v9.2) (hX : ∀ k9, o = .inl k9 → AccX k9 ad T M ∧ 1 ≤ mc ∧ 6 ≤ ms) : gG Z ad T M 0 0 16 [] [] := by
  unfold f_X8_setTrust_16 at h
  cases h
  exact g_throw (text := "trust is not 0 to 999") (sa := gSB + 108) hF thr_RX8_63 (by decide +kernel) (Nat.le_of_ble_eq_true rfl) (by omega) (hX _ rfl).2.1 (hX _ rfl).2.2 (hX _ rfl).1 dX8_setTrust_16 dX8_setTrust_19 dX8_setTrust_20 dX8_setTrust_22 dX8_setTrust_25
theorem t_X8_setTrust {Z : gZ} {d mc ms : Nat} {Acc : Option Value → (Nat → Nat) → gT → gM → Prop} {AccX : Nat → (Nat → Nat) → gT → gM → Prop} {ad : Nat → Nat} {T : gT} {M : gM} {m_a0 : Nat} {a0 : Nat} {i1 : Int32} {i2 : Int32} {o : Nat ⊕ (Int32 × gM)} (hF : gFix Z cX8_setTrust RX8 "setTrust" (some .int) d mc ms Acc AccX) (hn : Z.2.2.2.2.2.1 = 4) (hd : 7 ≤ d) (q0 : T[a0]? = some (8, m_a0)) (h : f_X8_setTrust T M a0 i1 i2 = some o) (hR : ∀ v9, o = .inr v9 → Acc (some (.int v9.1)) ad T v9.2) (hX : ∀ k9, o = .inl k9 → AccX k9 ad T M ∧ 1 ≤ mc ∧ 6 ≤ ms) : gG Z ad T M 0 0 0 [(0, .ref a0), (1, .int i1), (2, .int i2)] [] := by
  unfold f_X8_setTrust at h
  refine g_aload_n hF 0 rfl rfl dX8_setTrust_0 ?_
  refine g_iload_n hF 1 rfl rfl dX8_setTrust_1 ?_
  obtain ⟨x1, h1, h⟩ := gbnd h
  rcases x1 with k1 | r1
  · replace h := gcase_l h
    cases h
    exact g_callVX hF my_X8_requireLibrary kw_988 kw_990 kw_56 gC_8.1 (by decide) q0 (cx_X8_requireLibrary (d := d - 1) (by omega) q0 h1) (by omega) (by have q9 := (hX _ rfl).2; omega) (by have q9 := (hX _ rfl).2; omega) rfl rfl (Nat.le_of_ble_eq_true rfl) (hX _ rfl).1 dX8_setTrust_2
  · replace h := gcase_r h
    refine g_callV hF my_X8_requireLibrary kw_988 kw_990 kw_56 gC_8.1 (by decide) q0 (c_X8_requireLibrary (d := d - 1) (by omega) q0 h1) (by omega) (Nat.zero_le _) (Nat.zero_le _) rfl rfl (Nat.le_of_ble_eq_true rfl) dX8_setTrust_2 (g_sameN ?_)
    refine g_iload_n hF 2 rfl rfl dX8_setTrust_5 ?_
    refine g_if_lt (tgt := 16) hF dX8_setTrust_6 (by decide) (fun c2 => ?_) (fun c2 => ?_)
    · replace h := gif_t c2 h
      exact gG_sub [] rfl (t_X8_setTrust_16 hF hn hd  h hR hX)
    · replace h := gif_f c2 h
      refine g_iload_n hF 2 rfl rfl dX8_setTrust_9 ?_
      refine g_sipush (v := (999 : Int32)) hF rfl dX8_setTrust_10 ?_
      refine g_icmp_le (tgt := 26) hF dX8_setTrust_13 (by decide) (fun c3 => ?_) (fun c3 => ?_)
      · replace h := gif_t c3 h
        refine g_aload_n hF 0 rfl rfl dX8_setTrust_26 ?_
        obtain ⟨x4, h4, h⟩ := gbnd h
        refine g_callV hF my_X8_beginChange kw_932 kw_934 kw_53 gC_8.1 (by decide) q0 (c_X8_beginChange (d := d - 1) (by omega) q0 h4) (by omega) (Nat.zero_le _) (Nat.zero_le _) rfl rfl (Nat.le_of_ble_eq_true rfl) dX8_setTrust_27 (g_sameN ?_)
        refine g_aload_n hF 0 rfl rfl dX8_setTrust_30 ?_
        obtain ⟨b5, h5, h⟩ := gbnd h
        obtain ⟨g5, l5, q_b5⟩ := ldr_sp h5
        refine g_get_r hF g5 fl_RX8_30 q0 dX8_setTrust_31 ?_
        obtain ⟨b6, h6, h⟩ := gbnd h
        obtain ⟨g6, l6, q_b6⟩ := ldr_sp h6
        refine g_get_rN hF g6 fn_RX8_103 q_b5 dX8_setTrust_34 ?_
        refine g_iload_n hF 1 rfl rfl dX8_setTrust_37 ?_
        obtain ⟨b7, h7, h⟩ := gbnd h
        obtain ⟨i7h, g7, l7, q_b7⟩ := aldr_sp q_b6 h7
        refine g_aald hF q_b6 (Or.inr (Or.inl ⟨rfl, rfl⟩)) i7h g7 dX8_setTrust_38 ?_
        refine g_get_iN hF fn_RX8_107 q_b7 dX8_setTrust_39 ?_
        refine g_istore_n (ls' := [(3, .int (gi x4 b7 0)), (0, .ref a0), (1, .int i1), (2, .int i2)]) hF rfl (by rw [hn]; decide) rfl dX8_setTrust_42 ?_
        refine g_aload_n hF 1 rfl rfl dX8_setTrust_43 ?_
        obtain ⟨b8, h8, h⟩ := gbnd h
        obtain ⟨g8, l8, q_b8⟩ := ldr_sp h8
        refine g_get_r hF g8 fl_RX8_30 q0 dX8_setTrust_44 ?_
        obtain ⟨b9, h9, h⟩ := gbnd h
        obtain ⟨g9, l9, q_b9⟩ := ldr_sp h9
        refine g_get_rN hF g9 fn_RX8_103 q_b8 dX8_setTrust_47 ?_
        refine g_iload_n hF 2 rfl rfl dX8_setTrust_50 ?_
        obtain ⟨b10, h10, h⟩ := gbnd h
        obtain ⟨i10h, g10, l10, q_b10⟩ := aldr_sp q_b9 h10
        refine g_aald hF q_b9 (Or.inr (Or.inl ⟨rfl, rfl⟩)) i10h g10 dX8_setTrust_51 ?_
        refine g_iload_n hF 3 rfl rfl dX8_setTrust_52 ?_
        refine g_putN_i hF rfl rfl fn_RX8_107 q_b10 dX8_setTrust_53 ?_
        refine g_aload_n hF 1 rfl rfl dX8_setTrust_56 ?_
        obtain ⟨b11, h11, h⟩ := gbnd h
        obtain ⟨g11, l11, q_b11⟩ := ldr_sp h11
        refine g_get_r hF g11 fl_RX8_37 q0 dX8_setTrust_57 ?_
        refine g_aload_n hF 1 rfl rfl dX8_setTrust_60 ?_
        obtain ⟨b12, h12, h⟩ := gbnd h
        obtain ⟨g12, l12, q_b12⟩ := ldr_sp h12
        refine g_get_r hF g12 fl_RX8_30 q0 dX8_setTrust_61 ?_
        obtain ⟨x13, h13, h⟩ := gbnd h
        refine g_callVN hF my_X1_count kn_401 kw_403 kw_3 gC_1.1 (by decide) q_b11 (c_X1_count (d := d - 1) (by omega) q_b11 q_b12 h13) (by omega) (Nat.zero_le _) (Nat.zero_le _) rfl rfl (Nat.le_of_ble_eq_true rfl) dX8_setTrust_64 (g_sameN ?_)
        refine g_iload_n hF 0 rfl rfl dX8_setTrust_67 ?_
        cases h
        exact g_ret_i hF rfl rfl dX8_setTrust_68 (hR _ rfl) (Nat.zero_le _) (Nat.zero_le _)
      · replace h := gif_f c3 h
        exact gG_sub [] rfl (t_X8_setTrust_16 hF hn hd  h hR hX)
theorem c_X8_setTrust {d : Nat} {T : gT} {M : gM} {m_a0 : Nat} {a0 : Nat} {i1 : Int32} {i2 : Int32} {r : Int32 × gM} (hd : 7 ≤ d) (q0 : T[a0]? = some (8, m_a0)) (h : f_X8_setTrust T M a0 i1 i2 = some (.inr r)) : gRet d yX8_setTrust cX8_setTrust 4 (some .int) 0 0 [.ref a0, .int i1, .int i2] T M (gSame T (some (.int r.1)) r.2) := by
  refine gRet_of (own := RX8) (by decide) rfl (Nat.le_of_ble_eq_true rfl) (fun Z ad0 hn h0 hF => ?_)
  exact t_X8_setTrust hF hn hd q0 h (fun v9 q9 => by cases q9; exact ⟨rfl, rfl, rfl, rfl⟩) (fun k9 q9 => nomatch q9)
theorem cx_X8_setTrust {d : Nat} {T : gT} {M : gM} {m_a0 : Nat} {a0 : Nat} {i1 : Int32} {i2 : Int32} {k : Nat} (hd : 7 ≤ d) (q0 : T[a0]? = some (8, m_a0)) (h : f_X8_setTrust T M a0 i1 i2 = some (.inl k)) : gRetX d yX8_setTrust cX8_setTrust 4 (some .int) 1 6 [.ref a0, .int i1, .int i2] T M k := by
  refine gRetX_of (own := RX8) (by decide) rfl (Nat.le_of_ble_eq_true rfl) (fun Z ad0 hn h0 hF => ?_)
  exact t_X8_setTrust hF hn hd q0 h (fun v9 q9 => nomatch q9) (fun k9 q9 => by cases q9; exact ⟨⟨rfl, rfl, rfl, rfl⟩, Nat.le_of_ble_eq_true rfl, Nat.le_of_ble_eq_true rfl⟩)
theorem t_X8_setKeeps {Z : gZ} {d mc ms : Nat} {Acc : Option Value → (Nat → Nat) → gT → gM → Prop} {AccX : Nat → (Nat → Nat) → gT → gM → Prop} {ad : Nat → Nat} {T : gT} {M : gM} {m_a0 : Nat} {a0 : Nat} {i1 : Int32} {i2 : Int32} {o : Nat ⊕ (Int32 × gM)} (hF : gFix Z cX8_setKeeps RX8 "setKeeps" (some .int) d mc ms Acc AccX) (hn : Z.2.2.2.2.2.1 = 3) (hd : 7 ≤ d) (q0 : T[a0]? = some (8, m_a0)) (h : f_X8_setKeeps T M a0 i1 i2 = some o) (hR : ∀ v9, o = .inr v9 → Acc (some (.int v9.1)) ad T v9.2) (hX : ∀ k9, o = .inl k9 → AccX k9 ad T M ∧ 1 ≤ mc ∧ 6 ≤ ms) : gG Z ad T M 0 0 0 [(0, .ref a0), (1, .int i1), (2, .int i2)] [] := by
  unfold f_X8_setKeeps at h
  refine g_aload_n hF 0 rfl rfl dX8_setKeeps_0 ?_
  refine g_iload_n hF 1 rfl rfl dX8_setKeeps_1 ?_
  obtain ⟨x1, h1, h⟩ := gbnd h
  rcases x1 with k1 | r1
  · replace h := gcase_l h
    cases h
    exact g_callVX hF my_X8_requireLibrary kw_988 kw_990 kw_56 gC_8.1 (by decide) q0 (cx_X8_requireLibrary (d := d - 1) (by omega) q0 h1) (by omega) (by have q9 := (hX _ rfl).2; omega) (by have q9 := (hX _ rfl).2; omega) rfl rfl (Nat.le_of_ble_eq_true rfl) (hX _ rfl).1 dX8_setKeeps_2
  · replace h := gcase_r h
    refine g_callV hF my_X8_requireLibrary kw_988 kw_990 kw_56 gC_8.1 (by decide) q0 (c_X8_requireLibrary (d := d - 1) (by omega) q0 h1) (by omega) (Nat.zero_le _) (Nat.zero_le _) rfl rfl (Nat.le_of_ble_eq_true rfl) dX8_setKeeps_2 (g_sameN ?_)
    refine g_aload_n hF 0 rfl rfl dX8_setKeeps_5 ?_
    obtain ⟨x2, h2, h⟩ := gbnd h
    refine g_callV hF my_X8_beginChange kw_932 kw_934 kw_53 gC_8.1 (by decide) q0 (c_X8_beginChange (d := d - 1) (by omega) q0 h2) (by omega) (Nat.zero_le _) (Nat.zero_le _) rfl rfl (Nat.le_of_ble_eq_true rfl) dX8_setKeeps_6 (g_sameN ?_)
    refine g_aload_n hF 0 rfl rfl dX8_setKeeps_9 ?_
    obtain ⟨b3, h3, h⟩ := gbnd h
    obtain ⟨g3, l3, q_b3⟩ := ldr_sp h3
    refine g_get_r hF g3 fl_RX8_30 q0 dX8_setKeeps_10 ?_
    obtain ⟨b4, h4, h⟩ := gbnd h
    obtain ⟨g4, l4, q_b4⟩ := ldr_sp h4
    refine g_get_rN hF g4 fn_RX8_103 q_b3 dX8_setKeeps_13 ?_
    refine g_iload_n hF 1 rfl rfl dX8_setKeeps_16 ?_
    obtain ⟨b5, h5, h⟩ := gbnd h
    obtain ⟨i5h, g5, l5, q_b5⟩ := aldr_sp q_b4 h5
    refine g_aald hF q_b4 (Or.inr (Or.inl ⟨rfl, rfl⟩)) i5h g5 dX8_setKeeps_17 ?_
    refine g_iload_n hF 2 rfl rfl dX8_setKeeps_18 ?_
    obtain ⟨_, h6, h⟩ := gbnd h
    refine g_putN_i hF (gbool (chk_sp h6)) (gboolf (chk_sp h6)) fn_RX8_112 q_b5 dX8_setKeeps_19 ?_
    refine g_aload_n hF 0 rfl rfl dX8_setKeeps_22 ?_
    obtain ⟨b7, h7, h⟩ := gbnd h
    obtain ⟨g7, l7, q_b7⟩ := ldr_sp h7
    refine g_get_r hF g7 fl_RX8_37 q0 dX8_setKeeps_23 ?_
    refine g_aload_n hF 0 rfl rfl dX8_setKeeps_26 ?_
    obtain ⟨b8, h8, h⟩ := gbnd h
    obtain ⟨g8, l8, q_b8⟩ := ldr_sp h8
    refine g_get_r hF g8 fl_RX8_30 q0 dX8_setKeeps_27 ?_
    obtain ⟨x9, h9, h⟩ := gbnd h
    refine g_callVN hF my_X1_count kn_401 kw_403 kw_3 gC_1.1 (by decide) q_b7 (c_X1_count (d := d - 1) (by omega) q_b7 q_b8 h9) (by omega) (Nat.zero_le _) (Nat.zero_le _) rfl rfl (Nat.le_of_ble_eq_true rfl) dX8_setKeeps_30 (g_sameN ?_)
    refine g_aload_n hF 0 rfl rfl dX8_setKeeps_33 ?_
    refine g_iload_n hF 1 rfl rfl dX8_setKeeps_34 ?_
    obtain ⟨x10, h10, h⟩ := gbnd h
    refine g_callV hF my_X8_changedBindings kw_1031 kw_1033 kw_60 gC_8.1 (by decide) q0 (c_X8_changedBindings (d := d - 1) (by omega) q0 h10) (by omega) (Nat.zero_le _) (Nat.zero_le _) rfl rfl (Nat.le_of_ble_eq_true rfl) dX8_setKeeps_35 (g_sameS ?_)
    cases h
    exact g_ret_i hF rfl rfl dX8_setKeeps_38 (hR _ rfl) (Nat.zero_le _) (Nat.zero_le _)
theorem c_X8_setKeeps {d : Nat} {T : gT} {M : gM} {m_a0 : Nat} {a0 : Nat} {i1 : Int32} {i2 : Int32} {r : Int32 × gM} (hd : 7 ≤ d) (q0 : T[a0]? = some (8, m_a0)) (h : f_X8_setKeeps T M a0 i1 i2 = some (.inr r)) : gRet d yX8_setKeeps cX8_setKeeps 3 (some .int) 0 0 [.ref a0, .int i1, .int i2] T M (gSame T (some (.int r.1)) r.2) := by
  refine gRet_of (own := RX8) (by decide) rfl (Nat.le_of_ble_eq_true rfl) (fun Z ad0 hn h0 hF => ?_)
  exact t_X8_setKeeps hF hn hd q0 h (fun v9 q9 => by cases q9; exact ⟨rfl, rfl, rfl, rfl⟩) (fun k9 q9 => nomatch q9)
theorem cx_X8_setKeeps {d : Nat} {T : gT} {M : gM} {m_a0 : Nat} {a0 : Nat} {i1 : Int32} {i2 : Int32} {k : Nat} (hd : 7 ≤ d) (q0 : T[a0]? = some (8, m_a0)) (h : f_X8_setKeeps T M a0 i1 i2 = some (.inl k)) : gRetX d yX8_setKeeps cX8_setKeeps 3 (some .int) 1 6 [.ref a0, .int i1, .int i2] T M k := by
  refine gRetX_of (own := RX8) (by decide) rfl (Nat.le_of_ble_eq_true rfl) (fun Z ad0 hn h0 hF => ?_)
  exact t_X8_setKeeps hF hn hd q0 h (fun v9 q9 => nomatch q9) (fun k9 q9 => by cases q9; exact ⟨⟨rfl, rfl, rfl, rfl⟩, Nat.le_of_ble_eq_true rfl, Nat.le_of_ble_eq_true rfl⟩)
