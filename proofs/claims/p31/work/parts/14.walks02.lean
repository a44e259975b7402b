theorem t_X0_takeIn_27 {Z : gZ} {d mc ms : Nat} {Acc : Option Value → (Nat → Nat) → gT → gM → Prop} {AccX : Nat → (Nat → Nat) → gT → gM → Prop} {ad : Nat → Nat} {T : gT} {M : gM} {m_a0 : Nat} {a0 : Nat} {i1 : Int32} {i2 : Int32} {i3 : Int32} {o : (Int32) ⊕ (Int32 × Int32)} (hF : gFix Z cX0_takeIn RX0 "takeIn" none d mc ms Acc AccX) (hn : Z.2.2.2.2.2.1 = 4) (hd : 2 ≤ d) (q0 : T[a0]? = some (0, m_a0)) (h : f_X0_takeIn_27 T M a0 i1 i2 i3 = some o) (hE : ∀ e9, o = .inl e9 → gG Z ad T M 0 0 33 [(0, .ref a0), (1, .int i1), (2, .int e9)] []) (hN : ∀ n9, o = .inr n9 → gG Z ad T M 0 0 4 [(0, .ref a0), (1, .int i1), (2, .int n9.1), (3, .int n9.2)] []) : gG Z ad T M 0 0 27 [(0, .ref a0), (1, .int i1), (2, .int i2), (3, .int i3)] [] := by
  unfold f_X0_takeIn_27 at h
  refine g_iinc (n := 1) (v := (i3 + (1 : Int32))) (ls' := [(3, .int (i3 + (1 : Int32))), (0, .ref a0), (1, .int i1), (2, .int i2)]) hF 3 rfl rfl (by rw [hn]; decide) rfl dX0_takeIn_27 ?_
  refine g_goto (tgt := 4) hF dX0_takeIn_30 (by decide) ?_
  exact gG_sub [1, 2, 3, 0] rfl (hN _ (Option.some.inj h).symm)
theorem t_X0_takeIn_B4 {Z : gZ} {d mc ms : Nat} {Acc : Option Value → (Nat → Nat) → gT → gM → Prop} {AccX : Nat → (Nat → Nat) → gT → gM → Prop} {ad : Nat → Nat} {T : gT} {M : gM} {m_a0 : Nat} {a0 : Nat} {i1 : Int32} {i2 : Int32} {i3 : Int32} {o : (Int32) ⊕ (Int32 × Int32)} (hF : gFix Z cX0_takeIn RX0 "takeIn" none d mc ms Acc AccX) (hn : Z.2.2.2.2.2.1 = 4) (hd : 2 ≤ d) (q0 : T[a0]? = some (0, m_a0)) (h : f_X0_takeIn_B4 T M a0 i1 i2 i3 = some o) (hE : ∀ e9, o = .inl e9 → gG Z ad T M 0 0 33 [(0, .ref a0), (1, .int i1), (2, .int e9)] []) (hN : ∀ n9, o = .inr n9 → gG Z ad T M 0 0 4 [(0, .ref a0), (1, .int i1), (2, .int n9.1), (3, .int n9.2)] []) : gG Z ad T M 0 0 4 [(0, .ref a0), (1, .int i1), (2, .int i2), (3, .int i3)] [] := by
  unfold f_X0_takeIn_B4 at h
  refine g_iload_n hF 3 rfl rfl dX0_takeIn_4 ?_
  refine g_aload_n hF 0 rfl rfl dX0_takeIn_5 ?_
  refine g_get_i hF fl_RX0_17 q0 dX0_takeIn_6 ?_
  refine g_icmp_ge (tgt := 33) hF dX0_takeIn_9 (by decide) (fun c1 => ?_) (fun c1 => ?_)
  · replace h := gif_t c1 h
    exact gG_sub [0, 1, 2] rfl (hE _ (Option.some.inj h).symm)
  · replace h := gif_f c1 h
    refine g_aload_n hF 0 rfl rfl dX0_takeIn_12 ?_
    obtain ⟨b2, h2, h⟩ := gbnd h
    obtain ⟨g2, l2, q_b2⟩ := ldr_sp h2
    refine g_get_r hF g2 fl_RX0_11 q0 dX0_takeIn_13 ?_
    refine g_iload_n hF 3 rfl rfl dX0_takeIn_16 ?_
    obtain ⟨b3, h3, h⟩ := gbnd h
    obtain ⟨i3h, g3, l3, q_b3⟩ := aldr_sp q_b2 h3
    refine g_aald hF q_b2 (Or.inr (Or.inl ⟨rfl, rfl⟩)) i3h g3 dX0_takeIn_17 ?_
    obtain ⟨x4, h4, h⟩ := gbnd h
    refine g_callVN hF my_X3_isLoaded kn_425 kw_407 kw_4 gC_3.1 (by decide) q_b3 (c_X3_isLoaded (d := d - 1) (by omega) q_b3 h4) (by omega) (Nat.zero_le _) (Nat.zero_le _) rfl rfl (Nat.le_of_ble_eq_true rfl) dX0_takeIn_18 (g_sameS ?_)
    refine g_if_eq (tgt := 27) hF dX0_takeIn_21 (by decide) (fun c5 => ?_) (fun c5 => ?_)
    · replace h := gif_t c5 h
      exact gG_sub [0, 1, 2, 3] rfl (t_X0_takeIn_27 hF hn hd q0 h hE hN)
    · replace h := gif_f c5 h
      refine g_iinc (n := 1) (v := (i2 + (1 : Int32))) (ls' := [(2, .int (i2 + (1 : Int32))), (0, .ref a0), (1, .int i1), (3, .int i3)]) hF 2 rfl rfl (by rw [hn]; decide) rfl dX0_takeIn_24 ?_
      exact gG_sub [1, 2, 0, 3] rfl (t_X0_takeIn_27 hF hn hd q0 h hE hN)
theorem t_X0_takeIn_L4 {Z : gZ} {d mc ms : Nat} {Acc : Option Value → (Nat → Nat) → gT → gM → Prop} {AccX : Nat → (Nat → Nat) → gT → gM → Prop} {ad : Nat → Nat} {T : gT} {M : gM} {m_a0 : Nat} {a0 : Nat} {i1 : Int32} {i2 : Int32} {i3 : Int32} {o : Int32} (hF : gFix Z cX0_takeIn RX0 "takeIn" none d mc ms Acc AccX) (hn : Z.2.2.2.2.2.1 = 4) (hd : 2 ≤ d) (q0 : T[a0]? = some (0, m_a0)) (h : gloop (fun x => f_X0_takeIn_B4 T M a0 i1 x.1 x.2) gFU (i2, i3) = some o) (hE : gG Z ad T M 0 0 33 [(0, .ref a0), (1, .int i1), (2, .int o)] []) : gG Z ad T M 0 0 4 [(0, .ref a0), (1, .int i1), (2, .int i2), (3, .int i3)] [] := by
  refine gloop_ind (P := fun x0 : Int32 × Int32 => gG Z ad T M 0 0 4 [(0, .ref a0), (1, .int i1), (2, .int x0.1), (3, .int x0.2)] []) (e := o) (fun x0 y hy hl hr => ?_) gFU (i2, i3) h
  exact t_X0_takeIn_B4 hF hn hd q0 hy (fun e9 q9 => by rw [hl _ q9]; exact hE) (fun n9 q9 => hr n9 q9)
theorem t_X0_takeIn {Z : gZ} {d mc ms : Nat} {Acc : Option Value → (Nat → Nat) → gT → gM → Prop} {AccX : Nat → (Nat → Nat) → gT → gM → Prop} {ad : Nat → Nat} {T : gT} {M : gM} {m_a0 : Nat} {a0 : Nat} {i1 : Int32} {o : gM} (hF : gFix Z cX0_takeIn RX0 "takeIn" none d mc ms Acc AccX) (hn : Z.2.2.2.2.2.1 = 4) (hd : 2 ≤ d) (q0 : T[a0]? = some (0, m_a0)) (h : f_X0_takeIn T M a0 i1 = some o) (hR : Acc none ad T o) : gG Z ad T M 0 0 0 [(0, .ref a0), (1, .int i1)] [] := by
  unfold f_X0_takeIn at h
  refine g_iconst (v := (0 : Int32)) hF rfl dX0_takeIn_0 ?_
  refine g_istore_n (ls' := [(2, .int (0 : Int32)), (0, .ref a0), (1, .int i1)]) hF rfl (by rw [hn]; decide) rfl dX0_takeIn_1 ?_
  refine g_iconst (v := (0 : Int32)) hF rfl dX0_takeIn_2 ?_
  refine g_istore_n (ls' := [(3, .int (0 : Int32)), (2, .int (0 : Int32)), (0, .ref a0), (1, .int i1)]) hF rfl (by rw [hn]; decide) rfl dX0_takeIn_3 ?_
  obtain ⟨x6, h6, h⟩ := gbnd h
  refine gG_sub [2, 3, 1, 0] rfl (t_X0_takeIn_L4 hF hn hd q0 h6 ?_)
  refine g_aload_n hF 0 rfl rfl dX0_takeIn_33 ?_
  obtain ⟨b7, h7, h⟩ := gbnd h
  obtain ⟨g7, l7, q_b7⟩ := ldr_sp h7
  refine g_get_r hF g7 fl_RX0_11 q0 dX0_takeIn_34 ?_
  refine g_iload_n hF 1 rfl rfl dX0_takeIn_37 ?_
  obtain ⟨b8, h8, h⟩ := gbnd h
  obtain ⟨i8h, g8, l8, q_b8⟩ := aldr_sp q_b7 h8
  refine g_aald hF q_b7 (Or.inr (Or.inl ⟨rfl, rfl⟩)) i8h g8 dX0_takeIn_38 ?_
  refine g_iload_n hF 2 rfl rfl dX0_takeIn_39 ?_
  refine g_putN_i hF rfl rfl fn_RX0_49 q_b8 dX0_takeIn_40 ?_
  cases h
  exact g_ret_v hF rfl dX0_takeIn_43 hR (Nat.zero_le _) (Nat.zero_le _)
theorem c_X0_takeIn {d : Nat} {T : gT} {M : gM} {m_a0 : Nat} {a0 : Nat} {i1 : Int32} {r : gM} (hd : 2 ≤ d) (q0 : T[a0]? = some (0, m_a0)) (h : f_X0_takeIn T M a0 i1 = some (r)) : gRet d yX0_takeIn cX0_takeIn 4 none 0 0 [.ref a0, .int i1] T M (gSame T none r) := by
  refine gRet_of (own := RX0) (by decide) rfl (Nat.le_of_ble_eq_true rfl) (fun Z ad0 hn h0 hF => ?_)
  exact t_X0_takeIn hF hn hd q0 h ⟨rfl, rfl, rfl, rfl⟩
theorem t_X3_prefers_B2 {Z : gZ} {d mc ms : Nat} {Acc : Option Value → (Nat → Nat) → gT → gM → Prop} {AccX : Nat → (Nat → Nat) → gT → gM → Prop} {ad : Nat → Nat} {T : gT} {M : gM} {m_a0 : Nat} {a0 : Nat} {i1 : Int32} {i2 : Int32} {o : (Int32) ⊕ (Int32)} (hF : gFix Z cX3_prefers RX3 "prefers" (some .boolean) d mc ms Acc AccX) (hn : Z.2.2.2.2.2.1 = 3) (hd : 1 ≤ d) (q0 : T[a0]? = some (3, m_a0)) (h : f_X3_prefers_B2 T M a0 i1 i2 = some o) (hR : ∀ r9, o = .inl r9 → Acc (some (.int r9)) ad T M) (hN : ∀ n9, o = .inr n9 → gG Z ad T M 0 0 2 [(0, .ref a0), (1, .int i1), (2, .int n9)] []) : gG Z ad T M 0 0 2 [(0, .ref a0), (1, .int i1), (2, .int i2)] [] := by
  unfold f_X3_prefers_B2 at h
  refine g_iload_n hF 2 rfl rfl dX3_prefers_2 ?_
  refine g_aload_n hF 0 rfl rfl dX3_prefers_3 ?_
  refine g_get_i hF fl_RX3_29 q0 dX3_prefers_4 ?_
  refine g_icmp_ge (tgt := 28) hF dX3_prefers_7 (by decide) (fun c1 => ?_) (fun c1 => ?_)
  · replace h := gif_t c1 h
    refine g_iconst (v := (0 : Int32)) hF rfl dX3_prefers_28 ?_
    cases h
    exact g_ret_i hF rfl rfl dX3_prefers_29 (hR _ rfl) (Nat.zero_le _) (Nat.zero_le _)
  · replace h := gif_f c1 h
    refine g_aload_n hF 0 rfl rfl dX3_prefers_10 ?_
    obtain ⟨b2, h2, h⟩ := gbnd h
    obtain ⟨g2, l2, q_b2⟩ := ldr_sp h2
    refine g_get_r hF g2 fl_RX3_26 q0 dX3_prefers_11 ?_
    refine g_iload_n hF 2 rfl rfl dX3_prefers_14 ?_
    obtain ⟨v3, h3, h⟩ := gbnd h
    obtain ⟨i3h, e3v⟩ := ald_sp q_b2 h3
    refine g_iald hF q_b2 i3h dX3_prefers_15 ?_
    rw [← e3v]
    refine g_iload_n hF 1 rfl rfl dX3_prefers_16 ?_
    refine g_icmp_ne (tgt := 22) hF dX3_prefers_17 (by decide) (fun c4 => ?_) (fun c4 => ?_)
    · replace h := gif_t c4 h
      refine g_iinc (n := 1) (v := (i2 + (1 : Int32))) (ls' := [(2, .int (i2 + (1 : Int32))), (0, .ref a0), (1, .int i1)]) hF 2 rfl rfl (by rw [hn]; decide) rfl dX3_prefers_22 ?_
      refine g_goto (tgt := 2) hF dX3_prefers_25 (by decide) ?_
      exact gG_sub [1, 2, 0] rfl (hN _ (Option.some.inj h).symm)
    · replace h := gif_n c4 h
      refine g_iconst (v := (1 : Int32)) hF rfl dX3_prefers_20 ?_
      cases h
      exact g_ret_i hF rfl rfl dX3_prefers_21 (hR _ rfl) (Nat.zero_le _) (Nat.zero_le _)
theorem t_X3_prefers_L2 {Z : gZ} {d mc ms : Nat} {Acc : Option Value → (Nat → Nat) → gT → gM → Prop} {AccX : Nat → (Nat → Nat) → gT → gM → Prop} {ad : Nat → Nat} {T : gT} {M : gM} {m_a0 : Nat} {a0 : Nat} {i1 : Int32} {i2 : Int32} {o : Int32} (hF : gFix Z cX3_prefers RX3 "prefers" (some .boolean) d mc ms Acc AccX) (hn : Z.2.2.2.2.2.1 = 3) (hd : 1 ≤ d) (q0 : T[a0]? = some (3, m_a0)) (h : gloop (fun x => f_X3_prefers_B2 T M a0 i1 x) gFU i2 = some o) (hR : Acc (some (.int o)) ad T M) : gG Z ad T M 0 0 2 [(0, .ref a0), (1, .int i1), (2, .int i2)] [] := by
  refine gloop_ind (P := fun x0 : Int32 => gG Z ad T M 0 0 2 [(0, .ref a0), (1, .int i1), (2, .int x0)] []) (e := o) (fun x0 y hy hl hr => ?_) gFU i2 h
  exact t_X3_prefers_B2 hF hn hd q0 hy (fun r9 q9 => by rw [hl _ q9]; exact hR) (fun n9 q9 => hr n9 q9)
theorem t_X3_prefers {Z : gZ} {d mc ms : Nat} {Acc : Option Value → (Nat → Nat) → gT → gM → Prop} {AccX : Nat → (Nat → Nat) → gT → gM → Prop} {ad : Nat → Nat} {T : gT} {M : gM} {m_a0 : Nat} {a0 : Nat} {i1 : Int32} {o : Int32} (hF : gFix Z cX3_prefers RX3 "prefers" (some .boolean) d mc ms Acc AccX) (hn : Z.2.2.2.2.2.1 = 3) (hd : 1 ≤ d) (q0 : T[a0]? = some (3, m_a0)) (h : f_X3_prefers T M a0 i1 = some o) (hR : Acc (some (.int o)) ad T M) : gG Z ad T M 0 0 0 [(0, .ref a0), (1, .int i1)] [] := by
  unfold f_X3_prefers at h
  refine g_iconst (v := (0 : Int32)) hF rfl dX3_prefers_0 ?_
  refine g_istore_n (ls' := [(2, .int (0 : Int32)), (0, .ref a0), (1, .int i1)]) hF rfl (by rw [hn]; decide) rfl dX3_prefers_1 ?_
  obtain ⟨x5, h5, h⟩ := gbnd h
  cases h
  exact gG_sub [1, 2, 0] rfl (t_X3_prefers_L2 hF hn hd q0 h5 hR)
theorem c_X3_prefers {d : Nat} {T : gT} {M : gM} {m_a0 : Nat} {a0 : Nat} {i1 : Int32} {r : Int32} (hd : 1 ≤ d) (q0 : T[a0]? = some (3, m_a0)) (h : f_X3_prefers T M a0 i1 = some (r)) : gRet d yX3_prefers cX3_prefers 3 (some .boolean) 0 0 [.ref a0, .int i1] T M (gSame T (some (.int r)) M) := by
  refine gRet_of (own := RX3) (by decide) rfl (Nat.le_of_ble_eq_true rfl) (fun Z ad0 hn h0 hF => ?_)
  exact t_X3_prefers hF hn hd q0 h ⟨rfl, rfl, rfl, rfl⟩
theorem t_X0_friendsOf_40 {Z : gZ} {d mc ms : Nat} {Acc : Option Value → (Nat → Nat) → gT → gM → Prop} {AccX : Nat → (Nat → Nat) → gT → gM → Prop} {ad : Nat → Nat} {T : gT} {M : gM} {m_a0 : Nat} {a0 : Nat} {i1 : Int32} {i2 : Int32} {i3 : Int32} {o : (Int32) ⊕ (Int32 × Int32)} (hF : gFix Z cX0_friendsOf RX0 "friendsOf" (some .int) d mc ms Acc AccX) (hn : Z.2.2.2.2.2.1 = 4) (hd : 2 ≤ d) (q0 : T[a0]? = some (0, m_a0)) (h : f_X0_friendsOf_40 T M a0 i1 i2 i3 = some o) (hE : ∀ e9, o = .inl e9 → gG Z ad T M 0 0 46 [(2, .int e9)] []) (hN : ∀ n9, o = .inr n9 → gG Z ad T M 0 0 4 [(0, .ref a0), (1, .int i1), (2, .int n9.1), (3, .int n9.2)] []) : gG Z ad T M 0 0 40 [(0, .ref a0), (1, .int i1), (2, .int i2), (3, .int i3)] [] := by
  unfold f_X0_friendsOf_40 at h
  refine g_iinc (n := 1) (v := (i3 + (1 : Int32))) (ls' := [(3, .int (i3 + (1 : Int32))), (0, .ref a0), (1, .int i1), (2, .int i2)]) hF 3 rfl rfl (by rw [hn]; decide) rfl dX0_friendsOf_40 ?_
  refine g_goto (tgt := 4) hF dX0_friendsOf_43 (by decide) ?_
  exact gG_sub [1, 2, 3, 0] rfl (hN _ (Option.some.inj h).symm)
theorem t_X0_friendsOf_B4 {Z : gZ} {d mc ms : Nat} {Acc : Option Value → (Nat → Nat) → gT → gM → Prop} {AccX : Nat → (Nat → Nat) → gT → gM → Prop} {ad : Nat → Nat} {T : gT} {M : gM} {m_a0 : Nat} {a0 : Nat} {i1 : Int32} {i2 : Int32} {i3 : Int32} {o : (Int32) ⊕ (Int32 × Int32)} (hF : gFix Z cX0_friendsOf RX0 "friendsOf" (some .int) d mc ms Acc AccX) (hn : Z.2.2.2.2.2.1 = 4) (hd : 2 ≤ d) (q0 : T[a0]? = some (0, m_a0)) (h : f_X0_friendsOf_B4 T M a0 i1 i2 i3 = some o) (hE : ∀ e9, o = .inl e9 → gG Z ad T M 0 0 46 [(2, .int e9)] []) (hN : ∀ n9, o = .inr n9 → gG Z ad T M 0 0 4 [(0, .ref a0), (1, .int i1), (2, .int n9.1), (3, .int n9.2)] []) : gG Z ad T M 0 0 4 [(0, .ref a0), (1, .int i1), (2, .int i2), (3, .int i3)] [] := by
  unfold f_X0_friendsOf_B4 at h
  refine g_iload_n hF 3 rfl rfl dX0_friendsOf_4 ?_
  refine g_aload_n hF 0 rfl rfl dX0_friendsOf_5 ?_
  refine g_get_i hF fl_RX0_17 q0 dX0_friendsOf_6 ?_
  refine g_icmp_ge (tgt := 46) hF dX0_friendsOf_9 (by decide) (fun c1 => ?_) (fun c1 => ?_)
  · replace h := gif_t c1 h
    exact gG_sub [2] rfl (hE _ (Option.some.inj h).symm)
  · replace h := gif_f c1 h
    refine g_aload_n hF 0 rfl rfl dX0_friendsOf_12 ?_
    obtain ⟨b2, h2, h⟩ := gbnd h
    obtain ⟨g2, l2, q_b2⟩ := ldr_sp h2
    refine g_get_r hF g2 fl_RX0_11 q0 dX0_friendsOf_13 ?_
    refine g_iload_n hF 3 rfl rfl dX0_friendsOf_16 ?_
    obtain ⟨b3, h3, h⟩ := gbnd h
    obtain ⟨i3h, g3, l3, q_b3⟩ := aldr_sp q_b2 h3
    refine g_aald hF q_b2 (Or.inr (Or.inl ⟨rfl, rfl⟩)) i3h g3 dX0_friendsOf_17 ?_
    obtain ⟨x4, h4, h⟩ := gbnd h
    refine g_callVN hF my_X3_isLoaded kn_425 kw_407 kw_4 gC_3.1 (by decide) q_b3 (c_X3_isLoaded (d := d - 1) (by omega) q_b3 h4) (by omega) (Nat.zero_le _) (Nat.zero_le _) rfl rfl (Nat.le_of_ble_eq_true rfl) dX0_friendsOf_18 (g_sameS ?_)
    refine g_if_eq (tgt := 40) hF dX0_friendsOf_21 (by decide) (fun c5 => ?_) (fun c5 => ?_)
    · replace h := gif_t c5 h
      exact gG_sub [0, 1, 2, 3] rfl (t_X0_friendsOf_40 hF hn hd q0 h hE hN)
    · replace h := gif_f c5 h
      refine g_aload_n hF 0 rfl rfl dX0_friendsOf_24 ?_
      obtain ⟨b6, h6, h⟩ := gbnd h
      obtain ⟨g6, l6, q_b6⟩ := ldr_sp h6
      refine g_get_r hF g6 fl_RX0_11 q0 dX0_friendsOf_25 ?_
      refine g_iload_n hF 3 rfl rfl dX0_friendsOf_28 ?_
      obtain ⟨b7, h7, h⟩ := gbnd h
      obtain ⟨i7h, g7, l7, q_b7⟩ := aldr_sp q_b6 h7
      refine g_aald hF q_b6 (Or.inr (Or.inl ⟨rfl, rfl⟩)) i7h g7 dX0_friendsOf_29 ?_
      refine g_iload_n hF 1 rfl rfl dX0_friendsOf_30 ?_
      obtain ⟨x8, h8, h⟩ := gbnd h
      refine g_callVN hF my_X3_prefers kn_426 kw_428 kw_9 gC_3.1 (by decide) q_b7 (c_X3_prefers (d := d - 1) (by omega) q_b7 h8) (by omega) (Nat.zero_le _) (Nat.zero_le _) rfl rfl (Nat.le_of_ble_eq_true rfl) dX0_friendsOf_31 (g_sameS ?_)
      refine g_if_eq (tgt := 40) hF dX0_friendsOf_34 (by decide) (fun c9 => ?_) (fun c9 => ?_)
      · replace h := gif_t c9 h
        exact gG_sub [0, 1, 2, 3] rfl (t_X0_friendsOf_40 hF hn hd q0 h hE hN)
      · replace h := gif_f c9 h
        refine g_iinc (n := 1) (v := (i2 + (1 : Int32))) (ls' := [(2, .int (i2 + (1 : Int32))), (0, .ref a0), (1, .int i1), (3, .int i3)]) hF 2 rfl rfl (by rw [hn]; decide) rfl dX0_friendsOf_37 ?_
        exact gG_sub [1, 2, 0, 3] rfl (t_X0_friendsOf_40 hF hn hd q0 h hE hN)
theorem t_X0_friendsOf_L4 {Z : gZ} {d mc ms : Nat} {Acc : Option Value → (Nat → Nat) → gT → gM → Prop} {AccX : Nat → (Nat → Nat) → gT → gM → Prop} {ad : Nat → Nat} {T : gT} {M : gM} {m_a0 : Nat} {a0 : Nat} {i1 : Int32} {i2 : Int32} {i3 : Int32} {o : Int32} (hF : gFix Z cX0_friendsOf RX0 "friendsOf" (some .int) d mc ms Acc AccX) (hn : Z.2.2.2.2.2.1 = 4) (hd : 2 ≤ d) (q0 : T[a0]? = some (0, m_a0)) (h : gloop (fun x => f_X0_friendsOf_B4 T M a0 i1 x.1 x.2) gFU (i2, i3) = some o) (hE : gG Z ad T M 0 0 46 [(2, .int o)] []) : gG Z ad T M 0 0 4 [(0, .ref a0), (1, .int i1), (2, .int i2), (3, .int i3)] [] := by
  refine gloop_ind (P := fun x0 : Int32 × Int32 => gG Z ad T M 0 0 4 [(0, .ref a0), (1, .int i1), (2, .int x0.1), (3, .int x0.2)] []) (e := o) (fun x0 y hy hl hr => ?_) gFU (i2, i3) h
  exact t_X0_friendsOf_B4 hF hn hd q0 hy (fun e9 q9 => by rw [hl _ q9]; exact hE) (fun n9 q9 => hr n9 q9)
theorem t_X0_friendsOf {Z : gZ} {d mc ms : Nat} {Acc : Option Value → (Nat → Nat) → gT → gM → Prop} {AccX : Nat → (Nat → Nat) → gT → gM → Prop} {ad : Nat → Nat} {T : gT} {M : gM} {m_a0 : Nat} {a0 : Nat} {i1 : Int32} {o : Int32} (hF : gFix Z cX0_friendsOf RX0 "friendsOf" (some .int) d mc ms Acc AccX) (hn : Z.2.2.2.2.2.1 = 4) (hd : 2 ≤ d) (q0 : T[a0]? = some (0, m_a0)) (h : f_X0_friendsOf T M a0 i1 = some o) (hR : Acc (some (.int o)) ad T M) : gG Z ad T M 0 0 0 [(0, .ref a0), (1, .int i1)] [] := by
  unfold f_X0_friendsOf at h
  refine g_iconst (v := (0 : Int32)) hF rfl dX0_friendsOf_0 ?_
  refine g_istore_n (ls' := [(2, .int (0 : Int32)), (0, .ref a0), (1, .int i1)]) hF rfl (by rw [hn]; decide) rfl dX0_friendsOf_1 ?_
  refine g_iconst (v := (0 : Int32)) hF rfl dX0_friendsOf_2 ?_
  refine g_istore_n (ls' := [(3, .int (0 : Int32)), (2, .int (0 : Int32)), (0, .ref a0), (1, .int i1)]) hF rfl (by rw [hn]; decide) rfl dX0_friendsOf_3 ?_
  obtain ⟨x10, h10, h⟩ := gbnd h
  refine gG_sub [2, 3, 1, 0] rfl (t_X0_friendsOf_L4 hF hn hd q0 h10 ?_)
  refine g_iload_n hF 0 rfl rfl dX0_friendsOf_46 ?_
  cases h
  exact g_ret_i hF rfl rfl dX0_friendsOf_47 hR (Nat.zero_le _) (Nat.zero_le _)
theorem c_X0_friendsOf {d : Nat} {T : gT} {M : gM} {m_a0 : Nat} {a0 : Nat} {i1 : Int32} {r : Int32} (hd : 2 ≤ d) (q0 : T[a0]? = some (0, m_a0)) (h : f_X0_friendsOf T M a0 i1 = some (r)) : gRet d yX0_friendsOf cX0_friendsOf 4 (some .int) 0 0 [.ref a0, .int i1] T M (gSame T (some (.int r)) M) := by
  refine gRet_of (own := RX0) (by decide) rfl (Nat.le_of_ble_eq_true rfl) (fun Z ad0 hn h0 hF => ?_)
  exact t_X0_friendsOf hF hn hd q0 h ⟨rfl, rfl, rfl, rfl⟩
theorem t_X3_countOffers_21 {Z : gZ} {d mc ms : Nat} {Acc : Option Value → (Nat → Nat) → gT → gM → Prop} {AccX : Nat → (Nat → Nat) → gT → gM → Prop} {ad : Nat → Nat} {T : gT} {M : gM} {m_a0 : Nat} {a0 : Nat} {i1 : Int32} {i2 : Int32} {o : (Int32) ⊕ (Int32 × Int32)} (hF : gFix Z cX3_countOffers RX3 "countOffers" (some .int) d mc ms Acc AccX) (hn : Z.2.2.2.2.2.1 = 3) (hd : 2 ≤ d) (q0 : T[a0]? = some (3, m_a0)) (h : f_X3_countOffers_21 T M a0 i1 i2 = some o) (hE : ∀ e9, o = .inl e9 → gG Z ad T M 0 0 27 [(1, .int e9)] []) (hN : ∀ n9, o = .inr n9 → gG Z ad T M 0 0 4 [(0, .ref a0), (1, .int n9.1), (2, .int n9.2)] []) : gG Z ad T M 0 0 21 [(0, .ref a0), (1, .int i1), (2, .int i2)] [] := by
  unfold f_X3_countOffers_21 at h
  refine g_iinc (n := 1) (v := (i2 + (1 : Int32))) (ls' := [(2, .int (i2 + (1 : Int32))), (0, .ref a0), (1, .int i1)]) hF 2 rfl rfl (by rw [hn]; decide) rfl dX3_countOffers_21 ?_
  refine g_goto (tgt := 4) hF dX3_countOffers_24 (by decide) ?_
  exact gG_sub [1, 2, 0] rfl (hN _ (Option.some.inj h).symm)
theorem t_X3_countOffers_B4 {Z : gZ} {d mc ms : Nat} {Acc : Option Value → (Nat → Nat) → gT → gM → Prop} {AccX : Nat → (Nat → Nat) → gT → gM → Prop} {ad : Nat → Nat} {T : gT} {M : gM} {m_a0 : Nat} {a0 : Nat} {i1 : Int32} {i2 : Int32} {o : (Int32) ⊕ (Int32 × Int32)} (hF : gFix Z cX3_countOffers RX3 "countOffers" (some .int) d mc ms Acc AccX) (hn : Z.2.2.2.2.2.1 = 3) (hd : 2 ≤ d) (q0 : T[a0]? = some (3, m_a0)) (h : f_X3_countOffers_B4 T M a0 i1 i2 = some o) (hE : ∀ e9, o = .inl e9 → gG Z ad T M 0 0 27 [(1, .int e9)] []) (hN : ∀ n9, o = .inr n9 → gG Z ad T M 0 0 4 [(0, .ref a0), (1, .int n9.1), (2, .int n9.2)] []) : gG Z ad T M 0 0 4 [(0, .ref a0), (1, .int i1), (2, .int i2)] [] := by
  unfold f_X3_countOffers_B4 at h
  refine g_iload_n hF 2 rfl rfl dX3_countOffers_4 ?_
  refine g_bipush (v := (12 : Int32)) hF rfl dX3_countOffers_5 ?_
  refine g_icmp_ge (tgt := 27) hF dX3_countOffers_7 (by decide) (fun c1 => ?_) (fun c1 => ?_)
  · replace h := gif_t c1 h
    exact gG_sub [1] rfl (hE _ (Option.some.inj h).symm)
  · replace h := gif_f c1 h
    refine g_aload_n hF 0 rfl rfl dX3_countOffers_10 ?_
    refine g_iload_n hF 2 rfl rfl dX3_countOffers_11 ?_
    obtain ⟨x2, h2, h⟩ := gbnd h
    refine g_callV hF my_X3_hasOffer kw_417 kw_419 kw_7 gC_3.1 (by decide) q0 (c_X3_hasOffer (d := d - 1) (by omega) q0 h2) (by omega) (Nat.zero_le _) (Nat.zero_le _) rfl rfl (Nat.le_of_ble_eq_true rfl) dX3_countOffers_12 (g_sameS ?_)
    refine g_if_eq (tgt := 21) hF dX3_countOffers_15 (by decide) (fun c3 => ?_) (fun c3 => ?_)
    · replace h := gif_t c3 h
      exact gG_sub [0, 1, 2] rfl (t_X3_countOffers_21 hF hn hd q0 h hE hN)
    · replace h := gif_f c3 h
      refine g_iinc (n := 1) (v := (i1 + (1 : Int32))) (ls' := [(1, .int (i1 + (1 : Int32))), (0, .ref a0), (2, .int i2)]) hF 1 rfl rfl (by rw [hn]; decide) rfl dX3_countOffers_18 ?_
      exact gG_sub [1, 0, 2] rfl (t_X3_countOffers_21 hF hn hd q0 h hE hN)
theorem t_X3_countOffers_L4 {Z : gZ} {d mc ms : Nat} {Acc : Option Value → (Nat → Nat) → gT → gM → Prop} {AccX : Nat → (Nat → Nat) → gT → gM → Prop} {ad : Nat → Nat} {T : gT} {M : gM} {m_a0 : Nat} {a0 : Nat} {i1 : Int32} {i2 : Int32} {o : Int32} (hF : gFix Z cX3_countOffers RX3 "countOffers" (some .int) d mc ms Acc AccX) (hn : Z.2.2.2.2.2.1 = 3) (hd : 2 ≤ d) (q0 : T[a0]? = some (3, m_a0)) (h : gloop (fun x => f_X3_countOffers_B4 T M a0 x.1 x.2) gFU (i1, i2) = some o) (hE : gG Z ad T M 0 0 27 [(1, .int o)] []) : gG Z ad T M 0 0 4 [(0, .ref a0), (1, .int i1), (2, .int i2)] [] := by
  refine gloop_ind (P := fun x0 : Int32 × Int32 => gG Z ad T M 0 0 4 [(0, .ref a0), (1, .int x0.1), (2, .int x0.2)] []) (e := o) (fun x0 y hy hl hr => ?_) gFU (i1, i2) h
  exact t_X3_countOffers_B4 hF hn hd q0 hy (fun e9 q9 => by rw [hl _ q9]; exact hE) (fun n9 q9 => hr n9 q9)
theorem t_X3_countOffers {Z : gZ} {d mc ms : Nat} {Acc : Option Value → (Nat → Nat) → gT → gM → Prop} {AccX : Nat → (Nat → Nat) → gT → gM → Prop} {ad : Nat → Nat} {T : gT} {M : gM} {m_a0 : Nat} {a0 : Nat} {o : Int32} (hF : gFix Z cX3_countOffers RX3 "countOffers" (some .int) d mc ms Acc AccX) (hn : Z.2.2.2.2.2.1 = 3) (hd : 2 ≤ d) (q0 : T[a0]? = some (3, m_a0)) (h : f_X3_countOffers T M a0 = some o) (hR : Acc (some (.int o)) ad T M) : gG Z ad T M 0 0 0 [(0, .ref a0)] [] := by
  unfold f_X3_countOffers at h
  refine g_iconst (v := (0 : Int32)) hF rfl dX3_countOffers_0 ?_
  refine g_istore_n (ls' := [(1, .int (0 : Int32)), (0, .ref a0)]) hF rfl (by rw [hn]; decide) rfl dX3_countOffers_1 ?_
  refine g_iconst (v := (0 : Int32)) hF rfl dX3_countOffers_2 ?_
  refine g_istore_n (ls' := [(2, .int (0 : Int32)), (1, .int (0 : Int32)), (0, .ref a0)]) hF rfl (by rw [hn]; decide) rfl dX3_countOffers_3 ?_
  obtain ⟨x4, h4, h⟩ := gbnd h
  refine gG_sub [2, 1, 0] rfl (t_X3_countOffers_L4 hF hn hd q0 h4 ?_)
  refine g_iload_n hF 0 rfl rfl dX3_countOffers_27 ?_
  cases h
  exact g_ret_i hF rfl rfl dX3_countOffers_28 hR (Nat.zero_le _) (Nat.zero_le _)
theorem c_X3_countOffers {d : Nat} {T : gT} {M : gM} {m_a0 : Nat} {a0 : Nat} {r : Int32} (hd : 2 ≤ d) (q0 : T[a0]? = some (3, m_a0)) (h : f_X3_countOffers T M a0 = some (r)) : gRet d yX3_countOffers cX3_countOffers 3 (some .int) 0 0 [.ref a0] T M (gSame T (some (.int r)) M) := by
  refine gRet_of (own := RX3) (by decide) rfl (Nat.le_of_ble_eq_true rfl) (fun Z ad0 hn h0 hF => ?_)
  exact t_X3_countOffers hF hn hd q0 h ⟨rfl, rfl, rfl, rfl⟩
theorem t_X7_limited {Z : gZ} {d mc ms : Nat} {Acc : Option Value → (Nat → Nat) → gT → gM → Prop} {AccX : Nat → (Nat → Nat) → gT → gM → Prop} {ad : Nat → Nat} {T : gT} {M : gM} {j0 : Int64} {i2 : Int32} {i3 : Int32} {o : Int32} (hF : gFix Z cX7_limited RX7 "limited" (some .int) d mc ms Acc AccX) (hn : Z.2.2.2.2.2.1 = 4) (hd : 1 ≤ d)  (h : f_X7_limited T M j0 i2 i3 = some o) (hR : Acc (some (.int o)) ad T M) : gG Z ad T M 0 0 0 [(0, .long j0), (2, .int i2), (3, .int i3)] [] := by
  unfold f_X7_limited at h
  refine g_iload_n hF 1 rfl rfl dX7_limited_0 ?_
  refine g_i2l hF dX7_limited_1 ?_
  refine g_iload_n hF 2 rfl rfl dX7_limited_2 ?_
  refine g_i2l hF dX7_limited_3 ?_
  refine g_lload_n hF 0 rfl rfl dX7_limited_4 ?_
  refine g_minl hF kw_442 (by omega) (Nat.zero_le _) (Nat.zero_le _) (Nat.le_of_ble_eq_true rfl) dX7_limited_5 ?_
  refine g_maxl hF kw_445 (by omega) (Nat.zero_le _) (Nat.zero_le _) (Nat.le_of_ble_eq_true rfl) dX7_limited_8 ?_
  refine g_l2i hF dX7_limited_11 ?_
  cases h
  exact g_ret_i hF rfl rfl dX7_limited_12 hR (Nat.zero_le _) (Nat.zero_le _)
theorem c_X7_limited {d : Nat} {T : gT} {M : gM} {j0 : Int64} {i2 : Int32} {i3 : Int32} {r : Int32} (hd : 1 ≤ d)  (h : f_X7_limited T M j0 i2 i3 = some (r)) : gRet d yX7_limited cX7_limited 4 (some .int) 0 0 [.long j0, .int i2, .int i3] T M (gSame T (some (.int r)) M) := by
  refine gRet_of (own := RX7) (by decide) rfl (Nat.le_of_ble_eq_true rfl) (fun Z ad0 hn h0 hF => ?_)
  exact t_X7_limited hF hn hd  h ⟨rfl, rfl, rfl, rfl⟩
theorem t_X7_operate_67 {Z : gZ} {d mc ms : Nat} {Acc : Option Value → (Nat → Nat) → gT → gM → Prop} {AccX : Nat → (Nat → Nat) → gT → gM → Prop} {ad : Nat → Nat} {T : gT} {M : gM} {j5 : Int64} {o : Int32} (hF : gFix Z cX7_operate RX7 "operate" (some .int) d mc ms Acc AccX) (hn : Z.2.2.2.2.2.1 = 7) (hd : 2 ≤ d)  (h : f_X7_operate_67 T M j5 = some o) (hR : Acc (some (.int o)) ad T M) : gG Z ad T M 0 0 67 [(5, .long j5)] [] := by
  unfold f_X7_operate_67 at h
  refine g_lload hF 0 rfl dX7_operate_67 ?_
  refine g_ldc (v := (-1000000 : Int32)) hF kw_437 dX7_operate_69 ?_
  refine g_ldc (v := (1000000 : Int32)) hF kw_438 dX7_operate_71 ?_
  obtain ⟨x1, h1, h⟩ := gbnd h
  refine g_callS hF my_X7_limited kw_439 kw_440 (c_X7_limited (d := d - 1) (by omega)  h1) (by omega) (Nat.zero_le _) (Nat.zero_le _) rfl rfl (Nat.le_of_ble_eq_true rfl) dX7_operate_73 (g_sameS ?_)
  cases h
  exact g_ret_i hF rfl rfl dX7_operate_76 hR (Nat.zero_le _) (Nat.zero_le _)
theorem t_X7_operate_65 {Z : gZ} {d mc ms : Nat} {Acc : Option Value → (Nat → Nat) → gT → gM → Prop} {AccX : Nat → (Nat → Nat) → gT → gM → Prop} {ad : Nat → Nat} {T : gT} {M : gM} {w0 : Int64} {o : Int32} (hF : gFix Z cX7_operate RX7 "operate" (some .int) d mc ms Acc AccX) (hn : Z.2.2.2.2.2.1 = 7) (hd : 2 ≤ d)  (h : f_X7_operate_65 T M w0 = some o) (hR : Acc (some (.int o)) ad T M) : gG Z ad T M 0 0 65 [] [.long w0] := by
  unfold f_X7_operate_65 at h
  refine g_lstore (ls' := [(5, .long w0)]) hF (by rw [hn]; decide) rfl dX7_operate_65 ?_
  exact gG_sub [0] rfl (t_X7_operate_67 hF hn hd  h hR)
theorem t_X7_operate {Z : gZ} {d mc ms : Nat} {Acc : Option Value → (Nat → Nat) → gT → gM → Prop} {AccX : Nat → (Nat → Nat) → gT → gM → Prop} {ad : Nat → Nat} {T : gT} {M : gM} {i0 : Int32} {j1 : Int64} {j3 : Int64} {o : Int32} (hF : gFix Z cX7_operate RX7 "operate" (some .int) d mc ms Acc AccX) (hn : Z.2.2.2.2.2.1 = 7) (hd : 2 ≤ d)  (h : f_X7_operate T M i0 j1 j3 = some o) (hR : Acc (some (.int o)) ad T M) : gG Z ad T M 0 0 0 [(0, .int i0), (1, .long j1), (3, .long j3)] [] := by
  unfold f_X7_operate at h
  refine g_iload_n hF 0 rfl rfl dX7_operate_0 ?_
  by_cases c2_0 : i0 = (-7 : Int32)
  · replace h := gif_t c2_0 h
    refine g_tabIn (tgt := 44) (off := 43) hF dX7_operate_1 (by rw [c2_0]; decide) (by rw [c2_0]; decide) (by rw [c2_0]; decide +kernel) (by decide) ?_
    refine g_lload_n hF 1 rfl rfl dX7_operate_44 ?_
    refine g_lload_n hF 2 rfl rfl dX7_operate_45 ?_
    refine g_lmul hF dX7_operate_46 ?_
    refine g_lstore (ls' := [(5, .long (j1 * j3)), (0, .int i0), (1, .long j1), (3, .long j3)]) hF (by rw [hn]; decide) rfl dX7_operate_47 ?_
    refine g_goto (tgt := 67) hF dX7_operate_49 (by decide) ?_
    exact gG_sub [0] rfl (t_X7_operate_67 hF hn hd  h hR)
  · replace h := gif_f c2_0 h
    by_cases c2_1 : i0 = (-6 : Int32)
    · replace h := gif_t c2_1 h
      refine g_tabIn (tgt := 36) (off := 35) hF dX7_operate_1 (by rw [c2_1]; decide) (by rw [c2_1]; decide) (by rw [c2_1]; decide +kernel) (by decide) ?_
      refine g_lload_n hF 1 rfl rfl dX7_operate_36 ?_
      refine g_lload_n hF 2 rfl rfl dX7_operate_37 ?_
      refine g_lsub hF dX7_operate_38 ?_
      refine g_lstore (ls' := [(5, .long (j1 - j3)), (0, .int i0), (1, .long j1), (3, .long j3)]) hF (by rw [hn]; decide) rfl dX7_operate_39 ?_
      refine g_goto (tgt := 67) hF dX7_operate_41 (by decide) ?_
      exact gG_sub [0] rfl (t_X7_operate_67 hF hn hd  h hR)
    · replace h := gif_f c2_1 h
      by_cases c2_2 : i0 = (-5 : Int32)
      · replace h := gif_t c2_2 h
        refine g_tabIn (tgt := 28) (off := 27) hF dX7_operate_1 (by rw [c2_2]; decide) (by rw [c2_2]; decide) (by rw [c2_2]; decide +kernel) (by decide) ?_
        refine g_lload_n hF 1 rfl rfl dX7_operate_28 ?_
        refine g_lload_n hF 2 rfl rfl dX7_operate_29 ?_
        refine g_ladd hF dX7_operate_30 ?_
        refine g_lstore (ls' := [(5, .long (j1 + j3)), (0, .int i0), (1, .long j1), (3, .long j3)]) hF (by rw [hn]; decide) rfl dX7_operate_31 ?_
        refine g_goto (tgt := 67) hF dX7_operate_33 (by decide) ?_
        exact gG_sub [0] rfl (t_X7_operate_67 hF hn hd  h hR)
      · replace h := gif_f c2_2 h
        have w2_0 := gsw_ne c2_0 (z := -7) (by decide)
        have w2_1 := gsw_ne c2_1 (z := -6) (by decide)
        have w2_2 := gsw_ne c2_2 (z := -5) (by decide)
        refine g_tabOut (tgt := 52) hF dX7_operate_1 (by omega) (by decide) ?_
        refine g_lload_n hF 2 rfl rfl dX7_operate_52 ?_
        refine g_lconst (v := (0 : Int64)) hF rfl dX7_operate_53 ?_
        refine g_lcmp hF dX7_operate_54 ?_
        refine g_if_ne (tgt := 62) hF dX7_operate_55 (by decide) (fun c3 => ?_) (fun c3 => ?_)
        · replace h := gif_t c3 h
          refine g_lload_n hF 1 rfl rfl dX7_operate_62 ?_
          refine g_lload_n hF 2 rfl rfl dX7_operate_63 ?_
          obtain ⟨_, h4, h⟩ := gbnd h
          refine g_ldiv hF (chk_sp h4) dX7_operate_64 ?_
          exact gG_sub [] rfl (t_X7_operate_65 hF hn hd  h hR)
        · replace h := gif_n c3 h
          refine g_lconst (v := (0 : Int64)) hF rfl dX7_operate_58 ?_
          refine g_goto (tgt := 65) hF dX7_operate_59 (by decide) ?_
          exact gG_sub [] rfl (t_X7_operate_65 hF hn hd  h hR)
theorem c_X7_operate {d : Nat} {T : gT} {M : gM} {i0 : Int32} {j1 : Int64} {j3 : Int64} {r : Int32} (hd : 2 ≤ d)  (h : f_X7_operate T M i0 j1 j3 = some (r)) : gRet d yX7_operate cX7_operate 7 (some .int) 0 0 [.int i0, .long j1, .long j3] T M (gSame T (some (.int r)) M) := by
  refine gRet_of (own := RX7) (by decide) rfl (Nat.le_of_ble_eq_true rfl) (fun Z ad0 hn h0 hF => ?_)
  exact t_X7_operate hF hn hd  h ⟨rfl, rfl, rfl, rfl⟩
theorem t_X7_factorValue {Z : gZ} {d mc ms : Nat} {Acc : Option Value → (Nat → Nat) → gT → gM → Prop} {AccX : Nat → (Nat → Nat) → gT → gM → Prop} {ad : Nat → Nat} {T : gT} {M : gM} {i0 : Int32} {i1 : Int32} {i2 : Int32} {i3 : Int32} {i4 : Int32} {o : Int32} (hF : gFix Z cX7_factorValue RX7 "factorValue" (some .int) d mc ms Acc AccX) (hn : Z.2.2.2.2.2.1 = 5) (hd : 1 ≤ d)  (h : f_X7_factorValue T M i0 i1 i2 i3 i4 = some o) (hR : Acc (some (.int o)) ad T M) : gG Z ad T M 0 0 0 [(0, .int i0), (1, .int i1), (2, .int i2), (3, .int i3), (4, .int i4)] [] := by
  unfold f_X7_factorValue at h
  refine g_iload_n hF 0 rfl rfl dX7_factorValue_0 ?_
  by_cases c1_0 : i0 = (-4 : Int32)
  · replace h := gif_t c1_0 h
    refine g_tabIn (tgt := 38) (off := 37) hF dX7_factorValue_1 (by rw [c1_0]; decide) (by rw [c1_0]; decide) (by rw [c1_0]; decide +kernel) (by decide) ?_
    refine g_iload hF 4 rfl dX7_factorValue_38 ?_
    cases h
    exact g_ret_i hF rfl rfl dX7_factorValue_40 hR (Nat.zero_le _) (Nat.zero_le _)
  · replace h := gif_f c1_0 h
    by_cases c1_1 : i0 = (-3 : Int32)
    · replace h := gif_t c1_1 h
      refine g_tabIn (tgt := 36) (off := 35) hF dX7_factorValue_1 (by rw [c1_1]; decide) (by rw [c1_1]; decide) (by rw [c1_1]; decide +kernel) (by decide) ?_
      refine g_iload_n hF 3 rfl rfl dX7_factorValue_36 ?_
      cases h
      exact g_ret_i hF rfl rfl dX7_factorValue_37 hR (Nat.zero_le _) (Nat.zero_le _)
    · replace h := gif_f c1_1 h
      by_cases c1_2 : i0 = (-2 : Int32)
      · replace h := gif_t c1_2 h
        refine g_tabIn (tgt := 34) (off := 33) hF dX7_factorValue_1 (by rw [c1_2]; decide) (by rw [c1_2]; decide) (by rw [c1_2]; decide +kernel) (by decide) ?_
        refine g_iload_n hF 2 rfl rfl dX7_factorValue_34 ?_
        cases h
        exact g_ret_i hF rfl rfl dX7_factorValue_35 hR (Nat.zero_le _) (Nat.zero_le _)
      · replace h := gif_f c1_2 h
        by_cases c1_3 : i0 = (-1 : Int32)
        · replace h := gif_t c1_3 h
          refine g_tabIn (tgt := 32) (off := 31) hF dX7_factorValue_1 (by rw [c1_3]; decide) (by rw [c1_3]; decide) (by rw [c1_3]; decide +kernel) (by decide) ?_
          refine g_iload_n hF 1 rfl rfl dX7_factorValue_32 ?_
          cases h
          exact g_ret_i hF rfl rfl dX7_factorValue_33 hR (Nat.zero_le _) (Nat.zero_le _)
        · replace h := gif_f c1_3 h
          have w1_0 := gsw_ne c1_0 (z := -4) (by decide)
          have w1_1 := gsw_ne c1_1 (z := -3) (by decide)
          have w1_2 := gsw_ne c1_2 (z := -2) (by decide)
          have w1_3 := gsw_ne c1_3 (z := -1) (by decide)
          refine g_tabOut (tgt := 41) hF dX7_factorValue_1 (by omega) (by decide) ?_
          refine g_iload_n hF 0 rfl rfl dX7_factorValue_41 ?_
          cases h
          exact g_ret_i hF rfl rfl dX7_factorValue_42 hR (Nat.zero_le _) (Nat.zero_le _)
theorem c_X7_factorValue {d : Nat} {T : gT} {M : gM} {i0 : Int32} {i1 : Int32} {i2 : Int32} {i3 : Int32} {i4 : Int32} {r : Int32} (hd : 1 ≤ d)  (h : f_X7_factorValue T M i0 i1 i2 i3 i4 = some (r)) : gRet d yX7_factorValue cX7_factorValue 5 (some .int) 0 0 [.int i0, .int i1, .int i2, .int i3, .int i4] T M (gSame T (some (.int r)) M) := by
  refine gRet_of (own := RX7) (by decide) rfl (Nat.le_of_ble_eq_true rfl) (fun Z ad0 hn h0 hF => ?_)
  exact t_X7_factorValue hF hn hd  h ⟨rfl, rfl, rfl, rfl⟩
theorem t_X7_valueOf_103 {Z : gZ} {d mc ms : Nat} {Acc : Option Value → (Nat → Nat) → gT → gM → Prop} {AccX : Nat → (Nat → Nat) → gT → gM → Prop} {ad : Nat → Nat} {T : gT} {M : gM} {m_a0 : Nat} {a0 : Nat} {i1 : Int32} {i2 : Int32} {i3 : Int32} {i4 : Int32} {i5 : Int32} {i6 : Int32} {o : (gM) ⊕ (Int32 × Int32 × gM)} (hF : gFix Z cX7_valueOf RX7 "valueOf" (some .int) d mc ms Acc AccX) (hn : Z.2.2.2.2.2.1 = 8) (hd : 3 ≤ d) (q0 : T[a0]? = some (7, m_a0)) (h : f_X7_valueOf_103 T M a0 i1 i2 i3 i4 i5 i6 = some o) (hE : ∀ e9, o = .inl e9 → gG Z ad T e9 0 0 109 [(0, .ref a0)] []) (hN : ∀ n9, o = .inr n9 → gG Z ad T n9.2.2 0 0 6 [(0, .ref a0), (1, .int i1), (2, .int i2), (3, .int i3), (4, .int i4), (5, .int n9.1), (6, .int n9.2.1)] []) : gG Z ad T M 0 0 103 [(0, .ref a0), (1, .int i1), (2, .int i2), (3, .int i3), (4, .int i4), (5, .int i5), (6, .int i6)] [] := by
  unfold f_X7_valueOf_103 at h
  refine g_iinc (n := 1) (v := (i6 + (1 : Int32))) (ls' := [(6, .int (i6 + (1 : Int32))), (0, .ref a0), (1, .int i1), (2, .int i2), (3, .int i3), (4, .int i4), (5, .int i5)]) hF 6 rfl rfl (by rw [hn]; decide) rfl dX7_valueOf_103 ?_
  refine g_goto (tgt := 6) hF dX7_valueOf_106 (by decide) ?_
  exact gG_sub [1, 2, 3, 4, 5, 6, 0] rfl (hN _ (Option.some.inj h).symm)
theorem t_X7_valueOf_B6 {Z : gZ} {d mc ms : Nat} {Acc : Option Value → (Nat → Nat) → gT → gM → Prop} {AccX : Nat → (Nat → Nat) → gT → gM → Prop} {ad : Nat → Nat} {T : gT} {M : gM} {m_a0 : Nat} {a0 : Nat} {i1 : Int32} {i2 : Int32} {i3 : Int32} {i4 : Int32} {i5 : Int32} {i6 : Int32} {o : (gM) ⊕ (Int32 × Int32 × gM)} (hF : gFix Z cX7_valueOf RX7 "valueOf" (some .int) d mc ms Acc AccX) (hn : Z.2.2.2.2.2.1 = 8) (hd : 3 ≤ d) (q0 : T[a0]? = some (7, m_a0)) (h : f_X7_valueOf_B6 T M a0 i1 i2 i3 i4 i5 i6 = some o) (hE : ∀ e9, o = .inl e9 → gG Z ad T e9 0 0 109 [(0, .ref a0)] []) (hN : ∀ n9, o = .inr n9 → gG Z ad T n9.2.2 0 0 6 [(0, .ref a0), (1, .int i1), (2, .int i2), (3, .int i3), (4, .int i4), (5, .int n9.1), (6, .int n9.2.1)] []) : gG Z ad T M 0 0 6 [(0, .ref a0), (1, .int i1), (2, .int i2), (3, .int i3), (4, .int i4), (5, .int i5), (6, .int i6)] [] := by
  unfold f_X7_valueOf_B6 at h
  refine g_iload hF 6 rfl dX7_valueOf_6 ?_
  refine g_aload_n hF 0 rfl rfl dX7_valueOf_8 ?_
  obtain ⟨b1, h1, h⟩ := gbnd h
  obtain ⟨g1, l1, q_b1⟩ := ldr_sp h1
  refine g_get_r hF g1 fl_RX7_13 q0 dX7_valueOf_9 ?_
  refine g_alenA hF q_b1 (by decide) dX7_valueOf_12 ?_
  refine g_icmp_ge (tgt := 109) hF dX7_valueOf_13 (by decide) (fun c2 => ?_) (fun c2 => ?_)
  · replace h := gif_t c2 h
    exact gG_sub [0] rfl (hE _ (Option.some.inj h).symm)
  · replace h := gif_f c2 h
    refine g_aload_n hF 0 rfl rfl dX7_valueOf_16 ?_
    obtain ⟨b3, h3, h⟩ := gbnd h
    obtain ⟨g3, l3, q_b3⟩ := ldr_sp h3
    refine g_get_r hF g3 fl_RX7_13 q0 dX7_valueOf_17 ?_
    refine g_iload hF 6 rfl dX7_valueOf_20 ?_
    obtain ⟨v4, h4, h⟩ := gbnd h
    obtain ⟨i4h, e4v⟩ := ald_sp q_b3 h4
    refine g_iald hF q_b3 i4h dX7_valueOf_22 ?_
    rw [← e4v]
    refine g_istore (ls' := [(7, .int v4), (0, .ref a0), (1, .int i1), (2, .int i2), (3, .int i3), (4, .int i4), (5, .int i5), (6, .int i6)]) hF (by rw [hn]; decide) rfl dX7_valueOf_23 ?_
    refine g_iload hF 0 rfl dX7_valueOf_25 ?_
    refine g_bipush (v := (-5 : Int32)) hF rfl dX7_valueOf_27 ?_
    refine g_icmp_gt (tgt := 76) hF dX7_valueOf_29 (by decide) (fun c5 => ?_) (fun c5 => ?_)
    · replace h := gif_t c5 h
      refine g_iload hF 6 rfl dX7_valueOf_76 ?_
      refine g_bipush (v := (11 : Int32)) hF rfl dX7_valueOf_78 ?_
      refine g_icmp_ge (tgt := 103) hF dX7_valueOf_80 (by decide) (fun c6 => ?_) (fun c6 => ?_)
      · replace h := gif_t c6 h
        exact gG_sub [1, 2, 3, 4, 5, 6, 7] rfl (t_X7_valueOf_103 hF hn hd q0 h hE hN)
      · replace h := gif_f c6 h
        refine g_aload_n hF 1 rfl rfl dX7_valueOf_83 ?_
        obtain ⟨b7, h7, h⟩ := gbnd h
        obtain ⟨g7, l7, q_b7⟩ := ldr_sp h7
        refine g_get_r hF g7 fl_RX7_9 q0 dX7_valueOf_84 ?_
        refine g_iload hF 6 rfl dX7_valueOf_87 ?_
        refine g_iload hF 0 rfl dX7_valueOf_89 ?_
        refine g_iload_n hF 2 rfl rfl dX7_valueOf_91 ?_
        refine g_iload_n hF 3 rfl rfl dX7_valueOf_92 ?_
        refine g_iload_n hF 4 rfl rfl dX7_valueOf_93 ?_
        refine g_iload hF 5 rfl dX7_valueOf_94 ?_
        obtain ⟨x8, h8, h⟩ := gbnd h
        refine g_callS hF my_X7_factorValue kw_448 kw_449 (c_X7_factorValue (d := d - 1) (by omega)  h8) (by omega) (Nat.zero_le _) (Nat.zero_le _) rfl rfl (Nat.le_of_ble_eq_true rfl) dX7_valueOf_96 (g_sameS ?_)
        obtain ⟨M9, h9, h⟩ := gbnd h
        obtain ⟨i9h, e9v⟩ := ast_sp q_b7 h9
        refine g_iast hF q_b7 i9h dX7_valueOf_99 ?_
        rw [← e9v]
        refine g_iinc (n := 1) (v := (i5 + (1 : Int32))) (ls' := [(5, .int (i5 + (1 : Int32))), (7, .int v4), (0, .ref a0), (1, .int i1), (2, .int i2), (3, .int i3), (4, .int i4), (6, .int i6)]) hF 6 rfl rfl (by rw [hn]; decide) rfl dX7_valueOf_100 ?_
        exact gG_sub [2, 3, 4, 5, 6, 0, 7] rfl (t_X7_valueOf_103 hF hn hd q0 h hE hN)
    · replace h := gif_f c5 h
      refine g_iload hF 6 rfl dX7_valueOf_32 ?_
      refine g_iconst (v := (2 : Int32)) hF rfl dX7_valueOf_34 ?_
      refine g_icmp_lt (tgt := 103) hF dX7_valueOf_35 (by decide) (fun c10 => ?_) (fun c10 => ?_)
      · replace h := gif_t c10 h
        exact gG_sub [1, 2, 3, 4, 5, 6, 7] rfl (t_X7_valueOf_103 hF hn hd q0 h hE hN)
      · replace h := gif_f c10 h
        refine g_iinc (n := -1) (v := (i5 + (-1 : Int32))) (ls' := [(5, .int (i5 + (-1 : Int32))), (7, .int v4), (0, .ref a0), (1, .int i1), (2, .int i2), (3, .int i3), (4, .int i4), (6, .int i6)]) hF 6 rfl (congrArg (HAdd.hAdd i5) (by decide)) (by rw [hn]; decide) rfl dX7_valueOf_38 ?_
        refine g_aload_n hF 2 rfl rfl dX7_valueOf_41 ?_
        obtain ⟨b11, h11, h⟩ := gbnd h
        obtain ⟨g11, l11, q_b11⟩ := ldr_sp h11
        refine g_get_r hF g11 fl_RX7_9 q0 dX7_valueOf_42 ?_
        refine g_iload hF 0 rfl dX7_valueOf_45 ?_
        refine g_iconst (v := (1 : Int32)) hF rfl dX7_valueOf_47 ?_
        refine g_isub hF dX7_valueOf_48 ?_
        refine g_iload hF 1 rfl dX7_valueOf_49 ?_
        refine g_aload_n hF 2 rfl rfl dX7_valueOf_51 ?_
        obtain ⟨b12, h12, h⟩ := gbnd h
        obtain ⟨g12, l12, q_b12⟩ := ldr_sp h12
        refine g_get_r hF g12 fl_RX7_9 q0 dX7_valueOf_52 ?_
        refine g_iload hF 0 rfl dX7_valueOf_55 ?_
        refine g_iconst (v := (1 : Int32)) hF rfl dX7_valueOf_57 ?_
        refine g_isub hF dX7_valueOf_58 ?_
        obtain ⟨v13, h13, h⟩ := gbnd h
        obtain ⟨i13h, e13v⟩ := ald_sp q_b12 h13
        refine g_iald hF q_b12 i13h dX7_valueOf_59 ?_
        rw [← e13v]
        refine g_i2l hF dX7_valueOf_60 ?_
        refine g_aload_n hF 2 rfl rfl dX7_valueOf_61 ?_
        obtain ⟨b14, h14, h⟩ := gbnd h
        obtain ⟨g14, l14, q_b14⟩ := ldr_sp h14
        refine g_get_r hF g14 fl_RX7_9 q0 dX7_valueOf_62 ?_
        refine g_iload hF 0 rfl dX7_valueOf_65 ?_
        obtain ⟨v15, h15, h⟩ := gbnd h
        obtain ⟨i15h, e15v⟩ := ald_sp q_b14 h15
        refine g_iald hF q_b14 i15h dX7_valueOf_67 ?_
        rw [← e15v]
        refine g_i2l hF dX7_valueOf_68 ?_
        obtain ⟨x16, h16, h⟩ := gbnd h
        refine g_callS hF my_X7_operate kw_434 kw_435 (c_X7_operate (d := d - 1) (by omega)  h16) (by omega) (Nat.zero_le _) (Nat.zero_le _) rfl rfl (Nat.le_of_ble_eq_true rfl) dX7_valueOf_69 (g_sameS ?_)
        obtain ⟨M17, h17, h⟩ := gbnd h
        obtain ⟨i17h, e17v⟩ := ast_sp q_b11 h17
        refine g_iast hF q_b11 i17h dX7_valueOf_72 ?_
        rw [← e17v]
        refine g_goto (tgt := 103) hF dX7_valueOf_73 (by decide) ?_
        exact gG_sub [2, 3, 4, 5, 6, 0, 7] rfl (t_X7_valueOf_103 hF hn hd q0 h hE hN)
theorem t_X7_valueOf_L6 {Z : gZ} {d mc ms : Nat} {Acc : Option Value → (Nat → Nat) → gT → gM → Prop} {AccX : Nat → (Nat → Nat) → gT → gM → Prop} {ad : Nat → Nat} {T : gT} {M : gM} {m_a0 : Nat} {a0 : Nat} {i1 : Int32} {i2 : Int32} {i3 : Int32} {i4 : Int32} {i5 : Int32} {i6 : Int32} {o : gM} (hF : gFix Z cX7_valueOf RX7 "valueOf" (some .int) d mc ms Acc AccX) (hn : Z.2.2.2.2.2.1 = 8) (hd : 3 ≤ d) (q0 : T[a0]? = some (7, m_a0)) (h : gloop (fun x => f_X7_valueOf_B6 T x.2.2 a0 i1 i2 i3 i4 x.1 x.2.1) gFU (i5, i6, M) = some o) (hE : gG Z ad T o 0 0 109 [(0, .ref a0)] []) : gG Z ad T M 0 0 6 [(0, .ref a0), (1, .int i1), (2, .int i2), (3, .int i3), (4, .int i4), (5, .int i5), (6, .int i6)] [] := by
  refine gloop_ind (P := fun x0 : Int32 × Int32 × gM => gG Z ad T x0.2.2 0 0 6 [(0, .ref a0), (1, .int i1), (2, .int i2), (3, .int i3), (4, .int i4), (5, .int x0.1), (6, .int x0.2.1)] []) (e := o) (fun x0 y hy hl hr => ?_) gFU (i5, i6, M) h
  exact t_X7_valueOf_B6 hF hn hd q0 hy (fun e9 q9 => by rw [hl _ q9]; exact hE) (fun n9 q9 => hr n9 q9)
theorem t_X7_valueOf {Z : gZ} {d mc ms : Nat} {Acc : Option Value → (Nat → Nat) → gT → gM → Prop} {AccX : Nat → (Nat → Nat) → gT → gM → Prop} {ad : Nat → Nat} {T : gT} {M : gM} {m_a0 : Nat} {a0 : Nat} {i1 : Int32} {i2 : Int32} {i3 : Int32} {i4 : Int32} {o : Int32 × gM} (hF : gFix Z cX7_valueOf RX7 "valueOf" (some .int) d mc ms Acc AccX) (hn : Z.2.2.2.2.2.1 = 8) (hd : 3 ≤ d) (q0 : T[a0]? = some (7, m_a0)) (h : f_X7_valueOf T M a0 i1 i2 i3 i4 = some o) (hR : Acc (some (.int o.1)) ad T o.2) : gG Z ad T M 0 0 0 [(0, .ref a0), (1, .int i1), (2, .int i2), (3, .int i3), (4, .int i4)] [] := by
  unfold f_X7_valueOf at h
  refine g_iconst (v := (0 : Int32)) hF rfl dX7_valueOf_0 ?_
  refine g_istore (ls' := [(5, .int (0 : Int32)), (0, .ref a0), (1, .int i1), (2, .int i2), (3, .int i3), (4, .int i4)]) hF (by rw [hn]; decide) rfl dX7_valueOf_1 ?_
  refine g_iconst (v := (0 : Int32)) hF rfl dX7_valueOf_3 ?_
  refine g_istore (ls' := [(6, .int (0 : Int32)), (5, .int (0 : Int32)), (0, .ref a0), (1, .int i1), (2, .int i2), (3, .int i3), (4, .int i4)]) hF (by rw [hn]; decide) rfl dX7_valueOf_4 ?_
  obtain ⟨x18, h18, h⟩ := gbnd h
  refine gG_sub [2, 3, 4, 5, 6, 1, 0] rfl (t_X7_valueOf_L6 hF hn hd q0 h18 ?_)
  refine g_aload_n hF 0 rfl rfl dX7_valueOf_109 ?_
  obtain ⟨b19, h19, h⟩ := gbnd h
  obtain ⟨g19, l19, q_b19⟩ := ldr_sp h19
  refine g_get_r hF g19 fl_RX7_9 q0 dX7_valueOf_110 ?_
  refine g_iconst (v := (0 : Int32)) hF rfl dX7_valueOf_113 ?_
  obtain ⟨v20, h20, h⟩ := gbnd h
  obtain ⟨i20h, e20v⟩ := ald_sp q_b19 h20
  refine g_iald hF q_b19 i20h dX7_valueOf_114 ?_
  rw [← e20v]
  refine g_i2l hF dX7_valueOf_115 ?_
  refine g_iconst (v := (0 : Int32)) hF rfl dX7_valueOf_116 ?_
  refine g_sipush (v := (9999 : Int32)) hF rfl dX7_valueOf_117 ?_
  obtain ⟨x21, h21, h⟩ := gbnd h
  refine g_callS hF my_X7_limited kw_439 kw_440 (c_X7_limited (d := d - 1) (by omega)  h21) (by omega) (Nat.zero_le _) (Nat.zero_le _) rfl rfl (Nat.le_of_ble_eq_true rfl) dX7_valueOf_120 (g_sameS ?_)
  cases h
  exact g_ret_i hF rfl rfl dX7_valueOf_123 hR (Nat.zero_le _) (Nat.zero_le _)
theorem c_X7_valueOf {d : Nat} {T : gT} {M : gM} {m_a0 : Nat} {a0 : Nat} {i1 : Int32} {i2 : Int32} {i3 : Int32} {i4 : Int32} {r : Int32 × gM} (hd : 3 ≤ d) (q0 : T[a0]? = some (7, m_a0)) (h : f_X7_valueOf T M a0 i1 i2 i3 i4 = some (r)) : gRet d yX7_valueOf cX7_valueOf 8 (some .int) 0 0 [.ref a0, .int i1, .int i2, .int i3, .int i4] T M (gSame T (some (.int r.1)) r.2) := by
  refine gRet_of (own := RX7) (by decide) rfl (Nat.le_of_ble_eq_true rfl) (fun Z ad0 hn h0 hF => ?_)
  exact t_X7_valueOf hF hn hd q0 h ⟨rfl, rfl, rfl, rfl⟩
theorem t_X0_weightOf {Z : gZ} {d mc ms : Nat} {Acc : Option Value → (Nat → Nat) → gT → gM → Prop} {AccX : Nat → (Nat → Nat) → gT → gM → Prop} {ad : Nat → Nat} {T : gT} {M : gM} {m_a0 : Nat} {a0 : Nat} {i1 : Int32} {o : Int32 × gM} (hF : gFix Z cX0_weightOf RX0 "weightOf" (some .int) d mc ms Acc AccX) (hn : Z.2.2.2.2.2.1 = 3) (hd : 4 ≤ d) (q0 : T[a0]? = some (0, m_a0)) (h : f_X0_weightOf T M a0 i1 = some o) (hR : Acc (some (.int o.1)) ad T o.2) : gG Z ad T M 0 0 0 [(0, .ref a0), (1, .int i1)] [] := by
  unfold f_X0_weightOf at h
  refine g_aload_n hF 0 rfl rfl dX0_weightOf_0 ?_
  obtain ⟨b1, h1, h⟩ := gbnd h
  obtain ⟨g1, l1, q_b1⟩ := ldr_sp h1
  refine g_get_r hF g1 fl_RX0_11 q0 dX0_weightOf_1 ?_
  refine g_iload_n hF 1 rfl rfl dX0_weightOf_4 ?_
  obtain ⟨b2, h2, h⟩ := gbnd h
  obtain ⟨i2h, g2, l2, q_b2⟩ := aldr_sp q_b1 h2
  refine g_aald hF q_b1 (Or.inr (Or.inl ⟨rfl, rfl⟩)) i2h g2 dX0_weightOf_5 ?_
  refine g_astore_n (ls' := [(2, .ref b2), (0, .ref a0), (1, .int i1)]) hF rfl (by rw [hn]; decide) rfl dX0_weightOf_6 ?_
  refine g_aload_n hF 1 rfl rfl dX0_weightOf_7 ?_
  obtain ⟨b3, h3, h⟩ := gbnd h
  obtain ⟨g3, l3, q_b3⟩ := ldr_sp h3
  refine g_get_r hF g3 fl_RX0_32 q0 dX0_weightOf_8 ?_
  refine g_aload_n hF 0 rfl rfl dX0_weightOf_11 ?_
  refine g_get_iN hF fn_RX0_55 q_b2 dX0_weightOf_12 ?_
  refine g_aload_n hF 0 rfl rfl dX0_weightOf_15 ?_
  refine g_get_iN hF fn_RX0_49 q_b2 dX0_weightOf_16 ?_
  refine g_aload_n hF 0 rfl rfl dX0_weightOf_19 ?_
  obtain ⟨x4, h4, h⟩ := gbnd h
  refine g_callVN hF my_X3_countOffers kn_413 kw_415 kw_6 gC_3.1 (by decide) q_b2 (c_X3_countOffers (d := d - 1) (by omega) q_b2 h4) (by omega) (Nat.zero_le _) (Nat.zero_le _) rfl rfl (Nat.le_of_ble_eq_true rfl) dX0_weightOf_20 (g_sameS ?_)
  refine g_aload_n hF 1 rfl rfl dX0_weightOf_23 ?_
  refine g_iload_n hF 2 rfl rfl dX0_weightOf_24 ?_
  obtain ⟨x5, h5, h⟩ := gbnd h
  refine g_callV hF my_X0_friendsOf kw_421 kw_423 kw_8 gC_0.1 (by decide) q0 (c_X0_friendsOf (d := d - 1) (by omega) q0 h5) (by omega) (Nat.zero_le _) (Nat.zero_le _) rfl rfl (Nat.le_of_ble_eq_true rfl) dX0_weightOf_25 (g_sameS ?_)
  obtain ⟨x6, h6, h⟩ := gbnd h
  refine g_callVN hF my_X7_valueOf kn_430 kw_432 kw_10 gC_7.1 (by decide) q_b3 (c_X7_valueOf (d := d - 1) (by omega) q_b3 h6) (by omega) (Nat.zero_le _) (Nat.zero_le _) rfl rfl (Nat.le_of_ble_eq_true rfl) dX0_weightOf_28 (g_sameS ?_)
  cases h
  exact g_ret_i hF rfl rfl dX0_weightOf_31 hR (Nat.zero_le _) (Nat.zero_le _)
theorem c_X0_weightOf {d : Nat} {T : gT} {M : gM} {m_a0 : Nat} {a0 : Nat} {i1 : Int32} {r : Int32 × gM} (hd : 4 ≤ d) (q0 : T[a0]? = some (0, m_a0)) (h : f_X0_weightOf T M a0 i1 = some (r)) : gRet d yX0_weightOf cX0_weightOf 3 (some .int) 0 0 [.ref a0, .int i1] T M (gSame T (some (.int r.1)) r.2) := by
  refine gRet_of (own := RX0) (by decide) rfl (Nat.le_of_ble_eq_true rfl) (fun Z ad0 hn h0 hF => ?_)
  exact t_X0_weightOf hF hn hd q0 h ⟨rfl, rfl, rfl, rfl⟩
