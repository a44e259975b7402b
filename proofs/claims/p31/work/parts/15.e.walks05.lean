theorem c_X10_weight {d : Nat} {T : gT} {M : gM} {c9 s9 : Nat} {m_a0 : Nat} {a0 : Nat} {i1 : Int32} {o : Int32 × gT × gM} (hd : 8 ≤ d) (q0 : T[a0]? = some (16, m_a0)) (h : f_X10_weight T M a0 i1 = some (o, c9, s9)) : gRet d yX10_weight cX10_weight 7 (some .int) c9 s9 [.ref a0, .int i1] T M (gMade T (some (.int o.1)) o.2.1 o.2.2) := by
  refine gRet_of (own := RX10) (by decide) rfl (Nat.le_of_ble_eq_true rfl) (fun Z ad0 hn h0 hF => ?_)
  exact t_X10_weight (ce := 0) (so := 0) hF hn hd (by omega) (by omega) q0 h (fun ad1 x1 y1 => ⟨rfl, rfl, rfl, x1, y1⟩)
theorem t_X10_isCandidate_28 {Z : gZ} {d mc ms : Nat} {Acc : Option Value → (Nat → Nat) → gT → gM → Prop} {AccX : Nat → (Nat → Nat) → gT → gM → Prop} {ad : Nat → Nat} {T : gT} {M : gM} {ce so : Nat}  {k0 : Int32} {o : Int32} (hF : gFix Z cX10_isCandidate RX10 "isCandidate" (some .boolean) d mc ms Acc AccX) (hn : Z.2.2.2.2.2.1 = 3) (hd : 2 ≤ d) (hk1 : ce ≤ mc) (hk2 : so ≤ ms)  (h : f_X10_isCandidate_28 T M k0 = some o) (hR : Acc (some (.int o)) ad T M) : gG Z ad T M ce so 28 [] [.int k0] := by
  unfold f_X10_isCandidate_28 at h
  obtain ⟨_, h1, h⟩ := gbnd h
  obtain rfl := Option.some.inj h
  exact g_ret_i hF rfl (gbool (chk_sp h1)) dX10_isCandidate_28 hR (by omega) (by omega)
theorem t_X10_isCandidate_27 {Z : gZ} {d mc ms : Nat} {Acc : Option Value → (Nat → Nat) → gT → gM → Prop} {AccX : Nat → (Nat → Nat) → gT → gM → Prop} {ad : Nat → Nat} {T : gT} {M : gM} {ce so : Nat}  {o : Int32} (hF : gFix Z cX10_isCandidate RX10 "isCandidate" (some .boolean) d mc ms Acc AccX) (hn : Z.2.2.2.2.2.1 = 3) (hd : 2 ≤ d) (hk1 : ce ≤ mc) (hk2 : so ≤ ms)  (h : f_X10_isCandidate_27 T M  = some o) (hR : Acc (some (.int o)) ad T M) : gG Z ad T M ce so 27 [] [] := by
  unfold f_X10_isCandidate_27 at h
  refine g_iconst (v := (0 : Int32)) hF rfl dX10_isCandidate_27 ?_
  exact gG_sub [] rfl (t_X10_isCandidate_28 hF hn hd (by omega) (by omega)  h hR)
theorem t_X10_isCandidate {Z : gZ} {d mc ms : Nat} {Acc : Option Value → (Nat → Nat) → gT → gM → Prop} {AccX : Nat → (Nat → Nat) → gT → gM → Prop} {ad : Nat → Nat} {T : gT} {M : gM} {ce so : Nat} {m_a0 : Nat} {a0 : Nat} {i1 : Int32} {i2 : Int32} {o : Int32} (hF : gFix Z cX10_isCandidate RX10 "isCandidate" (some .boolean) d mc ms Acc AccX) (hn : Z.2.2.2.2.2.1 = 3) (hd : 2 ≤ d) (hk1 : ce ≤ mc) (hk2 : so ≤ ms) (q0 : T[a0]? = some (16, m_a0)) (h : f_X10_isCandidate T M a0 i1 i2 = some o) (hR : Acc (some (.int o)) ad T M) : gG Z ad T M ce so 0 [(0, .ref a0), (1, .int i1), (2, .int i2)] [] := by
  unfold f_X10_isCandidate at h
  refine g_aload_n hF 0 rfl rfl dX10_isCandidate_0 ?_
  refine g_iload_n hF 1 rfl rfl dX10_isCandidate_1 ?_
  obtain ⟨x2, h2, h⟩ := gbnd h
  refine g_callV hF my_X10_rank kw_579 kw_568 kw_569 gC_16.1 (by decide) q0 (c_X10_rank (d := d - 1) (by omega) q0 h2) (by omega) (by omega) (by omega) rfl rfl (Nat.le_of_ble_eq_true rfl) dX10_isCandidate_2 (g_sameS ?_)
  refine g_if_lt (tgt := 27) hF dX10_isCandidate_5 (by decide) (fun c3 => ?_) (fun c3 => ?_)
  · replace h := gif_t c3 h
    exact gG_sub [] rfl (t_X10_isCandidate_27 hF hn hd (by omega) (by omega)  h hR)
  · replace h := gif_f c3 h
    refine g_aload_n hF 0 rfl rfl dX10_isCandidate_8 ?_
    obtain ⟨b4, h4, h⟩ := gbnd h
    obtain ⟨g4, l4, q_b4⟩ := ldr_sp h4
    refine g_get_r hF g4 fl_RX10_15 q0 dX10_isCandidate_9 ?_
    refine g_iload_n hF 1 rfl rfl dX10_isCandidate_12 ?_
    obtain ⟨b5, h5, h⟩ := gbnd h
    obtain ⟨i5h, g5, l5, q_b5⟩ := aldr_sp q_b4 h5
    refine g_aald hF q_b4 (Or.inr (Or.inr (Or.inl ⟨rfl, rfl⟩))) i5h g5 dX10_isCandidate_13 ?_
    obtain ⟨b6, h6, h⟩ := gbnd h
    obtain ⟨g6, l6, q_b6⟩ := ldr_sp h6
    refine g_get_r hF g6 fl_RX10_72 q_b5 dX10_isCandidate_14 ?_
    refine g_iload_n hF 2 rfl rfl dX10_isCandidate_17 ?_
    obtain ⟨v7, h7, h⟩ := gbnd h
    obtain ⟨i7h, e7v⟩ := ald_sp q_b6 h7
    refine g_iald hF q_b6 i7h dX10_isCandidate_18 ?_
    rw [← e7v]
    refine g_iconst (v := (-1 : Int32)) hF rfl dX10_isCandidate_19 ?_
    refine g_icmp_eq (tgt := 27) hF dX10_isCandidate_20 (by decide) (fun c8 => ?_) (fun c8 => ?_)
    · replace h := gif_t c8 h
      exact gG_sub [] rfl (t_X10_isCandidate_27 hF hn hd (by omega) (by omega)  h hR)
    · replace h := gif_f c8 h
      refine g_iconst (v := (1 : Int32)) hF rfl dX10_isCandidate_23 ?_
      refine g_goto (tgt := 28) hF dX10_isCandidate_24 (by decide) ?_
      exact gG_sub [] rfl (t_X10_isCandidate_28 hF hn hd (by omega) (by omega)  h hR)
theorem c_X10_isCandidate {d : Nat} {T : gT} {M : gM} {m_a0 : Nat} {a0 : Nat} {i1 : Int32} {i2 : Int32} {o : Int32} (hd : 2 ≤ d) (q0 : T[a0]? = some (16, m_a0)) (h : f_X10_isCandidate T M a0 i1 i2 = some o) : gRet d yX10_isCandidate cX10_isCandidate 3 (some .boolean) 0 0 [.ref a0, .int i1, .int i2] T M (gSame T (some (.int o)) M) := by
  refine gRet_of (own := RX10) (by decide) rfl (Nat.le_of_ble_eq_true rfl) (fun Z ad0 hn h0 hF => ?_)
  exact t_X10_isCandidate (ce := 0) (so := 0) hF hn hd (Nat.le_refl _) (Nat.le_refl _) q0 h ⟨rfl, rfl, rfl, rfl⟩
theorem t_X10_vote_B38 {Z : gZ} {d mc ms : Nat} {Acc : Option Value → (Nat → Nat) → gT → gM → Prop} {AccX : Nat → (Nat → Nat) → gT → gM → Prop} {ad : Nat → Nat} {T : gT} {M : gM} {ce so : Nat} {m_a0 m_a3 : Nat} {a0 : Nat} {i2 : Int32} {a3 : Nat} {i4 : Int32} {i5 : Int32} {o : (Int32) ⊕ (Int32)} (hF : gFix Z cX10_vote RX10 "vote" (some .int) d mc ms Acc AccX) (hn : Z.2.2.2.2.2.1 = 7) (hd : 3 ≤ d) (hk1 : ce ≤ mc) (hk2 : so ≤ ms) (q0 : T[a0]? = some (16, m_a0)) (q3 : T[a3]? = some (11, m_a3)) (h : f_X10_vote_B38 T M a0 i2 a3 i4 i5 = some o) (hR : ∀ r9, o = .inl r9 → Acc (some (.int r9)) ad T M) (hN : ∀ n9, o = .inr n9 → gG Z ad T M ce so 38 [(0, .ref a0), (2, .int i2), (3, .ref a3), (4, .int i4), (5, .int n9)] []) : gG Z ad T M ce so 38 [(0, .ref a0), (2, .int i2), (3, .ref a3), (4, .int i4), (5, .int i5)] [] := by
  unfold f_X10_vote_B38 at h
  refine g_iload hF 4 rfl dX10_vote_38 ?_
  refine g_iload hF 3 rfl dX10_vote_40 ?_
  refine g_icmp_ge (tgt := 70) hF dX10_vote_42 (by decide) (fun c1 => ?_) (fun c1 => ?_)
  · replace h := gif_t c1 h
    refine g_iconst (v := (-1 : Int32)) hF rfl dX10_vote_70 ?_
    obtain rfl := Option.some.inj h
    exact g_ret_i hF rfl rfl dX10_vote_71 (hR _ rfl) (by omega) (by omega)
  · replace h := gif_f c1 h
    refine g_aload_n hF 2 rfl rfl dX10_vote_45 ?_
    refine g_iload hF 4 rfl dX10_vote_46 ?_
    obtain ⟨v2, h2, h⟩ := gbnd h
    obtain ⟨i2h, e2v⟩ := ald_sp q3 h2
    refine g_iald hF q3 i2h dX10_vote_48 ?_
    rw [← e2v]
    refine g_istore (ls' := [(6, .int v2), (0, .ref a0), (2, .int i2), (3, .ref a3), (4, .int i4), (5, .int i5)]) hF (by rw [hn]; decide) rfl dX10_vote_49 ?_
    refine g_aload_n hF 1 rfl rfl dX10_vote_51 ?_
    refine g_iload hF 0 rfl dX10_vote_52 ?_
    refine g_iload_n hF 2 rfl rfl dX10_vote_54 ?_
    obtain ⟨x3, h3, h⟩ := gbnd h
    refine g_callV hF my_X10_isCandidate kw_575 kw_576 kw_577 gC_16.1 (by decide) q0 (c_X10_isCandidate (d := d - 1) (by omega) q0 h3) (by omega) (by omega) (by omega) rfl rfl (Nat.le_of_ble_eq_true rfl) dX10_vote_55 (g_sameS ?_)
    refine g_if_eq (tgt := 64) hF dX10_vote_58 (by decide) (fun c4 => ?_) (fun c4 => ?_)
    · replace h := gif_t c4 h
      refine g_iinc (n := 1) (v := (i5 + (1 : Int32))) (ls' := [(5, .int (i5 + (1 : Int32))), (6, .int v2), (0, .ref a0), (2, .int i2), (3, .ref a3), (4, .int i4)]) hF 5 rfl rfl (by rw [hn]; decide) rfl dX10_vote_64 ?_
      refine g_goto (tgt := 38) hF dX10_vote_67 (by decide) ?_
      exact gG_sub [2, 3, 4, 5, 0] rfl (hN _ (Option.some.inj h).symm)
    · replace h := gif_f c4 h
      refine g_iload hF 0 rfl dX10_vote_61 ?_
      obtain rfl := Option.some.inj h
      exact g_ret_i hF rfl rfl dX10_vote_63 (hR _ rfl) (by omega) (by omega)
theorem t_X10_vote_L38 {Z : gZ} {d mc ms : Nat} {Acc : Option Value → (Nat → Nat) → gT → gM → Prop} {AccX : Nat → (Nat → Nat) → gT → gM → Prop} {ad : Nat → Nat} {T : gT} {M : gM} {ce so : Nat} {m_a0 m_a3 : Nat} {a0 : Nat} {i2 : Int32} {a3 : Nat} {i4 : Int32} {i5 : Int32} {o : Int32} (hF : gFix Z cX10_vote RX10 "vote" (some .int) d mc ms Acc AccX) (hn : Z.2.2.2.2.2.1 = 7) (hd : 3 ≤ d) (hk1 : ce ≤ mc) (hk2 : so ≤ ms) (q0 : T[a0]? = some (16, m_a0)) (q3 : T[a3]? = some (11, m_a3)) (h : gloop (fun x => f_X10_vote_B38 T M a0 i2 a3 i4 x) gFU i5 = some o) (hR : Acc (some (.int o)) ad T M) : gG Z ad T M ce so 38 [(0, .ref a0), (2, .int i2), (3, .ref a3), (4, .int i4), (5, .int i5)] [] := by
  refine gloop_ind (P := fun x0 : Int32 => gG Z ad T M ce so 38 [(0, .ref a0), (2, .int i2), (3, .ref a3), (4, .int i4), (5, .int x0)] []) (e := o) (fun x0 y hy hl hr => ?_) gFU i5 h
  exact t_X10_vote_B38 hF hn hd hk1 hk2 q0 q3 hy (fun r9 q9 => by rw [hl _ q9]; exact hR) (fun n9 q9 => hr n9 q9)
theorem t_X10_vote {Z : gZ} {d mc ms : Nat} {Acc : Option Value → (Nat → Nat) → gT → gM → Prop} {AccX : Nat → (Nat → Nat) → gT → gM → Prop} {ad : Nat → Nat} {T : gT} {M : gM} {ce so : Nat} {m_a0 : Nat} {a0 : Nat} {i1 : Int32} {i2 : Int32} {o : Int32} (hF : gFix Z cX10_vote RX10 "vote" (some .int) d mc ms Acc AccX) (hn : Z.2.2.2.2.2.1 = 7) (hd : 3 ≤ d) (hk1 : ce ≤ mc) (hk2 : so ≤ ms) (q0 : T[a0]? = some (16, m_a0)) (h : f_X10_vote T M a0 i1 i2 = some o) (hR : Acc (some (.int o)) ad T M) : gG Z ad T M ce so 0 [(0, .ref a0), (1, .int i1), (2, .int i2)] [] := by
  unfold f_X10_vote at h
  refine g_aload_n hF 0 rfl rfl dX10_vote_0 ?_
  refine g_iload_n hF 1 rfl rfl dX10_vote_1 ?_
  obtain ⟨x5, h5, h⟩ := gbnd h
  refine g_callV hF my_X10_rank kw_579 kw_568 kw_569 gC_16.1 (by decide) q0 (c_X10_rank (d := d - 1) (by omega) q0 h5) (by omega) (by omega) (by omega) rfl rfl (Nat.le_of_ble_eq_true rfl) dX10_vote_2 (g_sameS ?_)
  refine g_if_ge (tgt := 10) hF dX10_vote_5 (by decide) (fun c6 => ?_) (fun c6 => ?_)
  · replace h := gif_t c6 h
    refine g_aload_n hF 0 rfl rfl dX10_vote_10 ?_
    refine g_iload_n hF 1 rfl rfl dX10_vote_11 ?_
    refine g_iload_n hF 2 rfl rfl dX10_vote_12 ?_
    obtain ⟨x7, h7, h⟩ := gbnd h
    refine g_callV hF my_X10_isCandidate kw_575 kw_576 kw_577 gC_16.1 (by decide) q0 (c_X10_isCandidate (d := d - 1) (by omega) q0 h7) (by omega) (by omega) (by omega) rfl rfl (Nat.le_of_ble_eq_true rfl) dX10_vote_13 (g_sameS ?_)
    refine g_if_eq (tgt := 21) hF dX10_vote_16 (by decide) (fun c8 => ?_) (fun c8 => ?_)
    · replace h := gif_t c8 h
      refine g_aload_n hF 0 rfl rfl dX10_vote_21 ?_
      obtain ⟨b9, h9, h⟩ := gbnd h
      obtain ⟨g9, l9, q_b9⟩ := ldr_sp h9
      refine g_get_r hF g9 fl_RX10_15 q0 dX10_vote_22 ?_
      refine g_iload_n hF 1 rfl rfl dX10_vote_25 ?_
      obtain ⟨b10, h10, h⟩ := gbnd h
      obtain ⟨i10h, g10, l10, q_b10⟩ := aldr_sp q_b9 h10
      refine g_aald hF q_b9 (Or.inr (Or.inr (Or.inl ⟨rfl, rfl⟩))) i10h g10 dX10_vote_26 ?_
      obtain ⟨b11, h11, h⟩ := gbnd h
      obtain ⟨g11, l11, q_b11⟩ := ldr_sp h11
      refine g_get_r hF g11 fl_RX10_39 q_b10 dX10_vote_27 ?_
      refine g_astore_n (ls' := [(3, .ref b11), (0, .ref a0), (1, .int i1), (2, .int i2)]) hF rfl (by rw [hn]; decide) rfl dX10_vote_30 ?_
      refine g_aload_n hF 0 rfl rfl dX10_vote_31 ?_
      refine g_alenA hF q_b11 (by decide) dX10_vote_32 ?_
      refine g_istore (ls' := [(4, .int (Int32.ofNat (alen T b11))), (3, .ref b11), (0, .ref a0), (1, .int i1), (2, .int i2)]) hF (by rw [hn]; decide) rfl dX10_vote_33 ?_
      refine g_iconst (v := (0 : Int32)) hF rfl dX10_vote_35 ?_
      refine g_istore (ls' := [(5, .int (0 : Int32)), (4, .int (Int32.ofNat (alen T b11))), (3, .ref b11), (0, .ref a0), (1, .int i1), (2, .int i2)]) hF (by rw [hn]; decide) rfl dX10_vote_36 ?_
      obtain ⟨x12, h12, h⟩ := gbnd h
      cases h
      exact gG_sub [3, 5, 2, 1, 0] rfl (t_X10_vote_L38 hF hn hd (by omega) (by omega) q0 q_b11 h12 hR)
    · replace h := gif_f c8 h
      refine g_iload_n hF 1 rfl rfl dX10_vote_19 ?_
      obtain rfl := Option.some.inj h
      exact g_ret_i hF rfl rfl dX10_vote_20 hR (by omega) (by omega)
  · replace h := gif_f c6 h
    refine g_iconst (v := (-1 : Int32)) hF rfl dX10_vote_8 ?_
    obtain rfl := Option.some.inj h
    exact g_ret_i hF rfl rfl dX10_vote_9 hR (by omega) (by omega)
theorem c_X10_vote {d : Nat} {T : gT} {M : gM} {m_a0 : Nat} {a0 : Nat} {i1 : Int32} {i2 : Int32} {o : Int32} (hd : 3 ≤ d) (q0 : T[a0]? = some (16, m_a0)) (h : f_X10_vote T M a0 i1 i2 = some o) : gRet d yX10_vote cX10_vote 7 (some .int) 0 0 [.ref a0, .int i1, .int i2] T M (gSame T (some (.int o)) M) := by
  refine gRet_of (own := RX10) (by decide) rfl (Nat.le_of_ble_eq_true rfl) (fun Z ad0 hn h0 hF => ?_)
  exact t_X10_vote (ce := 0) (so := 0) hF hn hd (Nat.le_refl _) (Nat.le_refl _) q0 h ⟨rfl, rfl, rfl, rfl⟩
theorem t_X10_support_50 {Z : gZ} {d mc ms : Nat} {Acc : Option Value → (Nat → Nat) → gT → gM → Prop} {AccX : Nat → (Nat → Nat) → gT → gM → Prop} {ad : Nat → Nat} {T : gT} {M : gM} {ce so c9 s9 K KS : Nat} {m_a0 m_a4 : Nat} {a0 : Nat} {i1 : Int32} {i2 : Int32} {i3 : Int32} {a4 : Nat} {i5 : Int32} {i6 : Int32} {o : (Int32 × gT × gM) ⊕ (Int32 × Int32 × gT × gM)} (hF : gFix Z cX10_support RX10 "support" (some .int) d mc ms Acc AccX) (hn : Z.2.2.2.2.2.1 = 8) (hd : 9 ≤ d) (hk1 : ce + c9 + K ≤ mc) (hk2 : so + s9 + KS ≤ ms) (q0 : T[a0]? = some (16, m_a0)) (q4 : T[a4]? = some (11, m_a4)) (h : f_X10_support_50 T M a0 i1 i2 i3 a4 i5 i6 = some (o, c9, s9)) (hE : ∀ (e9 : Int32 × gT × gM) (ad1 : Nat → Nat) (ce1 so1 : Nat), o = .inl e9 → gExt T e9.2.1 → (∀ a : Nat, a < T.length → ad1 a = ad a) → ce1 + K ≤ mc → so1 + KS ≤ ms → gG Z ad1 e9.2.1 e9.2.2 ce1 so1 56 [(3, .int e9.1)] []) (hN : ∀ (n9 : Int32 × Int32 × gT × gM) (ad1 : Nat → Nat) (ce1 so1 : Nat), o = .inr n9 → gExt T n9.2.2.1 → (∀ a : Nat, a < T.length → ad1 a = ad a) → ce1 + K ≤ mc → so1 + KS ≤ ms → gG Z ad1 n9.2.2.1 n9.2.2.2 ce1 so1 16 [(0, .ref a0), (1, .int i1), (2, .int i2), (3, .int n9.1), (4, .ref a4), (5, .int i5), (6, .int n9.2.1)] []) : gG Z ad T M ce so 50 [(0, .ref a0), (1, .int i1), (2, .int i2), (3, .int i3), (4, .ref a4), (5, .int i5), (6, .int i6)] [] := by
  unfold f_X10_support_50 at h
  refine g_iinc (n := 1) (v := (i6 + (1 : Int32))) (ls' := [(6, .int (i6 + (1 : Int32))), (0, .ref a0), (1, .int i1), (2, .int i2), (3, .int i3), (4, .ref a4), (5, .int i5)]) hF 6 rfl rfl (by rw [hn]; decide) rfl dX10_support_50 ?_
  refine g_goto (tgt := 16) hF dX10_support_53 (by decide) ?_
  cases h
  exact gG_sub [1, 2, 3, 4, 5, 6, 0] rfl (hN _ _ _ _ rfl gExt.rf (fun _ _ => rfl) (by omega) (by omega))
theorem t_X10_support_B16 {Z : gZ} {d mc ms : Nat} {Acc : Option Value → (Nat → Nat) → gT → gM → Prop} {AccX : Nat → (Nat → Nat) → gT → gM → Prop} {ad : Nat → Nat} {T : gT} {M : gM} {ce so c9 s9 K KS : Nat}  {a0 : Nat} {i1 : Int32} {i2 : Int32} {i3 : Int32} {a4 : Nat} {i5 : Int32} {i6 : Int32} {o : (Int32 × gT × gM) ⊕ (Int32 × Int32 × gT × gM)} (hF : gFix Z cX10_support RX10 "support" (some .int) d mc ms Acc AccX) (hn : Z.2.2.2.2.2.1 = 8) (hd : 9 ≤ d) (hk1 : ce + c9 + K ≤ mc) (hk2 : so + s9 + KS ≤ ms)  (h : f_X10_support_B16 T M a0 i1 i2 i3 a4 i5 i6 = some (o, c9, s9)) (hE : ∀ (e9 : Int32 × gT × gM) (ad1 : Nat → Nat) (ce1 so1 : Nat), o = .inl e9 → gExt T e9.2.1 → (∀ a : Nat, a < T.length → ad1 a = ad a) → ce1 + K ≤ mc → so1 + KS ≤ ms → gG Z ad1 e9.2.1 e9.2.2 ce1 so1 56 [(3, .int e9.1)] []) (hN : ∀ (n9 : Int32 × Int32 × gT × gM) (ad1 : Nat → Nat) (ce1 so1 : Nat), o = .inr n9 → gExt T n9.2.2.1 → (∀ a : Nat, a < T.length → ad1 a = ad a) → ce1 + K ≤ mc → so1 + KS ≤ ms → gG Z ad1 n9.2.2.1 n9.2.2.2 ce1 so1 16 [(0, .ref a0), (1, .int i1), (2, .int i2), (3, .int n9.1), (4, .ref a4), (5, .int i5), (6, .int n9.2.1)] []) : gG Z ad T M ce so 16 [(0, .ref a0), (1, .int i1), (2, .int i2), (3, .int i3), (4, .ref a4), (5, .int i5), (6, .int i6)] [] := by
  unfold f_X10_support_B16 at h
  obtain ⟨_, h1, h⟩ := gbnd h
  obtain ⟨l1, q_1⟩ := gkd_sp h1
  obtain ⟨_, h5, h⟩ := gbnd h
  obtain ⟨l5, q_5⟩ := gkd_sp h5
  refine g_iload hF 6 rfl dX10_support_16 ?_
  refine g_iload hF 5 rfl dX10_support_18 ?_
  refine g_icmp_ge (tgt := 56) hF dX10_support_20 (by decide) (fun c8 => ?_) (fun c8 => ?_)
  · replace h := gif_t c8 h
    cases h
    exact gG_sub [3] rfl (hE _ _ _ _ rfl gExt.rf (fun _ _ => rfl) (by omega) (by omega))
  · replace h := gif_f c8 h
    refine g_aload hF 4 rfl dX10_support_23 ?_
    refine g_iload hF 6 rfl dX10_support_25 ?_
    obtain ⟨v9, h9, h⟩ := gbnd h
    obtain ⟨i9h, e9v⟩ := ald_sp q_5 h9
    refine g_iald hF q_5 i9h dX10_support_27 ?_
    rw [← e9v]
    refine g_istore (ls' := [(7, .int v9), (0, .ref a0), (1, .int i1), (2, .int i2), (3, .int i3), (4, .ref a4), (5, .int i5), (6, .int i6)]) hF (by rw [hn]; decide) rfl dX10_support_28 ?_
    refine g_aload_n hF 1 rfl rfl dX10_support_30 ?_
    refine g_iload hF 0 rfl dX10_support_31 ?_
    refine g_iload_n hF 3 rfl rfl dX10_support_33 ?_
    obtain ⟨x10, h10, h⟩ := gbnd h
    refine g_callV hF my_X10_vote kw_584 kw_585 kw_586 gC_16.1 (by decide) q_1 (c_X10_vote (d := d - 1) (by omega) q_1 h10) (by omega) (by omega) (by omega) rfl rfl (Nat.le_of_ble_eq_true rfl) dX10_support_34 (g_sameS ?_)
    refine g_iload_n hF 2 rfl rfl dX10_support_37 ?_
    refine g_icmp_ne (tgt := 50) hF dX10_support_38 (by decide) (fun c11 => ?_) (fun c11 => ?_)
    · replace h := gif_t c11 h
      exact gG_sub [1, 2, 3, 4, 5, 6, 7] rfl (t_X10_support_50 hF hn hd (by omega) (by omega) q_1 q_5 h (fun v9 ad1 ce1 so1 q9 x1 y1 => hE v9 ad1 ce1 so1 q9 (gExt.tr gExt.rf x1) (gad_call y1 gExt.rf (fun _ _ => rfl))) (fun v9 ad1 ce1 so1 q9 x1 y1 => hN v9 ad1 ce1 so1 q9 (gExt.tr gExt.rf x1) (gad_call y1 gExt.rf (fun _ _ => rfl))))
    · replace h := gif_n c11 h
      refine g_iload_n hF 4 rfl rfl dX10_support_41 ?_
      refine g_aload_n hF 1 rfl rfl dX10_support_42 ?_
      refine g_iload hF 0 rfl dX10_support_43 ?_
      obtain ⟨x12, h12, h⟩ := gbnd h
      obtain ⟨c12, s12, h, ec12, es12⟩ := cadd_sp h
      refine g_callV hF my_X10_weight kw_588 kw_589 kw_590 gC_16.1 (by decide) q_1 (c_X10_weight (d := d - 1) (by omega) q_1 (trip h12)) (by omega) (by omega) (by omega) rfl rfl (Nat.le_of_ble_eq_true rfl) dX10_support_45 (g_madeS (gOld_i (gOld_r (gT_lt q_1) (gOld_i (gOld_i (gOld_i (gOld_r (gT_lt q_5) (gOld_i (gOld_i gOld_0)))))))) (gOld_i gOld_0) (fun ad12 e12 y12 => ?_))
      have X12 := gExt.tr gExt.rf e12
      have W12 := gad_call y12 gExt.rf (fun _ _ => rfl)
      have q_13 := e12 _ _ q_1
      have q_14 := e12 _ _ q_5
      refine g_iadd hF dX10_support_48 ?_
      refine g_istore_n (ls' := [(3, .int (i3 + x12.1.1)), (7, .int v9), (0, .ref a0), (1, .int i1), (2, .int i2), (4, .ref a4), (5, .int i5), (6, .int i6)]) hF rfl (by rw [hn]; decide) rfl dX10_support_49 ?_
      exact gG_sub [2, 3, 4, 0, 5, 6, 7] rfl (t_X10_support_50 hF hn hd (by omega) (by omega) q_13 q_14 h (fun v9 ad1 ce1 so1 q9 x1 y1 => hE v9 ad1 ce1 so1 q9 (gExt.tr X12 x1) (gad_call y1 X12 W12)) (fun v9 ad1 ce1 so1 q9 x1 y1 => hN v9 ad1 ce1 so1 q9 (gExt.tr X12 x1) (gad_call y1 X12 W12)))
theorem t_X10_support_L16 {Z : gZ} {d mc ms : Nat} {Acc : Option Value → (Nat → Nat) → gT → gM → Prop} {AccX : Nat → (Nat → Nat) → gT → gM → Prop} {K KS : Nat} {a0 : Nat} {i1 : Int32} {i2 : Int32} {a4 : Nat} {i5 : Int32} (hF : gFix Z cX10_support RX10 "support" (some .int) d mc ms Acc AccX) (hn : Z.2.2.2.2.2.1 = 8) (hd : 9 ≤ d) : ∀ (n9 : Nat) {ad : Nat → Nat} {x0 : Int32 × Int32 × gT × gM} {e0 : Int32 × gT × gM} {ce so c9 s9 : Nat}, gloopc (fun x : Int32 × Int32 × gT × gM => f_X10_support_B16 x.2.2.1 x.2.2.2 a0 i1 i2 x.1 a4 i5 x.2.1) n9 x0 = some (e0, c9, s9) → ce + c9 + K ≤ mc → so + s9 + KS ≤ ms → ∀ (hE : ∀ (e9 : Int32 × gT × gM) (ad1 : Nat → Nat) (ce1 so1 : Nat), e0 = e9 → gExt x0.2.2.1 e9.2.1 → (∀ a : Nat, a < x0.2.2.1.length → ad1 a = ad a) → ce1 + K ≤ mc → so1 + KS ≤ ms → gG Z ad1 e9.2.1 e9.2.2 ce1 so1 56 [(3, .int e9.1)] []), gG Z ad x0.2.2.1 x0.2.2.2 ce so 16 [(0, .ref a0), (1, .int i1), (2, .int i2), (3, .int x0.1), (4, .ref a4), (5, .int i5), (6, .int x0.2.1)] []
  | 0 => fun h => nomatch h
  | n9 + 1 => fun h hk1 hk2 hE => by
    rcases gloopc_sp h with hB | ⟨a9, c1, s1, c2, s2, hB, h2, e1, e2⟩
    · exact t_X10_support_B16 (K := K) (KS := KS) hF hn hd hk1 hk2 hB (fun e9 ad1 ce1 so1 q9 => hE e9 ad1 ce1 so1 (Sum.inl.inj q9)) (fun n8 ad1 ce1 so1 q9 => nomatch q9)
    · exact t_X10_support_B16 (K := c2 + K) (KS := s2 + KS) hF hn hd (by omega) (by omega) hB (fun e9 ad1 ce1 so1 q9 => nomatch q9) (fun n8 ad1 ce1 so1 q9 x9 y9 k1 k2 => by rw [← Sum.inr.inj q9] at x9 ⊢; exact t_X10_support_L16 (K := K) (KS := KS) hF hn hd n9 h2 (by omega) (by omega) (fun e9 ad2 ce2 so2 q8 x2 y2 => hE e9 ad2 ce2 so2 q8 (gExt.tr x9 x2) (gad_call y2 x9 y9)))
theorem t_X10_support {Z : gZ} {d mc ms : Nat} {Acc : Option Value → (Nat → Nat) → gT → gM → Prop} {AccX : Nat → (Nat → Nat) → gT → gM → Prop} {ad : Nat → Nat} {T : gT} {M : gM} {ce so c9 s9 : Nat} {m_a0 : Nat} {a0 : Nat} {i1 : Int32} {i2 : Int32} {o : Int32 × gT × gM} (hF : gFix Z cX10_support RX10 "support" (some .int) d mc ms Acc AccX) (hn : Z.2.2.2.2.2.1 = 8) (hd : 9 ≤ d) (hk1 : ce + c9 ≤ mc) (hk2 : so + s9 ≤ ms) (q0 : T[a0]? = some (16, m_a0)) (h : f_X10_support T M a0 i1 i2 = some (o, c9, s9)) (hR : ∀ ad1 : Nat → Nat, gExt T o.2.1 → (∀ a : Nat, a < T.length → ad1 a = ad a) → Acc (some (.int o.1)) ad1 o.2.1 o.2.2) : gG Z ad T M ce so 0 [(0, .ref a0), (1, .int i1), (2, .int i2)] [] := by
  unfold f_X10_support at h
  refine g_iconst (v := (0 : Int32)) hF rfl dX10_support_0 ?_
  refine g_istore_n (ls' := [(3, .int (0 : Int32)), (0, .ref a0), (1, .int i1), (2, .int i2)]) hF rfl (by rw [hn]; decide) rfl dX10_support_1 ?_
  refine g_aload_n hF 1 rfl rfl dX10_support_2 ?_
  obtain ⟨b15, h15, h⟩ := gbnd h
  obtain ⟨g15, l15, q_b15⟩ := ldr_sp h15
  refine g_get_r hF g15 fl_RX10_19 q0 dX10_support_3 ?_
  refine g_astore (ls' := [(4, .ref b15), (3, .int (0 : Int32)), (0, .ref a0), (1, .int i1), (2, .int i2)]) hF (by rw [hn]; decide) rfl dX10_support_6 ?_
  refine g_aload hF 0 rfl dX10_support_8 ?_
  refine g_alenA hF q_b15 (by decide) dX10_support_10 ?_
  refine g_istore (ls' := [(5, .int (Int32.ofNat (alen T b15))), (4, .ref b15), (3, .int (0 : Int32)), (0, .ref a0), (1, .int i1), (2, .int i2)]) hF (by rw [hn]; decide) rfl dX10_support_11 ?_
  refine g_iconst (v := (0 : Int32)) hF rfl dX10_support_13 ?_
  refine g_istore (ls' := [(6, .int (0 : Int32)), (5, .int (Int32.ofNat (alen T b15))), (4, .ref b15), (3, .int (0 : Int32)), (0, .ref a0), (1, .int i1), (2, .int i2)]) hF (by rw [hn]; decide) rfl dX10_support_14 ?_
  obtain ⟨x16, h16, h⟩ := gbnd h
  obtain ⟨c16, s16, h, ec16, es16⟩ := cadd_sp h
  refine gG_sub [4, 5, 6, 3, 2, 1, 0] rfl (t_X10_support_L16 (K := c16) (KS := s16) hF hn hd gFU (trip h16) (by omega) (by omega) (fun e16 adE16 ceE16 soE16 qE16 xE16 yE16 kE16 kS16 => ?_))
  subst qE16
  have X16 := gExt.tr gExt.rf xE16
  have W16 := gad_call yE16 gExt.rf (fun _ _ => rfl)
  have q_17 := xE16 _ _ q_b15
  have q_18 := xE16 _ _ q0
  refine g_iload_n hF 0 rfl rfl dX10_support_56 ?_
  cases h
  exact g_ret_i hF rfl rfl dX10_support_57 (hR adE16 X16 W16) (by omega) (by omega)
theorem c_X10_support {d : Nat} {T : gT} {M : gM} {c9 s9 : Nat} {m_a0 : Nat} {a0 : Nat} {i1 : Int32} {i2 : Int32} {o : Int32 × gT × gM} (hd : 9 ≤ d) (q0 : T[a0]? = some (16, m_a0)) (h : f_X10_support T M a0 i1 i2 = some (o, c9, s9)) : gRet d yX10_support cX10_support 8 (some .int) c9 s9 [.ref a0, .int i1, .int i2] T M (gMade T (some (.int o.1)) o.2.1 o.2.2) := by
  refine gRet_of (own := RX10) (by decide) rfl (Nat.le_of_ble_eq_true rfl) (fun Z ad0 hn h0 hF => ?_)
  exact t_X10_support (ce := 0) (so := 0) hF hn hd (by omega) (by omega) q0 h (fun ad1 x1 y1 => ⟨rfl, rfl, rfl, x1, y1⟩)
theorem t_X10_winner_60 {Z : gZ} {d mc ms : Nat} {Acc : Option Value → (Nat → Nat) → gT → gM → Prop} {AccX : Nat → (Nat → Nat) → gT → gM → Prop} {ad : Nat → Nat} {T : gT} {M : gM} {ce so c9 s9 K KS : Nat} {m_a0 m_a3 : Nat} {a0 : Nat} {i1 : Int32} {i2 : Int32} {a3 : Nat} {i4 : Int32} {i5 : Int32} {o : (Int32 × gT × gM) ⊕ (Int32 × Int32 × gT × gM)} (hF : gFix Z cX10_winner RX10 "winner" (some .int) d mc ms Acc AccX) (hn : Z.2.2.2.2.2.1 = 7) (hd : 10 ≤ d) (hk1 : ce + c9 + K ≤ mc) (hk2 : so + s9 + KS ≤ ms) (q0 : T[a0]? = some (16, m_a0)) (q3 : T[a3]? = some (11, m_a3)) (h : f_X10_winner_60 T M a0 i1 i2 a3 i4 i5 = some (o, c9, s9)) (hE : ∀ (e9 : Int32 × gT × gM) (ad1 : Nat → Nat) (ce1 so1 : Nat), o = .inl e9 → gExt T e9.2.1 → (∀ a : Nat, a < T.length → ad1 a = ad a) → ce1 + K ≤ mc → so1 + KS ≤ ms → gG Z ad1 e9.2.1 e9.2.2 ce1 so1 66 [(2, .int e9.1)] []) (hN : ∀ (n9 : Int32 × Int32 × gT × gM) (ad1 : Nat → Nat) (ce1 so1 : Nat), o = .inr n9 → gExt T n9.2.2.1 → (∀ a : Nat, a < T.length → ad1 a = ad a) → ce1 + K ≤ mc → so1 + KS ≤ ms → gG Z ad1 n9.2.2.1 n9.2.2.2 ce1 so1 14 [(0, .ref a0), (1, .int i1), (2, .int n9.1), (3, .ref a3), (4, .int i4), (5, .int n9.2.1)] []) : gG Z ad T M ce so 60 [(0, .ref a0), (1, .int i1), (2, .int i2), (3, .ref a3), (4, .int i4), (5, .int i5)] [] := by
  unfold f_X10_winner_60 at h
  refine g_iinc (n := 1) (v := (i5 + (1 : Int32))) (ls' := [(5, .int (i5 + (1 : Int32))), (0, .ref a0), (1, .int i1), (2, .int i2), (3, .ref a3), (4, .int i4)]) hF 5 rfl rfl (by rw [hn]; decide) rfl dX10_winner_60 ?_
  refine g_goto (tgt := 14) hF dX10_winner_63 (by decide) ?_
  cases h
  exact gG_sub [1, 2, 3, 4, 5, 0] rfl (hN _ _ _ _ rfl gExt.rf (fun _ _ => rfl) (by omega) (by omega))
theorem t_X10_winner_57 {Z : gZ} {d mc ms : Nat} {Acc : Option Value → (Nat → Nat) → gT → gM → Prop} {AccX : Nat → (Nat → Nat) → gT → gM → Prop} {ad : Nat → Nat} {T : gT} {M : gM} {ce so c9 s9 K KS : Nat} {m_a0 m_a3 : Nat} {a0 : Nat} {i1 : Int32} {a3 : Nat} {i4 : Int32} {i5 : Int32} {i6 : Int32} {o : (Int32 × gT × gM) ⊕ (Int32 × Int32 × gT × gM)} (hF : gFix Z cX10_winner RX10 "winner" (some .int) d mc ms Acc AccX) (hn : Z.2.2.2.2.2.1 = 7) (hd : 10 ≤ d) (hk1 : ce + c9 + K ≤ mc) (hk2 : so + s9 + KS ≤ ms) (q0 : T[a0]? = some (16, m_a0)) (q3 : T[a3]? = some (11, m_a3)) (h : f_X10_winner_57 T M a0 i1 a3 i4 i5 i6 = some (o, c9, s9)) (hE : ∀ (e9 : Int32 × gT × gM) (ad1 : Nat → Nat) (ce1 so1 : Nat), o = .inl e9 → gExt T e9.2.1 → (∀ a : Nat, a < T.length → ad1 a = ad a) → ce1 + K ≤ mc → so1 + KS ≤ ms → gG Z ad1 e9.2.1 e9.2.2 ce1 so1 66 [(2, .int e9.1)] []) (hN : ∀ (n9 : Int32 × Int32 × gT × gM) (ad1 : Nat → Nat) (ce1 so1 : Nat), o = .inr n9 → gExt T n9.2.2.1 → (∀ a : Nat, a < T.length → ad1 a = ad a) → ce1 + K ≤ mc → so1 + KS ≤ ms → gG Z ad1 n9.2.2.1 n9.2.2.2 ce1 so1 14 [(0, .ref a0), (1, .int i1), (2, .int n9.1), (3, .ref a3), (4, .int i4), (5, .int n9.2.1)] []) : gG Z ad T M ce so 57 [(0, .ref a0), (1, .int i1), (3, .ref a3), (4, .int i4), (5, .int i5), (6, .int i6)] [] := by
  unfold f_X10_winner_57 at h
  refine g_iload hF 5 rfl dX10_winner_57 ?_
  refine g_istore_n (ls' := [(2, .int i6), (0, .ref a0), (1, .int i1), (3, .ref a3), (4, .int i4), (5, .int i5), (6, .int i6)]) hF rfl (by rw [hn]; decide) rfl dX10_winner_59 ?_
  exact gG_sub [1, 2, 0, 3, 4, 5] rfl (t_X10_winner_60 hF hn hd (by omega) (by omega) q0 q3 h (fun v9 ad1 ce1 so1 q9 x1 y1 => hE v9 ad1 ce1 so1 q9 (gExt.tr gExt.rf x1) (gad_call y1 gExt.rf (fun _ _ => rfl))) (fun v9 ad1 ce1 so1 q9 x1 y1 => hN v9 ad1 ce1 so1 q9 (gExt.tr gExt.rf x1) (gad_call y1 gExt.rf (fun _ _ => rfl))))
theorem t_X10_winner_B14 {Z : gZ} {d mc ms : Nat} {Acc : Option Value → (Nat → Nat) → gT → gM → Prop} {AccX : Nat → (Nat → Nat) → gT → gM → Prop} {ad : Nat → Nat} {T : gT} {M : gM} {ce so c9 s9 K KS : Nat}  {a0 : Nat} {i1 : Int32} {i2 : Int32} {a3 : Nat} {i4 : Int32} {i5 : Int32} {o : (Int32 × gT × gM) ⊕ (Int32 × Int32 × gT × gM)} (hF : gFix Z cX10_winner RX10 "winner" (some .int) d mc ms Acc AccX) (hn : Z.2.2.2.2.2.1 = 7) (hd : 10 ≤ d) (hk1 : ce + c9 + K ≤ mc) (hk2 : so + s9 + KS ≤ ms)  (h : f_X10_winner_B14 T M a0 i1 i2 a3 i4 i5 = some (o, c9, s9)) (hE : ∀ (e9 : Int32 × gT × gM) (ad1 : Nat → Nat) (ce1 so1 : Nat), o = .inl e9 → gExt T e9.2.1 → (∀ a : Nat, a < T.length → ad1 a = ad a) → ce1 + K ≤ mc → so1 + KS ≤ ms → gG Z ad1 e9.2.1 e9.2.2 ce1 so1 66 [(2, .int e9.1)] []) (hN : ∀ (n9 : Int32 × Int32 × gT × gM) (ad1 : Nat → Nat) (ce1 so1 : Nat), o = .inr n9 → gExt T n9.2.2.1 → (∀ a : Nat, a < T.length → ad1 a = ad a) → ce1 + K ≤ mc → so1 + KS ≤ ms → gG Z ad1 n9.2.2.1 n9.2.2.2 ce1 so1 14 [(0, .ref a0), (1, .int i1), (2, .int n9.1), (3, .ref a3), (4, .int i4), (5, .int n9.2.1)] []) : gG Z ad T M ce so 14 [(0, .ref a0), (1, .int i1), (2, .int i2), (3, .ref a3), (4, .int i4), (5, .int i5)] [] := by
  unfold f_X10_winner_B14 at h
  obtain ⟨_, h1, h⟩ := gbnd h
  obtain ⟨l1, q_1⟩ := gkd_sp h1
  obtain ⟨_, h4, h⟩ := gbnd h
  obtain ⟨l4, q_4⟩ := gkd_sp h4
  refine g_iload hF 5 rfl dX10_winner_14 ?_
  refine g_iload hF 4 rfl dX10_winner_16 ?_
  refine g_icmp_ge (tgt := 66) hF dX10_winner_18 (by decide) (fun c7 => ?_) (fun c7 => ?_)
  · replace h := gif_t c7 h
    cases h
    exact gG_sub [2] rfl (hE _ _ _ _ rfl gExt.rf (fun _ _ => rfl) (by omega) (by omega))
  · replace h := gif_f c7 h
    refine g_aload_n hF 3 rfl rfl dX10_winner_21 ?_
    refine g_iload hF 5 rfl dX10_winner_22 ?_
    obtain ⟨v8, h8, h⟩ := gbnd h
    obtain ⟨i8h, e8v⟩ := ald_sp q_4 h8
    refine g_iald hF q_4 i8h dX10_winner_24 ?_
    rw [← e8v]
    refine g_istore (ls' := [(6, .int v8), (0, .ref a0), (1, .int i1), (2, .int i2), (3, .ref a3), (4, .int i4), (5, .int i5)]) hF (by rw [hn]; decide) rfl dX10_winner_25 ?_
    refine g_aload_n hF 1 rfl rfl dX10_winner_27 ?_
    refine g_iload hF 0 rfl dX10_winner_28 ?_
    refine g_iload_n hF 2 rfl rfl dX10_winner_30 ?_
    obtain ⟨x9, h9, h⟩ := gbnd h
    refine g_callV hF my_X10_isCandidate kw_575 kw_576 kw_577 gC_16.1 (by decide) q_1 (c_X10_isCandidate (d := d - 1) (by omega) q_1 h9) (by omega) (by omega) (by omega) rfl rfl (Nat.le_of_ble_eq_true rfl) dX10_winner_31 (g_sameS ?_)
    refine g_if_eq (tgt := 60) hF dX10_winner_34 (by decide) (fun c10 => ?_) (fun c10 => ?_)
    · replace h := gif_t c10 h
      exact gG_sub [1, 2, 3, 4, 5, 6] rfl (t_X10_winner_60 hF hn hd (by omega) (by omega) q_1 q_4 h (fun v9 ad1 ce1 so1 q9 x1 y1 => hE v9 ad1 ce1 so1 q9 (gExt.tr gExt.rf x1) (gad_call y1 gExt.rf (fun _ _ => rfl))) (fun v9 ad1 ce1 so1 q9 x1 y1 => hN v9 ad1 ce1 so1 q9 (gExt.tr gExt.rf x1) (gad_call y1 gExt.rf (fun _ _ => rfl))))
    · replace h := gif_f c10 h
      refine g_iload_n hF 3 rfl rfl dX10_winner_37 ?_
      refine g_if_lt (tgt := 57) hF dX10_winner_38 (by decide) (fun c11 => ?_) (fun c11 => ?_)
      · replace h := gif_t c11 h
        exact gG_sub [1, 2, 4, 5, 6, 0] rfl (t_X10_winner_57 hF hn hd (by omega) (by omega) q_1 q_4 h (fun v9 ad1 ce1 so1 q9 x1 y1 => hE v9 ad1 ce1 so1 q9 (gExt.tr gExt.rf x1) (gad_call y1 gExt.rf (fun _ _ => rfl))) (fun v9 ad1 ce1 so1 q9 x1 y1 => hN v9 ad1 ce1 so1 q9 (gExt.tr gExt.rf x1) (gad_call y1 gExt.rf (fun _ _ => rfl))))
      · replace h := gif_f c11 h
        refine g_aload_n hF 1 rfl rfl dX10_winner_41 ?_
        refine g_iload hF 0 rfl dX10_winner_42 ?_
        refine g_iload_n hF 2 rfl rfl dX10_winner_44 ?_
        obtain ⟨x12, h12, h⟩ := gbnd h
        obtain ⟨c12, s12, h, ec12, es12⟩ := cadd_sp h
        refine g_callV hF my_X10_support kw_580 kw_581 kw_582 gC_16.1 (by decide) q_1 (c_X10_support (d := d - 1) (by omega) q_1 (trip h12)) (by omega) (by omega) (by omega) rfl rfl (Nat.le_of_ble_eq_true rfl) dX10_winner_45 (g_madeS (gOld_i (gOld_r (gT_lt q_1) (gOld_i (gOld_i (gOld_r (gT_lt q_4) (gOld_i (gOld_i gOld_0))))))) gOld_0 (fun ad12 e12 y12 => ?_))
        have X12 := gExt.tr gExt.rf e12
        have W12 := gad_call y12 gExt.rf (fun _ _ => rfl)
        have q_13 := e12 _ _ q_1
        have q_14 := e12 _ _ q_4
        refine g_aload_n hF 1 rfl rfl dX10_winner_48 ?_
        refine g_iload_n hF 3 rfl rfl dX10_winner_49 ?_
        refine g_iload_n hF 2 rfl rfl dX10_winner_50 ?_
        obtain ⟨x15, h15, h⟩ := gbnd h
        obtain ⟨c15, s15, h, ec15, es15⟩ := cadd_sp h
        refine g_callV hF my_X10_support kw_580 kw_581 kw_582 gC_16.1 (by decide) q_13 (c_X10_support (d := d - 1) (by omega) q_13 (trip h15)) (by omega) (by omega) (by omega) rfl rfl (Nat.le_of_ble_eq_true rfl) dX10_winner_51 (g_madeS (gOld_i (gOld_r (gT_lt q_13) (gOld_i (gOld_i (gOld_r (gT_lt q_14) (gOld_i (gOld_i gOld_0))))))) (gOld_i gOld_0) (fun ad15 e15 y15 => ?_))
        have X15 := gExt.tr X12 e15
        have W15 := gad_call y15 X12 W12
        have q_16 := e15 _ _ q_13
        have q_17 := e15 _ _ q_14
        refine g_icmp_le (tgt := 60) hF dX10_winner_54 (by decide) (fun c18 => ?_) (fun c18 => ?_)
        · replace h := gif_t c18 h
          exact gG_sub [1, 2, 3, 4, 5, 6] rfl (t_X10_winner_60 hF hn hd (by omega) (by omega) q_16 q_17 h (fun v9 ad1 ce1 so1 q9 x1 y1 => hE v9 ad1 ce1 so1 q9 (gExt.tr X15 x1) (gad_call y1 X15 W15)) (fun v9 ad1 ce1 so1 q9 x1 y1 => hN v9 ad1 ce1 so1 q9 (gExt.tr X15 x1) (gad_call y1 X15 W15)))
        · replace h := gif_f c18 h
          exact gG_sub [1, 2, 4, 5, 6, 0] rfl (t_X10_winner_57 hF hn hd (by omega) (by omega) q_16 q_17 h (fun v9 ad1 ce1 so1 q9 x1 y1 => hE v9 ad1 ce1 so1 q9 (gExt.tr X15 x1) (gad_call y1 X15 W15)) (fun v9 ad1 ce1 so1 q9 x1 y1 => hN v9 ad1 ce1 so1 q9 (gExt.tr X15 x1) (gad_call y1 X15 W15)))
theorem t_X10_winner_L14 {Z : gZ} {d mc ms : Nat} {Acc : Option Value → (Nat → Nat) → gT → gM → Prop} {AccX : Nat → (Nat → Nat) → gT → gM → Prop} {K KS : Nat} {a0 : Nat} {i1 : Int32} {a3 : Nat} {i4 : Int32} (hF : gFix Z cX10_winner RX10 "winner" (some .int) d mc ms Acc AccX) (hn : Z.2.2.2.2.2.1 = 7) (hd : 10 ≤ d) : ∀ (n9 : Nat) {ad : Nat → Nat} {x0 : Int32 × Int32 × gT × gM} {e0 : Int32 × gT × gM} {ce so c9 s9 : Nat}, gloopc (fun x : Int32 × Int32 × gT × gM => f_X10_winner_B14 x.2.2.1 x.2.2.2 a0 i1 x.1 a3 i4 x.2.1) n9 x0 = some (e0, c9, s9) → ce + c9 + K ≤ mc → so + s9 + KS ≤ ms → ∀ (hE : ∀ (e9 : Int32 × gT × gM) (ad1 : Nat → Nat) (ce1 so1 : Nat), e0 = e9 → gExt x0.2.2.1 e9.2.1 → (∀ a : Nat, a < x0.2.2.1.length → ad1 a = ad a) → ce1 + K ≤ mc → so1 + KS ≤ ms → gG Z ad1 e9.2.1 e9.2.2 ce1 so1 66 [(2, .int e9.1)] []), gG Z ad x0.2.2.1 x0.2.2.2 ce so 14 [(0, .ref a0), (1, .int i1), (2, .int x0.1), (3, .ref a3), (4, .int i4), (5, .int x0.2.1)] []
  | 0 => fun h => nomatch h
  | n9 + 1 => fun h hk1 hk2 hE => by
    rcases gloopc_sp h with hB | ⟨a9, c1, s1, c2, s2, hB, h2, e1, e2⟩
    · exact t_X10_winner_B14 (K := K) (KS := KS) hF hn hd hk1 hk2 hB (fun e9 ad1 ce1 so1 q9 => hE e9 ad1 ce1 so1 (Sum.inl.inj q9)) (fun n8 ad1 ce1 so1 q9 => nomatch q9)
    · exact t_X10_winner_B14 (K := c2 + K) (KS := s2 + KS) hF hn hd (by omega) (by omega) hB (fun e9 ad1 ce1 so1 q9 => nomatch q9) (fun n8 ad1 ce1 so1 q9 x9 y9 k1 k2 => by rw [← Sum.inr.inj q9] at x9 ⊢; exact t_X10_winner_L14 (K := K) (KS := KS) hF hn hd n9 h2 (by omega) (by omega) (fun e9 ad2 ce2 so2 q8 x2 y2 => hE e9 ad2 ce2 so2 q8 (gExt.tr x9 x2) (gad_call y2 x9 y9)))
theorem t_X10_winner {Z : gZ} {d mc ms : Nat} {Acc : Option Value → (Nat → Nat) → gT → gM → Prop} {AccX : Nat → (Nat → Nat) → gT → gM → Prop} {ad : Nat → Nat} {T : gT} {M : gM} {ce so c9 s9 : Nat} {m_a0 : Nat} {a0 : Nat} {i1 : Int32} {o : Int32 × gT × gM} (hF : gFix Z cX10_winner RX10 "winner" (some .int) d mc ms Acc AccX) (hn : Z.2.2.2.2.2.1 = 7) (hd : 10 ≤ d) (hk1 : ce + c9 ≤ mc) (hk2 : so + s9 ≤ ms) (q0 : T[a0]? = some (16, m_a0)) (h : f_X10_winner T M a0 i1 = some (o, c9, s9)) (hR : ∀ ad1 : Nat → Nat, gExt T o.2.1 → (∀ a : Nat, a < T.length → ad1 a = ad a) → Acc (some (.int o.1)) ad1 o.2.1 o.2.2) : gG Z ad T M ce so 0 [(0, .ref a0), (1, .int i1)] [] := by
  unfold f_X10_winner at h
  refine g_iconst (v := (-1 : Int32)) hF rfl dX10_winner_0 ?_
  refine g_istore_n (ls' := [(2, .int (-1 : Int32)), (0, .ref a0), (1, .int i1)]) hF rfl (by rw [hn]; decide) rfl dX10_winner_1 ?_
  refine g_aload_n hF 1 rfl rfl dX10_winner_2 ?_
  obtain ⟨b19, h19, h⟩ := gbnd h
  obtain ⟨g19, l19, q_b19⟩ := ldr_sp h19
  refine g_get_r hF g19 fl_RX10_19 q0 dX10_winner_3 ?_
  refine g_astore_n (ls' := [(3, .ref b19), (2, .int (-1 : Int32)), (0, .ref a0), (1, .int i1)]) hF rfl (by rw [hn]; decide) rfl dX10_winner_6 ?_
  refine g_aload_n hF 0 rfl rfl dX10_winner_7 ?_
  refine g_alenA hF q_b19 (by decide) dX10_winner_8 ?_
  refine g_istore (ls' := [(4, .int (Int32.ofNat (alen T b19))), (3, .ref b19), (2, .int (-1 : Int32)), (0, .ref a0), (1, .int i1)]) hF (by rw [hn]; decide) rfl dX10_winner_9 ?_
  refine g_iconst (v := (0 : Int32)) hF rfl dX10_winner_11 ?_
  refine g_istore (ls' := [(5, .int (0 : Int32)), (4, .int (Int32.ofNat (alen T b19))), (3, .ref b19), (2, .int (-1 : Int32)), (0, .ref a0), (1, .int i1)]) hF (by rw [hn]; decide) rfl dX10_winner_12 ?_
  obtain ⟨x20, h20, h⟩ := gbnd h
  obtain ⟨c20, s20, h, ec20, es20⟩ := cadd_sp h
  refine gG_sub [4, 5, 3, 2, 1, 0] rfl (t_X10_winner_L14 (K := c20) (KS := s20) hF hn hd gFU (trip h20) (by omega) (by omega) (fun e20 adE20 ceE20 soE20 qE20 xE20 yE20 kE20 kS20 => ?_))
  subst qE20
  have X20 := gExt.tr gExt.rf xE20
  have W20 := gad_call yE20 gExt.rf (fun _ _ => rfl)
  have q_21 := xE20 _ _ q_b19
  have q_22 := xE20 _ _ q0
  refine g_iload_n hF 0 rfl rfl dX10_winner_66 ?_
  cases h
  exact g_ret_i hF rfl rfl dX10_winner_67 (hR adE20 X20 W20) (by omega) (by omega)
theorem c_X10_winner {d : Nat} {T : gT} {M : gM} {c9 s9 : Nat} {m_a0 : Nat} {a0 : Nat} {i1 : Int32} {o : Int32 × gT × gM} (hd : 10 ≤ d) (q0 : T[a0]? = some (16, m_a0)) (h : f_X10_winner T M a0 i1 = some (o, c9, s9)) : gRet d yX10_winner cX10_winner 7 (some .int) c9 s9 [.ref a0, .int i1] T M (gMade T (some (.int o.1)) o.2.1 o.2.2) := by
  refine gRet_of (own := RX10) (by decide) rfl (Nat.le_of_ble_eq_true rfl) (fun Z ad0 hn h0 hF => ?_)
  exact t_X10_winner (ce := 0) (so := 0) hF hn hd (by omega) (by omega) q0 h (fun ad1 x1 y1 => ⟨rfl, rfl, rfl, x1, y1⟩)
theorem t_X10_binding_60 {Z : gZ} {d mc ms : Nat} {Acc : Option Value → (Nat → Nat) → gT → gM → Prop} {AccX : Nat → (Nat → Nat) → gT → gM → Prop} {ad : Nat → Nat} {T : gT} {M : gM} {ce so c9 s9 K KS : Nat} {m_a0 m_a4 : Nat} {a0 : Nat} {i1 : Int32} {i2 : Int32} {i3 : Int32} {a4 : Nat} {i5 : Int32} {i6 : Int32} {o : (Int32 × gT × gM) ⊕ (Int32 × Int32 × gT × gM)} (hF : gFix Z cX10_binding RX10 "binding" (some .int) d mc ms Acc AccX) (hn : Z.2.2.2.2.2.1 = 8) (hd : 11 ≤ d) (hk1 : ce + c9 + K ≤ mc) (hk2 : so + s9 + KS ≤ ms) (q0 : T[a0]? = some (16, m_a0)) (q4 : T[a4]? = some (11, m_a4)) (h : f_X10_binding_60 T M a0 i1 i2 i3 a4 i5 i6 = some (o, c9, s9)) (hE : ∀ (e9 : Int32 × gT × gM) (ad1 : Nat → Nat) (ce1 so1 : Nat), o = .inl e9 → gExt T e9.2.1 → (∀ a : Nat, a < T.length → ad1 a = ad a) → ce1 + K ≤ mc → so1 + KS ≤ ms → gG Z ad1 e9.2.1 e9.2.2 ce1 so1 66 [(0, .ref a0), (1, .int i1), (2, .int i2), (3, .int e9.1)] []) (hN : ∀ (n9 : Int32 × Int32 × gT × gM) (ad1 : Nat → Nat) (ce1 so1 : Nat), o = .inr n9 → gExt T n9.2.2.1 → (∀ a : Nat, a < T.length → ad1 a = ad a) → ce1 + K ≤ mc → so1 + KS ≤ ms → gG Z ad1 n9.2.2.1 n9.2.2.2 ce1 so1 26 [(0, .ref a0), (1, .int i1), (2, .int i2), (3, .int n9.1), (4, .ref a4), (5, .int i5), (6, .int n9.2.1)] []) : gG Z ad T M ce so 60 [(0, .ref a0), (1, .int i1), (2, .int i2), (3, .int i3), (4, .ref a4), (5, .int i5), (6, .int i6)] [] := by
  unfold f_X10_binding_60 at h
  refine g_iinc (n := 1) (v := (i6 + (1 : Int32))) (ls' := [(6, .int (i6 + (1 : Int32))), (0, .ref a0), (1, .int i1), (2, .int i2), (3, .int i3), (4, .ref a4), (5, .int i5)]) hF 6 rfl rfl (by rw [hn]; decide) rfl dX10_binding_60 ?_
  refine g_goto (tgt := 26) hF dX10_binding_63 (by decide) ?_
  cases h
  exact gG_sub [1, 2, 3, 4, 5, 6, 0] rfl (hN _ _ _ _ rfl gExt.rf (fun _ _ => rfl) (by omega) (by omega))
theorem t_X10_binding_B26 {Z : gZ} {d mc ms : Nat} {Acc : Option Value → (Nat → Nat) → gT → gM → Prop} {AccX : Nat → (Nat → Nat) → gT → gM → Prop} {ad : Nat → Nat} {T : gT} {M : gM} {ce so c9 s9 K KS : Nat}  {a0 : Nat} {i1 : Int32} {i2 : Int32} {i3 : Int32} {a4 : Nat} {i5 : Int32} {i6 : Int32} {o : (Int32 × gT × gM) ⊕ (Int32 × Int32 × gT × gM)} (hF : gFix Z cX10_binding RX10 "binding" (some .int) d mc ms Acc AccX) (hn : Z.2.2.2.2.2.1 = 8) (hd : 11 ≤ d) (hk1 : ce + c9 + K ≤ mc) (hk2 : so + s9 + KS ≤ ms)  (h : f_X10_binding_B26 T M a0 i1 i2 i3 a4 i5 i6 = some (o, c9, s9)) (hE : ∀ (e9 : Int32 × gT × gM) (ad1 : Nat → Nat) (ce1 so1 : Nat), o = .inl e9 → gExt T e9.2.1 → (∀ a : Nat, a < T.length → ad1 a = ad a) → ce1 + K ≤ mc → so1 + KS ≤ ms → gG Z ad1 e9.2.1 e9.2.2 ce1 so1 66 [(0, .ref a0), (1, .int i1), (2, .int i2), (3, .int e9.1)] []) (hN : ∀ (n9 : Int32 × Int32 × gT × gM) (ad1 : Nat → Nat) (ce1 so1 : Nat), o = .inr n9 → gExt T n9.2.2.1 → (∀ a : Nat, a < T.length → ad1 a = ad a) → ce1 + K ≤ mc → so1 + KS ≤ ms → gG Z ad1 n9.2.2.1 n9.2.2.2 ce1 so1 26 [(0, .ref a0), (1, .int i1), (2, .int i2), (3, .int n9.1), (4, .ref a4), (5, .int i5), (6, .int n9.2.1)] []) : gG Z ad T M ce so 26 [(0, .ref a0), (1, .int i1), (2, .int i2), (3, .int i3), (4, .ref a4), (5, .int i5), (6, .int i6)] [] := by
  unfold f_X10_binding_B26 at h
  obtain ⟨_, h1, h⟩ := gbnd h
  obtain ⟨l1, q_1⟩ := gkd_sp h1
  obtain ⟨_, h5, h⟩ := gbnd h
  obtain ⟨l5, q_5⟩ := gkd_sp h5
  refine g_iload hF 6 rfl dX10_binding_26 ?_
  refine g_iload hF 5 rfl dX10_binding_28 ?_
  refine g_icmp_ge (tgt := 66) hF dX10_binding_30 (by decide) (fun c8 => ?_) (fun c8 => ?_)
  · replace h := gif_t c8 h
    cases h
    exact gG_sub [0, 1, 2, 3] rfl (hE _ _ _ _ rfl gExt.rf (fun _ _ => rfl) (by omega) (by omega))
  · replace h := gif_f c8 h
    refine g_aload hF 4 rfl dX10_binding_33 ?_
    refine g_iload hF 6 rfl dX10_binding_35 ?_
    obtain ⟨v9, h9, h⟩ := gbnd h
    obtain ⟨i9h, e9v⟩ := ald_sp q_5 h9
    refine g_iald hF q_5 i9h dX10_binding_37 ?_
    rw [← e9v]
    refine g_istore (ls' := [(7, .int v9), (0, .ref a0), (1, .int i1), (2, .int i2), (3, .int i3), (4, .ref a4), (5, .int i5), (6, .int i6)]) hF (by rw [hn]; decide) rfl dX10_binding_38 ?_
    refine g_aload_n hF 1 rfl rfl dX10_binding_40 ?_
    refine g_iload hF 0 rfl dX10_binding_41 ?_
    refine g_iload_n hF 3 rfl rfl dX10_binding_43 ?_
    obtain ⟨x10, h10, h⟩ := gbnd h
    refine g_callV hF my_X10_isCandidate kw_575 kw_576 kw_577 gC_16.1 (by decide) q_1 (c_X10_isCandidate (d := d - 1) (by omega) q_1 h10) (by omega) (by omega) (by omega) rfl rfl (Nat.le_of_ble_eq_true rfl) dX10_binding_44 (g_sameS ?_)
    refine g_if_eq (tgt := 60) hF dX10_binding_47 (by decide) (fun c11 => ?_) (fun c11 => ?_)
    · replace h := gif_t c11 h
      exact gG_sub [1, 2, 3, 4, 5, 6, 7] rfl (t_X10_binding_60 hF hn hd (by omega) (by omega) q_1 q_5 h (fun v9 ad1 ce1 so1 q9 x1 y1 => hE v9 ad1 ce1 so1 q9 (gExt.tr gExt.rf x1) (gad_call y1 gExt.rf (fun _ _ => rfl))) (fun v9 ad1 ce1 so1 q9 x1 y1 => hN v9 ad1 ce1 so1 q9 (gExt.tr gExt.rf x1) (gad_call y1 gExt.rf (fun _ _ => rfl))))
    · replace h := gif_f c11 h
      refine g_iload_n hF 4 rfl rfl dX10_binding_50 ?_
      refine g_aload_n hF 1 rfl rfl dX10_binding_51 ?_
      refine g_iload hF 0 rfl dX10_binding_52 ?_
      refine g_iload_n hF 3 rfl rfl dX10_binding_54 ?_
      obtain ⟨x12, h12, h⟩ := gbnd h
      obtain ⟨c12, s12, h, ec12, es12⟩ := cadd_sp h
      refine g_callV hF my_X10_support kw_580 kw_581 kw_582 gC_16.1 (by decide) q_1 (c_X10_support (d := d - 1) (by omega) q_1 (trip h12)) (by omega) (by omega) (by omega) rfl rfl (Nat.le_of_ble_eq_true rfl) dX10_binding_55 (g_madeS (gOld_i (gOld_r (gT_lt q_1) (gOld_i (gOld_i (gOld_i (gOld_r (gT_lt q_5) (gOld_i (gOld_i gOld_0)))))))) (gOld_i gOld_0) (fun ad12 e12 y12 => ?_))
      have X12 := gExt.tr gExt.rf e12
      have W12 := gad_call y12 gExt.rf (fun _ _ => rfl)
      have q_13 := e12 _ _ q_1
      have q_14 := e12 _ _ q_5
      refine g_iadd hF dX10_binding_58 ?_
      refine g_istore_n (ls' := [(3, .int (i3 + x12.1.1)), (7, .int v9), (0, .ref a0), (1, .int i1), (2, .int i2), (4, .ref a4), (5, .int i5), (6, .int i6)]) hF rfl (by rw [hn]; decide) rfl dX10_binding_59 ?_
      exact gG_sub [2, 3, 4, 0, 5, 6, 7] rfl (t_X10_binding_60 hF hn hd (by omega) (by omega) q_13 q_14 h (fun v9 ad1 ce1 so1 q9 x1 y1 => hE v9 ad1 ce1 so1 q9 (gExt.tr X12 x1) (gad_call y1 X12 W12)) (fun v9 ad1 ce1 so1 q9 x1 y1 => hN v9 ad1 ce1 so1 q9 (gExt.tr X12 x1) (gad_call y1 X12 W12)))
theorem t_X10_binding_L26 {Z : gZ} {d mc ms : Nat} {Acc : Option Value → (Nat → Nat) → gT → gM → Prop} {AccX : Nat → (Nat → Nat) → gT → gM → Prop} {K KS : Nat} {a0 : Nat} {i1 : Int32} {i2 : Int32} {a4 : Nat} {i5 : Int32} (hF : gFix Z cX10_binding RX10 "binding" (some .int) d mc ms Acc AccX) (hn : Z.2.2.2.2.2.1 = 8) (hd : 11 ≤ d) : ∀ (n9 : Nat) {ad : Nat → Nat} {x0 : Int32 × Int32 × gT × gM} {e0 : Int32 × gT × gM} {ce so c9 s9 : Nat}, gloopc (fun x : Int32 × Int32 × gT × gM => f_X10_binding_B26 x.2.2.1 x.2.2.2 a0 i1 i2 x.1 a4 i5 x.2.1) n9 x0 = some (e0, c9, s9) → ce + c9 + K ≤ mc → so + s9 + KS ≤ ms → ∀ (hE : ∀ (e9 : Int32 × gT × gM) (ad1 : Nat → Nat) (ce1 so1 : Nat), e0 = e9 → gExt x0.2.2.1 e9.2.1 → (∀ a : Nat, a < x0.2.2.1.length → ad1 a = ad a) → ce1 + K ≤ mc → so1 + KS ≤ ms → gG Z ad1 e9.2.1 e9.2.2 ce1 so1 66 [(0, .ref a0), (1, .int i1), (2, .int i2), (3, .int e9.1)] []), gG Z ad x0.2.2.1 x0.2.2.2 ce so 26 [(0, .ref a0), (1, .int i1), (2, .int i2), (3, .int x0.1), (4, .ref a4), (5, .int i5), (6, .int x0.2.1)] []
  | 0 => fun h => nomatch h
  | n9 + 1 => fun h hk1 hk2 hE => by
    rcases gloopc_sp h with hB | ⟨a9, c1, s1, c2, s2, hB, h2, e1, e2⟩
    · exact t_X10_binding_B26 (K := K) (KS := KS) hF hn hd hk1 hk2 hB (fun e9 ad1 ce1 so1 q9 => hE e9 ad1 ce1 so1 (Sum.inl.inj q9)) (fun n8 ad1 ce1 so1 q9 => nomatch q9)
    · exact t_X10_binding_B26 (K := c2 + K) (KS := s2 + KS) hF hn hd (by omega) (by omega) hB (fun e9 ad1 ce1 so1 q9 => nomatch q9) (fun n8 ad1 ce1 so1 q9 x9 y9 k1 k2 => by rw [← Sum.inr.inj q9] at x9 ⊢; exact t_X10_binding_L26 (K := K) (KS := KS) hF hn hd n9 h2 (by omega) (by omega) (fun e9 ad2 ce2 so2 q8 x2 y2 => hE e9 ad2 ce2 so2 q8 (gExt.tr x9 x2) (gad_call y2 x9 y9)))
