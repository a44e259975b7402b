theorem t_X9_voteOf_B33 {Z : gZ} {d mc ms : Nat} {Acc : Option Value → (Nat → Nat) → gT → gM → Prop} {AccX : Nat → (Nat → Nat) → gT → gM → Prop} {ad : Nat → Nat} {T : gT} {M : gM} {m_a0 : Nat} {a0 : Nat} {i1 : Int32} {i2 : Int32} {i3 : Int32} {o : (Int32) ⊕ (Int32)} (hF : gFix Z cX9_voteOf RX9 "voteOf" (some .int) d mc ms Acc AccX) (hn : Z.2.2.2.2.2.1 = 5) (hd : 4 ≤ d) (q0 : T[a0]? = some (9, m_a0)) (h : f_X9_voteOf_B33 T M a0 i1 i2 i3 = some o) (hR : ∀ r9, o = .inl r9 → Acc (some (.int r9)) ad T M) (hN : ∀ n9, o = .inr n9 → gG Z ad T M 0 0 33 [(0, .ref a0), (1, .int i1), (2, .int i2), (3, .int n9)] []) : gG Z ad T M 0 0 33 [(0, .ref a0), (1, .int i1), (2, .int i2), (3, .int i3)] [] := by
  unfold f_X9_voteOf_B33 at h
  refine g_iload_n hF 3 rfl rfl dX9_voteOf_33 ?_
  refine g_aload_n hF 0 rfl rfl dX9_voteOf_34 ?_
  obtain ⟨b1, h1, h⟩ := gbnd h
  obtain ⟨g1, l1, q_b1⟩ := ldr_sp h1
  refine g_get_r hF g1 fl_RX9_17 q0 dX9_voteOf_35 ?_
  refine g_iload_n hF 1 rfl rfl dX9_voteOf_38 ?_
  obtain ⟨x2, h2, h⟩ := gbnd h
  refine g_callS hF my_X9_at kw_1244 kw_1245 (c_X9_at (d := d - 1) (by omega)  h2) (by omega) (Nat.zero_le _) (Nat.zero_le _) rfl rfl (Nat.le_of_ble_eq_true rfl) dX9_voteOf_39 (g_sameS ?_)
  refine g_iconst (v := (3 : Int32)) hF rfl dX9_voteOf_42 ?_
  refine g_iadd hF dX9_voteOf_43 ?_
  obtain ⟨v3, h3, h⟩ := gbnd h
  obtain ⟨i3h, e3v⟩ := ald_sp q_b1 h3
  refine g_iald hF q_b1 i3h dX9_voteOf_44 ?_
  rw [← e3v]
  refine g_icmp_ge (tgt := 82) hF dX9_voteOf_45 (by decide) (fun c4 => ?_) (fun c4 => ?_)
  · replace h := gif_t c4 h
    refine g_iconst (v := (-1 : Int32)) hF rfl dX9_voteOf_82 ?_
    cases h
    exact g_ret_i hF rfl rfl dX9_voteOf_83 (hR _ rfl) (Nat.zero_le _) (Nat.zero_le _)
  · replace h := gif_f c4 h
    refine g_aload_n hF 0 rfl rfl dX9_voteOf_48 ?_
    obtain ⟨b5, h5, h⟩ := gbnd h
    obtain ⟨g5, l5, q_b5⟩ := ldr_sp h5
    refine g_get_r hF g5 fl_RX9_17 q0 dX9_voteOf_49 ?_
    refine g_iload_n hF 1 rfl rfl dX9_voteOf_52 ?_
    obtain ⟨x6, h6, h⟩ := gbnd h
    refine g_callS hF my_X9_at kw_1244 kw_1245 (c_X9_at (d := d - 1) (by omega)  h6) (by omega) (Nat.zero_le _) (Nat.zero_le _) rfl rfl (Nat.le_of_ble_eq_true rfl) dX9_voteOf_53 (g_sameS ?_)
    refine g_iconst (v := (4 : Int32)) hF rfl dX9_voteOf_56 ?_
    refine g_iadd hF dX9_voteOf_57 ?_
    refine g_iload_n hF 3 rfl rfl dX9_voteOf_58 ?_
    refine g_iadd hF dX9_voteOf_59 ?_
    obtain ⟨v7, h7, h⟩ := gbnd h
    obtain ⟨i7h, e7v⟩ := ald_sp q_b5 h7
    refine g_iald hF q_b5 i7h dX9_voteOf_60 ?_
    rw [← e7v]
    refine g_istore (ls' := [(4, .int v7), (0, .ref a0), (1, .int i1), (2, .int i2), (3, .int i3)]) hF (by rw [hn]; decide) rfl dX9_voteOf_61 ?_
    refine g_aload_n hF 1 rfl rfl dX9_voteOf_63 ?_
    refine g_iload hF 0 rfl dX9_voteOf_64 ?_
    refine g_iload_n hF 3 rfl rfl dX9_voteOf_66 ?_
    obtain ⟨x8, h8, h⟩ := gbnd h
    refine g_callV hF my_X9_isCandidate kw_1380 kw_1382 kw_95 gC_9.1 (by decide) q0 (c_X9_isCandidate (d := d - 1) (by omega) q0 h8) (by omega) (Nat.zero_le _) (Nat.zero_le _) rfl rfl (Nat.le_of_ble_eq_true rfl) dX9_voteOf_67 (g_sameS ?_)
    refine g_if_eq (tgt := 76) hF dX9_voteOf_70 (by decide) (fun c9 => ?_) (fun c9 => ?_)
    · replace h := gif_t c9 h
      refine g_iinc (n := 1) (v := (i3 + (1 : Int32))) (ls' := [(3, .int (i3 + (1 : Int32))), (4, .int v7), (0, .ref a0), (1, .int i1), (2, .int i2)]) hF 4 rfl rfl (by rw [hn]; decide) rfl dX9_voteOf_76 ?_
      refine g_goto (tgt := 33) hF dX9_voteOf_79 (by decide) ?_
      exact gG_sub [2, 3, 4, 0] rfl (hN _ (Option.some.inj h).symm)
    · replace h := gif_f c9 h
      refine g_iload hF 0 rfl dX9_voteOf_73 ?_
      cases h
      exact g_ret_i hF rfl rfl dX9_voteOf_75 (hR _ rfl) (Nat.zero_le _) (Nat.zero_le _)
theorem t_X9_voteOf_L33 {Z : gZ} {d mc ms : Nat} {Acc : Option Value → (Nat → Nat) → gT → gM → Prop} {AccX : Nat → (Nat → Nat) → gT → gM → Prop} {ad : Nat → Nat} {T : gT} {M : gM} {m_a0 : Nat} {a0 : Nat} {i1 : Int32} {i2 : Int32} {i3 : Int32} {o : Int32} (hF : gFix Z cX9_voteOf RX9 "voteOf" (some .int) d mc ms Acc AccX) (hn : Z.2.2.2.2.2.1 = 5) (hd : 4 ≤ d) (q0 : T[a0]? = some (9, m_a0)) (h : gloop (fun x => f_X9_voteOf_B33 T M a0 i1 i2 x) gFU i3 = some o) (hR : Acc (some (.int o)) ad T M) : gG Z ad T M 0 0 33 [(0, .ref a0), (1, .int i1), (2, .int i2), (3, .int i3)] [] := by
  refine gloop_ind (P := fun x0 : Int32 => gG Z ad T M 0 0 33 [(0, .ref a0), (1, .int i1), (2, .int i2), (3, .int x0)] []) (e := o) (fun x0 y hy hl hr => ?_) gFU i3 h
  exact t_X9_voteOf_B33 hF hn hd q0 hy (fun r9 q9 => by rw [hl _ q9]; exact hR) (fun n9 q9 => hr n9 q9)
theorem t_X9_voteOf_17 {Z : gZ} {d mc ms : Nat} {Acc : Option Value → (Nat → Nat) → gT → gM → Prop} {AccX : Nat → (Nat → Nat) → gT → gM → Prop} {ad : Nat → Nat} {T : gT} {M : gM} {m_a0 : Nat} {a0 : Nat} {i1 : Int32} {o : Int32} (hF : gFix Z cX9_voteOf RX9 "voteOf" (some .int) d mc ms Acc AccX) (hn : Z.2.2.2.2.2.1 = 5) (hd : 4 ≤ d) (q0 : T[a0]? = some (9, m_a0)) (h : f_X9_voteOf_17 T M a0 i1 = some o) (hR : Acc (some (.int o)) ad T M) : gG Z ad T M 0 0 17 [(0, .ref a0), (1, .int i1)] [] := by
  unfold f_X9_voteOf_17 at h
  refine g_aload_n hF 0 rfl rfl dX9_voteOf_17 ?_
  refine g_iload_n hF 1 rfl rfl dX9_voteOf_18 ?_
  obtain ⟨x10, h10, h⟩ := gbnd h
  refine g_callV hF my_X9_isLoaded kw_1343 kw_1345 kw_90 gC_9.1 (by decide) q0 (c_X9_isLoaded (d := d - 1) (by omega) q0 h10) (by omega) (Nat.zero_le _) (Nat.zero_le _) rfl rfl (Nat.le_of_ble_eq_true rfl) dX9_voteOf_19 (g_sameS ?_)
  refine g_if_eq (tgt := 29) hF dX9_voteOf_22 (by decide) (fun c11 => ?_) (fun c11 => ?_)
  · replace h := gif_t c11 h
    refine g_iconst (v := (-1 : Int32)) hF rfl dX9_voteOf_29 ?_
    cases h
    exact g_ret_i hF rfl rfl dX9_voteOf_30 hR (Nat.zero_le _) (Nat.zero_le _)
  · replace h := gif_f c11 h
    refine g_iload_n hF 1 rfl rfl dX9_voteOf_25 ?_
    refine g_goto (tgt := 30) hF dX9_voteOf_26 (by decide) ?_
    cases h
    exact g_ret_i hF rfl rfl dX9_voteOf_30 hR (Nat.zero_le _) (Nat.zero_le _)
theorem t_X9_voteOf {Z : gZ} {d mc ms : Nat} {Acc : Option Value → (Nat → Nat) → gT → gM → Prop} {AccX : Nat → (Nat → Nat) → gT → gM → Prop} {ad : Nat → Nat} {T : gT} {M : gM} {m_a0 : Nat} {a0 : Nat} {i1 : Int32} {i2 : Int32} {o : Int32} (hF : gFix Z cX9_voteOf RX9 "voteOf" (some .int) d mc ms Acc AccX) (hn : Z.2.2.2.2.2.1 = 5) (hd : 4 ≤ d) (q0 : T[a0]? = some (9, m_a0)) (h : f_X9_voteOf T M a0 i1 i2 = some o) (hR : Acc (some (.int o)) ad T M) : gG Z ad T M 0 0 0 [(0, .ref a0), (1, .int i1), (2, .int i2)] [] := by
  unfold f_X9_voteOf at h
  refine g_aload_n hF 0 rfl rfl dX9_voteOf_0 ?_
  refine g_iload_n hF 1 rfl rfl dX9_voteOf_1 ?_
  obtain ⟨x12, h12, h⟩ := gbnd h
  refine g_callV hF my_X9_isLoaded kw_1343 kw_1345 kw_90 gC_9.1 (by decide) q0 (c_X9_isLoaded (d := d - 1) (by omega) q0 h12) (by omega) (Nat.zero_le _) (Nat.zero_le _) rfl rfl (Nat.le_of_ble_eq_true rfl) dX9_voteOf_2 (g_sameS ?_)
  refine g_if_eq (tgt := 17) hF dX9_voteOf_5 (by decide) (fun c13 => ?_) (fun c13 => ?_)
  · replace h := gif_t c13 h
    exact gG_sub [0, 1] rfl (t_X9_voteOf_17 hF hn hd q0 h hR)
  · replace h := gif_f c13 h
    refine g_aload_n hF 0 rfl rfl dX9_voteOf_8 ?_
    refine g_iload_n hF 1 rfl rfl dX9_voteOf_9 ?_
    refine g_iload_n hF 2 rfl rfl dX9_voteOf_10 ?_
    obtain ⟨x14, h14, h⟩ := gbnd h
    refine g_callV hF my_X9_isCandidate kw_1380 kw_1382 kw_95 gC_9.1 (by decide) q0 (c_X9_isCandidate (d := d - 1) (by omega) q0 h14) (by omega) (Nat.zero_le _) (Nat.zero_le _) rfl rfl (Nat.le_of_ble_eq_true rfl) dX9_voteOf_11 (g_sameS ?_)
    refine g_if_eq (tgt := 31) hF dX9_voteOf_14 (by decide) (fun c15 => ?_) (fun c15 => ?_)
    · replace h := gif_t c15 h
      refine g_iconst (v := (0 : Int32)) hF rfl dX9_voteOf_31 ?_
      refine g_istore_n (ls' := [(3, .int (0 : Int32)), (0, .ref a0), (1, .int i1), (2, .int i2)]) hF rfl (by rw [hn]; decide) rfl dX9_voteOf_32 ?_
      obtain ⟨x16, h16, h⟩ := gbnd h
      cases h
      exact gG_sub [1, 2, 3, 0] rfl (t_X9_voteOf_L33 hF hn hd q0 h16 hR)
    · replace h := gif_f c15 h
      exact gG_sub [0, 1] rfl (t_X9_voteOf_17 hF hn hd q0 h hR)
theorem c_X9_voteOf {d : Nat} {T : gT} {M : gM} {m_a0 : Nat} {a0 : Nat} {i1 : Int32} {i2 : Int32} {r : Int32} (hd : 4 ≤ d) (q0 : T[a0]? = some (9, m_a0)) (h : f_X9_voteOf T M a0 i1 i2 = some (r)) : gRet d yX9_voteOf cX9_voteOf 5 (some .int) 0 0 [.ref a0, .int i1, .int i2] T M (gSame T (some (.int r)) M) := by
  refine gRet_of (own := RX9) (by decide) rfl (Nat.le_of_ble_eq_true rfl) (fun Z ad0 hn h0 hF => ?_)
  exact t_X9_voteOf hF hn hd q0 h ⟨rfl, rfl, rfl, rfl⟩
theorem t_X9_layName_306 {Z : gZ} {d mc ms : Nat} {Acc : Option Value → (Nat → Nat) → gT → gM → Prop} {AccX : Nat → (Nat → Nat) → gT → gM → Prop} {ad : Nat → Nat} {T : gT} {M : gM} {m_a0 m_b0 : Nat} {a0 : Nat} {i1 : Int32} {i2 : Int32} {i3 : Int32} {i4 : Int32} {b0 : Nat} {k1 : Int32} {k2 : Int32} {o : (gM) ⊕ (Int32 × gM)} (hF : gFix Z cX9_layName RX9 "layName" none d mc ms Acc AccX) (hn : Z.2.2.2.2.2.1 = 7) (hd : 5 ≤ d) (q0 : T[a0]? = some (9, m_a0)) (p0 : T[b0]? = some (11, m_b0)) (h : f_X9_layName_306 T M a0 i1 i2 i3 i4 b0 k1 k2 = some o) (hE : ∀ e9, o = .inl e9 → gG Z ad T e9 0 0 313 [] []) (hN : ∀ n9, o = .inr n9 → gG Z ad T n9.2 0 0 202 [(0, .ref a0), (1, .int i1), (2, .int i2), (3, .int i3), (4, .int n9.1)] []) : gG Z ad T M 0 0 306 [(0, .ref a0), (1, .int i1), (2, .int i2), (3, .int i3), (4, .int i4)] [.int k2, .int k1, .ref b0] := by
  unfold f_X9_layName_306 at h
  obtain ⟨M1, h1, h⟩ := gbnd h
  obtain ⟨i1h, e1v⟩ := ast_sp p0 h1
  refine g_iast hF p0 i1h dX9_layName_306 ?_
  rw [← e1v]
  refine g_iinc (n := 1) (v := (i4 + (1 : Int32))) (ls' := [(4, .int (i4 + (1 : Int32))), (0, .ref a0), (1, .int i1), (2, .int i2), (3, .int i3)]) hF 4 rfl rfl (by rw [hn]; decide) rfl dX9_layName_307 ?_
  refine g_goto (tgt := 202) hF dX9_layName_310 (by decide) ?_
  exact gG_sub [1, 2, 3, 4, 0] rfl (hN _ (Option.some.inj h).symm)
theorem t_X9_layName_272 {Z : gZ} {d mc ms : Nat} {Acc : Option Value → (Nat → Nat) → gT → gM → Prop} {AccX : Nat → (Nat → Nat) → gT → gM → Prop} {ad : Nat → Nat} {T : gT} {M : gM} {m_a0 : Nat} {a0 : Nat} {i1 : Int32} {i2 : Int32} {i3 : Int32} {i4 : Int32} {i5 : Int32} {k0 : Int32} {o : (gM) ⊕ (Int32 × gM)} (hF : gFix Z cX9_layName RX9 "layName" none d mc ms Acc AccX) (hn : Z.2.2.2.2.2.1 = 7) (hd : 5 ≤ d) (q0 : T[a0]? = some (9, m_a0)) (h : f_X9_layName_272 T M a0 i1 i2 i3 i4 i5 k0 = some o) (hE : ∀ e9, o = .inl e9 → gG Z ad T e9 0 0 313 [] []) (hN : ∀ n9, o = .inr n9 → gG Z ad T n9.2 0 0 202 [(0, .ref a0), (1, .int i1), (2, .int i2), (3, .int i3), (4, .int n9.1)] []) : gG Z ad T M 0 0 272 [(0, .ref a0), (1, .int i1), (2, .int i2), (3, .int i3), (4, .int i4), (5, .int i5)] [.int k0] := by
  unfold f_X9_layName_272 at h
  refine g_istore (ls' := [(6, .int k0), (0, .ref a0), (1, .int i1), (2, .int i2), (3, .int i3), (4, .int i4), (5, .int i5)]) hF (by rw [hn]; decide) rfl dX9_layName_272 ?_
  refine g_aload_n hF 1 rfl rfl dX9_layName_274 ?_
  obtain ⟨b2, h2, h⟩ := gbnd h
  obtain ⟨g2, l2, q_b2⟩ := ldr_sp h2
  refine g_get_r hF g2 fl_RX9_50 q0 dX9_layName_275 ?_
  refine g_iload hF 5 rfl dX9_layName_278 ?_
  obtain ⟨b3, h3, h⟩ := gbnd h
  obtain ⟨i3h, g3, l3, q_b3⟩ := aldr_sp q_b2 h3
  refine g_aald2 hF q_b2 i3h g3 dX9_layName_280 ?_
  refine g_iload_n hF 2 rfl rfl dX9_layName_281 ?_
  refine g_aload_n hF 1 rfl rfl dX9_layName_282 ?_
  refine g_iload hF 5 rfl dX9_layName_283 ?_
  obtain ⟨x4, h4, h⟩ := gbnd h
  refine g_callV hF my_X9_isLoaded kw_1343 kw_1345 kw_90 gC_9.1 (by decide) q0 (c_X9_isLoaded (d := d - 1) (by omega) q0 h4) (by omega) (Nat.zero_le _) (Nat.zero_le _) rfl rfl (Nat.le_of_ble_eq_true rfl) dX9_layName_285 (g_sameS ?_)
  refine g_if_ne (tgt := 295) hF dX9_layName_288 (by decide) (fun c5 => ?_) (fun c5 => ?_)
  · replace h := gif_t c5 h
    refine g_iload hF 0 rfl dX9_layName_295 ?_
    refine g_if_eq (tgt := 305) hF dX9_layName_297 (by decide) (fun c6 => ?_) (fun c6 => ?_)
    · replace h := gif_t c6 h
      refine g_iload_n hF 4 rfl rfl dX9_layName_305 ?_
      exact gG_sub [1, 2, 3, 4, 5] rfl (t_X9_layName_306 hF hn hd q0 q_b3 h hE hN)
    · replace h := gif_f c6 h
      refine g_iload hF 6 rfl dX9_layName_300 ?_
      refine g_goto (tgt := 306) hF dX9_layName_302 (by decide) ?_
      exact gG_sub [1, 2, 3, 4, 5] rfl (t_X9_layName_306 hF hn hd q0 q_b3 h hE hN)
  · replace h := gif_n c5 h
    refine g_iconst (v := (-1 : Int32)) hF rfl dX9_layName_291 ?_
    refine g_goto (tgt := 306) hF dX9_layName_292 (by decide) ?_
    exact gG_sub [1, 2, 3, 4, 5] rfl (t_X9_layName_306 hF hn hd q0 q_b3 h hE hN)
theorem t_X9_layName_271 {Z : gZ} {d mc ms : Nat} {Acc : Option Value → (Nat → Nat) → gT → gM → Prop} {AccX : Nat → (Nat → Nat) → gT → gM → Prop} {ad : Nat → Nat} {T : gT} {M : gM} {m_a0 : Nat} {a0 : Nat} {i1 : Int32} {i2 : Int32} {i3 : Int32} {i4 : Int32} {i5 : Int32} {o : (gM) ⊕ (Int32 × gM)} (hF : gFix Z cX9_layName RX9 "layName" none d mc ms Acc AccX) (hn : Z.2.2.2.2.2.1 = 7) (hd : 5 ≤ d) (q0 : T[a0]? = some (9, m_a0)) (h : f_X9_layName_271 T M a0 i1 i2 i3 i4 i5 = some o) (hE : ∀ e9, o = .inl e9 → gG Z ad T e9 0 0 313 [] []) (hN : ∀ n9, o = .inr n9 → gG Z ad T n9.2 0 0 202 [(0, .ref a0), (1, .int i1), (2, .int i2), (3, .int i3), (4, .int n9.1)] []) : gG Z ad T M 0 0 271 [(0, .ref a0), (1, .int i1), (2, .int i2), (3, .int i3), (4, .int i4), (5, .int i5)] [] := by
  unfold f_X9_layName_271 at h
  refine g_iconst (v := (0 : Int32)) hF rfl dX9_layName_271 ?_
  exact gG_sub [0, 1, 2, 3, 4, 5] rfl (t_X9_layName_272 hF hn hd q0 h hE hN)
theorem t_X9_layName_186 {Z : gZ} {d mc ms : Nat} {Acc : Option Value → (Nat → Nat) → gT → gM → Prop} {AccX : Nat → (Nat → Nat) → gT → gM → Prop} {ad : Nat → Nat} {T : gT} {M : gM} {m_a0 : Nat} {a0 : Nat} {i1 : Int32} {i2 : Int32} {i3 : Int32} {i4 : Int32} {o : (Int32) ⊕ (Int32 × Int32)} (hF : gFix Z cX9_layName RX9 "layName" none d mc ms Acc AccX) (hn : Z.2.2.2.2.2.1 = 7) (hd : 5 ≤ d) (q0 : T[a0]? = some (9, m_a0)) (h : f_X9_layName_186 T M a0 i1 i2 i3 i4 = some o) (hE : ∀ e9, o = .inl e9 → gG Z ad T M 0 0 192 [(0, .ref a0), (1, .int i1), (2, .int i2), (3, .int e9)] []) (hN : ∀ n9, o = .inr n9 → gG Z ad T M 0 0 104 [(0, .ref a0), (1, .int i1), (2, .int i2), (3, .int n9.1), (4, .int n9.2)] []) : gG Z ad T M 0 0 186 [(0, .ref a0), (1, .int i1), (2, .int i2), (3, .int i3), (4, .int i4)] [] := by
  unfold f_X9_layName_186 at h
  refine g_iinc (n := 1) (v := (i4 + (1 : Int32))) (ls' := [(4, .int (i4 + (1 : Int32))), (0, .ref a0), (1, .int i1), (2, .int i2), (3, .int i3)]) hF 4 rfl rfl (by rw [hn]; decide) rfl dX9_layName_186 ?_
  refine g_goto (tgt := 104) hF dX9_layName_189 (by decide) ?_
  exact gG_sub [1, 2, 3, 4, 0] rfl (hN _ (Option.some.inj h).symm)
theorem t_X9_layName_183 {Z : gZ} {d mc ms : Nat} {Acc : Option Value → (Nat → Nat) → gT → gM → Prop} {AccX : Nat → (Nat → Nat) → gT → gM → Prop} {ad : Nat → Nat} {T : gT} {M : gM} {m_a0 : Nat} {a0 : Nat} {i1 : Int32} {i2 : Int32} {i4 : Int32} {o : (Int32) ⊕ (Int32 × Int32)} (hF : gFix Z cX9_layName RX9 "layName" none d mc ms Acc AccX) (hn : Z.2.2.2.2.2.1 = 7) (hd : 5 ≤ d) (q0 : T[a0]? = some (9, m_a0)) (h : f_X9_layName_183 T M a0 i1 i2 i4 = some o) (hE : ∀ e9, o = .inl e9 → gG Z ad T M 0 0 192 [(0, .ref a0), (1, .int i1), (2, .int i2), (3, .int e9)] []) (hN : ∀ n9, o = .inr n9 → gG Z ad T M 0 0 104 [(0, .ref a0), (1, .int i1), (2, .int i2), (3, .int n9.1), (4, .int n9.2)] []) : gG Z ad T M 0 0 183 [(0, .ref a0), (1, .int i1), (2, .int i2), (4, .int i4)] [] := by
  unfold f_X9_layName_183 at h
  refine g_iload hF 3 rfl dX9_layName_183 ?_
  refine g_istore_n (ls' := [(3, .int i4), (0, .ref a0), (1, .int i1), (2, .int i2), (4, .int i4)]) hF rfl (by rw [hn]; decide) rfl dX9_layName_185 ?_
  exact gG_sub [1, 2, 3, 0, 4] rfl (t_X9_layName_186 hF hn hd q0 h hE hN)
theorem t_X9_layName_155 {Z : gZ} {d mc ms : Nat} {Acc : Option Value → (Nat → Nat) → gT → gM → Prop} {AccX : Nat → (Nat → Nat) → gT → gM → Prop} {ad : Nat → Nat} {T : gT} {M : gM} {m_a0 : Nat} {a0 : Nat} {i1 : Int32} {i2 : Int32} {i3 : Int32} {i4 : Int32} {k0 : Int32} {o : (Int32) ⊕ (Int32 × Int32)} (hF : gFix Z cX9_layName RX9 "layName" none d mc ms Acc AccX) (hn : Z.2.2.2.2.2.1 = 7) (hd : 5 ≤ d) (q0 : T[a0]? = some (9, m_a0)) (h : f_X9_layName_155 T M a0 i1 i2 i3 i4 k0 = some o) (hE : ∀ e9, o = .inl e9 → gG Z ad T M 0 0 192 [(0, .ref a0), (1, .int i1), (2, .int i2), (3, .int e9)] []) (hN : ∀ n9, o = .inr n9 → gG Z ad T M 0 0 104 [(0, .ref a0), (1, .int i1), (2, .int i2), (3, .int n9.1), (4, .int n9.2)] []) : gG Z ad T M 0 0 155 [(0, .ref a0), (1, .int i1), (2, .int i2), (3, .int i3), (4, .int i4)] [.int k0] := by
  unfold f_X9_layName_155 at h
  refine g_istore (ls' := [(5, .int k0), (0, .ref a0), (1, .int i1), (2, .int i2), (3, .int i3), (4, .int i4)]) hF (by rw [hn]; decide) rfl dX9_layName_155 ?_
  refine g_iload hF 0 rfl dX9_layName_157 ?_
  refine g_if_gt (tgt := 183) hF dX9_layName_159 (by decide) (fun c7 => ?_) (fun c7 => ?_)
  · replace h := gif_t c7 h
    exact gG_sub [1, 2, 3, 5] rfl (t_X9_layName_183 hF hn hd q0 h hE hN)
  · replace h := gif_f c7 h
    refine g_iload hF 0 rfl dX9_layName_162 ?_
    refine g_if_ne (tgt := 186) hF dX9_layName_164 (by decide) (fun c8 => ?_) (fun c8 => ?_)
    · replace h := gif_t c8 h
      exact gG_sub [1, 2, 3, 4, 5] rfl (t_X9_layName_186 hF hn hd q0 h hE hN)
    · replace h := gif_n c8 h
      refine g_aload_n hF 1 rfl rfl dX9_layName_167 ?_
      obtain ⟨b9, h9, h⟩ := gbnd h
      obtain ⟨g9, l9, q_b9⟩ := ldr_sp h9
      refine g_get_r hF g9 fl_RX9_41 q0 dX9_layName_168 ?_
      refine g_iload hF 5 rfl dX9_layName_171 ?_
      obtain ⟨v10, h10, h⟩ := gbnd h
      obtain ⟨i10h, e10v⟩ := ald_sp q_b9 h10
      refine g_iald hF q_b9 i10h dX9_layName_173 ?_
      rw [← e10v]
      refine g_aload_n hF 1 rfl rfl dX9_layName_174 ?_
      obtain ⟨b11, h11, h⟩ := gbnd h
      obtain ⟨g11, l11, q_b11⟩ := ldr_sp h11
      refine g_get_r hF g11 fl_RX9_41 q0 dX9_layName_175 ?_
      refine g_iload_n hF 4 rfl rfl dX9_layName_178 ?_
      obtain ⟨v12, h12, h⟩ := gbnd h
      obtain ⟨i12h, e12v⟩ := ald_sp q_b11 h12
      refine g_iald hF q_b11 i12h dX9_layName_179 ?_
      rw [← e12v]
      refine g_icmp_ge (tgt := 186) hF dX9_layName_180 (by decide) (fun c13 => ?_) (fun c13 => ?_)
      · replace h := gif_t c13 h
        exact gG_sub [1, 2, 3, 4, 5] rfl (t_X9_layName_186 hF hn hd q0 h hE hN)
      · replace h := gif_f c13 h
        exact gG_sub [1, 2, 3, 5] rfl (t_X9_layName_183 hF hn hd q0 h hE hN)
theorem t_X9_layName_95 {Z : gZ} {d mc ms : Nat} {Acc : Option Value → (Nat → Nat) → gT → gM → Prop} {AccX : Nat → (Nat → Nat) → gT → gM → Prop} {ad : Nat → Nat} {T : gT} {M : gM} {m_a0 : Nat} {a0 : Nat} {i1 : Int32} {i2 : Int32} {i3 : Int32} {i4 : Int32} {o : (Int32 × gM) ⊕ (Int32 × Int32 × gM)} (hF : gFix Z cX9_layName RX9 "layName" none d mc ms Acc AccX) (hn : Z.2.2.2.2.2.1 = 7) (hd : 5 ≤ d) (q0 : T[a0]? = some (9, m_a0)) (h : f_X9_layName_95 T M a0 i1 i2 i3 i4 = some o) (hE : ∀ e9, o = .inl e9 → gG Z ad T e9.2 0 0 101 [(0, .ref a0), (1, .int i1), (2, .int e9.1), (3, .int i3)] []) (hN : ∀ n9, o = .inr n9 → gG Z ad T n9.2.2 0 0 37 [(0, .ref a0), (1, .int i1), (2, .int n9.1), (3, .int i3), (4, .int n9.2.1)] []) : gG Z ad T M 0 0 95 [(0, .ref a0), (1, .int i1), (2, .int i2), (3, .int i3), (4, .int i4)] [] := by
  unfold f_X9_layName_95 at h
  refine g_iinc (n := 1) (v := (i4 + (1 : Int32))) (ls' := [(4, .int (i4 + (1 : Int32))), (0, .ref a0), (1, .int i1), (2, .int i2), (3, .int i3)]) hF 4 rfl rfl (by rw [hn]; decide) rfl dX9_layName_95 ?_
  refine g_goto (tgt := 37) hF dX9_layName_98 (by decide) ?_
  exact gG_sub [1, 2, 3, 4, 0] rfl (hN _ (Option.some.inj h).symm)
theorem t_X9_layName_B202 {Z : gZ} {d mc ms : Nat} {Acc : Option Value → (Nat → Nat) → gT → gM → Prop} {AccX : Nat → (Nat → Nat) → gT → gM → Prop} {ad : Nat → Nat} {T : gT} {M : gM} {m_a0 : Nat} {a0 : Nat} {i1 : Int32} {i2 : Int32} {i3 : Int32} {i4 : Int32} {o : (gM) ⊕ (Int32 × gM)} (hF : gFix Z cX9_layName RX9 "layName" none d mc ms Acc AccX) (hn : Z.2.2.2.2.2.1 = 7) (hd : 5 ≤ d) (q0 : T[a0]? = some (9, m_a0)) (h : f_X9_layName_B202 T M a0 i1 i2 i3 i4 = some o) (hE : ∀ e9, o = .inl e9 → gG Z ad T e9 0 0 313 [] []) (hN : ∀ n9, o = .inr n9 → gG Z ad T n9.2 0 0 202 [(0, .ref a0), (1, .int i1), (2, .int i2), (3, .int i3), (4, .int n9.1)] []) : gG Z ad T M 0 0 202 [(0, .ref a0), (1, .int i1), (2, .int i2), (3, .int i3), (4, .int i4)] [] := by
  unfold f_X9_layName_B202 at h
  refine g_iload hF 4 rfl dX9_layName_202 ?_
  refine g_aload_n hF 0 rfl rfl dX9_layName_204 ?_
  obtain ⟨b14, h14, h⟩ := gbnd h
  obtain ⟨g14, l14, q_b14⟩ := ldr_sp h14
  refine g_get_r hF g14 fl_RX9_17 q0 dX9_layName_205 ?_
  refine g_iconst (v := (1 : Int32)) hF rfl dX9_layName_208 ?_
  obtain ⟨v15, h15, h⟩ := gbnd h
  obtain ⟨i15h, e15v⟩ := ald_sp q_b14 h15
  refine g_iald hF q_b14 i15h dX9_layName_209 ?_
  rw [← e15v]
  refine g_icmp_ge (tgt := 313) hF dX9_layName_210 (by decide) (fun c16 => ?_) (fun c16 => ?_)
  · replace h := gif_t c16 h
    exact gG_sub [] rfl (hE _ (Option.some.inj h).symm)
  · replace h := gif_f c16 h
    refine g_aload_n hF 0 rfl rfl dX9_layName_213 ?_
    refine g_iload hF 4 rfl dX9_layName_214 ?_
    refine g_iload_n hF 1 rfl rfl dX9_layName_216 ?_
    obtain ⟨x17, h17, h⟩ := gbnd h
    refine g_callV hF my_X9_voteOf kw_1388 kw_1390 kw_96 gC_9.1 (by decide) q0 (c_X9_voteOf (d := d - 1) (by omega) q0 h17) (by omega) (Nat.zero_le _) (Nat.zero_le _) rfl rfl (Nat.le_of_ble_eq_true rfl) dX9_layName_217 (g_sameS ?_)
    refine g_istore (ls' := [(5, .int x17), (0, .ref a0), (1, .int i1), (2, .int i2), (3, .int i3), (4, .int i4)]) hF (by rw [hn]; decide) rfl dX9_layName_220 ?_
    refine g_aload_n hF 1 rfl rfl dX9_layName_222 ?_
    obtain ⟨b18, h18, h⟩ := gbnd h
    obtain ⟨g18, l18, q_b18⟩ := ldr_sp h18
    refine g_get_r hF g18 fl_RX9_17 q0 dX9_layName_223 ?_
    refine g_iload hF 5 rfl dX9_layName_226 ?_
    obtain ⟨x19, h19, h⟩ := gbnd h
    refine g_callS hF my_X9_at kw_1244 kw_1245 (c_X9_at (d := d - 1) (by omega)  h19) (by omega) (Nat.zero_le _) (Nat.zero_le _) rfl rfl (Nat.le_of_ble_eq_true rfl) dX9_layName_228 (g_sameS ?_)
    refine g_iconst (v := (1 : Int32)) hF rfl dX9_layName_231 ?_
    refine g_iadd hF dX9_layName_232 ?_
    obtain ⟨v20, h20, h⟩ := gbnd h
    obtain ⟨i20h, e20v⟩ := ald_sp q_b18 h20
    refine g_iald hF q_b18 i20h dX9_layName_233 ?_
    rw [← e20v]
    refine g_iconst (v := (1 : Int32)) hF rfl dX9_layName_234 ?_
    refine g_icmp_ne (tgt := 271) hF dX9_layName_235 (by decide) (fun c21 => ?_) (fun c21 => ?_)
    · replace h := gif_t c21 h
      exact gG_sub [1, 2, 3, 4, 5, 0] rfl (t_X9_layName_271 hF hn hd q0 h hE hN)
    · replace h := gif_n c21 h
      refine g_iload hF 0 rfl dX9_layName_238 ?_
      refine g_iconst (v := (-1 : Int32)) hF rfl dX9_layName_240 ?_
      refine g_icmp_eq (tgt := 271) hF dX9_layName_241 (by decide) (fun c22 => ?_) (fun c22 => ?_)
      · replace h := gif_t c22 h
        exact gG_sub [1, 2, 3, 4, 5, 0] rfl (t_X9_layName_271 hF hn hd q0 h hE hN)
      · replace h := gif_f c22 h
        refine g_bipush (v := (100 : Int32)) hF rfl dX9_layName_244 ?_
        refine g_aload_n hF 1 rfl rfl dX9_layName_246 ?_
        obtain ⟨b23, h23, h⟩ := gbnd h
        obtain ⟨g23, l23, q_b23⟩ := ldr_sp h23
        refine g_get_r hF g23 fl_RX9_47 q0 dX9_layName_247 ?_
        refine g_iload hF 0 rfl dX9_layName_250 ?_
        obtain ⟨b24, h24, h⟩ := gbnd h
        obtain ⟨i24h, g24, l24, q_b24⟩ := aldr_sp q_b23 h24
        refine g_aald2 hF q_b23 i24h g24 dX9_layName_252 ?_
        refine g_iload_n hF 2 rfl rfl dX9_layName_253 ?_
        obtain ⟨v25, h25, h⟩ := gbnd h
        obtain ⟨i25h, e25v⟩ := ald_sp q_b24 h25
        refine g_iald hF q_b24 i25h dX9_layName_254 ?_
        rw [← e25v]
        refine g_imul hF dX9_layName_255 ?_
        refine g_aload_n hF 1 rfl rfl dX9_layName_256 ?_
        obtain ⟨b26, h26, h⟩ := gbnd h
        obtain ⟨g26, l26, q_b26⟩ := ldr_sp h26
        refine g_get_r hF g26 fl_RX9_17 q0 dX9_layName_257 ?_
        refine g_iconst (v := (0 : Int32)) hF rfl dX9_layName_260 ?_
        obtain ⟨v27, h27, h⟩ := gbnd h
        obtain ⟨i27h, e27v⟩ := ald_sp q_b26 h27
        refine g_iald hF q_b26 i27h dX9_layName_261 ?_
        rw [← e27v]
        refine g_iload_n hF 3 rfl rfl dX9_layName_262 ?_
        refine g_imul hF dX9_layName_263 ?_
        refine g_icmp_lt (tgt := 271) hF dX9_layName_264 (by decide) (fun c28 => ?_) (fun c28 => ?_)
        · replace h := gif_t c28 h
          exact gG_sub [1, 2, 3, 4, 5, 0] rfl (t_X9_layName_271 hF hn hd q0 h hE hN)
        · replace h := gif_f c28 h
          refine g_iconst (v := (1 : Int32)) hF rfl dX9_layName_267 ?_
          refine g_goto (tgt := 272) hF dX9_layName_268 (by decide) ?_
          exact gG_sub [1, 2, 3, 4, 5, 0] rfl (t_X9_layName_272 hF hn hd q0 h hE hN)
theorem t_X9_layName_L202 {Z : gZ} {d mc ms : Nat} {Acc : Option Value → (Nat → Nat) → gT → gM → Prop} {AccX : Nat → (Nat → Nat) → gT → gM → Prop} {ad : Nat → Nat} {T : gT} {M : gM} {m_a0 : Nat} {a0 : Nat} {i1 : Int32} {i2 : Int32} {i3 : Int32} {i4 : Int32} {o : gM} (hF : gFix Z cX9_layName RX9 "layName" none d mc ms Acc AccX) (hn : Z.2.2.2.2.2.1 = 7) (hd : 5 ≤ d) (q0 : T[a0]? = some (9, m_a0)) (h : gloop (fun x => f_X9_layName_B202 T x.2 a0 i1 i2 i3 x.1) gFU (i4, M) = some o) (hE : gG Z ad T o 0 0 313 [] []) : gG Z ad T M 0 0 202 [(0, .ref a0), (1, .int i1), (2, .int i2), (3, .int i3), (4, .int i4)] [] := by
  refine gloop_ind (P := fun x0 : Int32 × gM => gG Z ad T x0.2 0 0 202 [(0, .ref a0), (1, .int i1), (2, .int i2), (3, .int i3), (4, .int x0.1)] []) (e := o) (fun x0 y hy hl hr => ?_) gFU (i4, M) h
  exact t_X9_layName_B202 hF hn hd q0 hy (fun e9 q9 => by rw [hl _ q9]; exact hE) (fun n9 q9 => hr n9 q9)
theorem t_X9_layName_B104 {Z : gZ} {d mc ms : Nat} {Acc : Option Value → (Nat → Nat) → gT → gM → Prop} {AccX : Nat → (Nat → Nat) → gT → gM → Prop} {ad : Nat → Nat} {T : gT} {M : gM} {m_a0 : Nat} {a0 : Nat} {i1 : Int32} {i2 : Int32} {i3 : Int32} {i4 : Int32} {o : (Int32) ⊕ (Int32 × Int32)} (hF : gFix Z cX9_layName RX9 "layName" none d mc ms Acc AccX) (hn : Z.2.2.2.2.2.1 = 7) (hd : 5 ≤ d) (q0 : T[a0]? = some (9, m_a0)) (h : f_X9_layName_B104 T M a0 i1 i2 i3 i4 = some o) (hE : ∀ e9, o = .inl e9 → gG Z ad T M 0 0 192 [(0, .ref a0), (1, .int i1), (2, .int i2), (3, .int e9)] []) (hN : ∀ n9, o = .inr n9 → gG Z ad T M 0 0 104 [(0, .ref a0), (1, .int i1), (2, .int i2), (3, .int n9.1), (4, .int n9.2)] []) : gG Z ad T M 0 0 104 [(0, .ref a0), (1, .int i1), (2, .int i2), (3, .int i3), (4, .int i4)] [] := by
  unfold f_X9_layName_B104 at h
  refine g_iload hF 4 rfl dX9_layName_104 ?_
  refine g_aload_n hF 0 rfl rfl dX9_layName_106 ?_
  obtain ⟨b29, h29, h⟩ := gbnd h
  obtain ⟨g29, l29, q_b29⟩ := ldr_sp h29
  refine g_get_r hF g29 fl_RX9_17 q0 dX9_layName_107 ?_
  refine g_iconst (v := (1 : Int32)) hF rfl dX9_layName_110 ?_
  obtain ⟨v30, h30, h⟩ := gbnd h
  obtain ⟨i30h, e30v⟩ := ald_sp q_b29 h30
  refine g_iald hF q_b29 i30h dX9_layName_111 ?_
  rw [← e30v]
  refine g_icmp_ge (tgt := 192) hF dX9_layName_112 (by decide) (fun c31 => ?_) (fun c31 => ?_)
  · replace h := gif_t c31 h
    exact gG_sub [0, 1, 2, 3] rfl (hE _ (Option.some.inj h).symm)
  · replace h := gif_f c31 h
    refine g_aload_n hF 0 rfl rfl dX9_layName_115 ?_
    refine g_iload hF 4 rfl dX9_layName_116 ?_
    refine g_iload_n hF 1 rfl rfl dX9_layName_118 ?_
    obtain ⟨x32, h32, h⟩ := gbnd h
    refine g_callV hF my_X9_isCandidate kw_1380 kw_1382 kw_95 gC_9.1 (by decide) q0 (c_X9_isCandidate (d := d - 1) (by omega) q0 h32) (by omega) (Nat.zero_le _) (Nat.zero_le _) rfl rfl (Nat.le_of_ble_eq_true rfl) dX9_layName_119 (g_sameS ?_)
    refine g_if_ne (tgt := 128) hF dX9_layName_122 (by decide) (fun c33 => ?_) (fun c33 => ?_)
    · replace h := gif_t c33 h
      refine g_iload_n hF 3 rfl rfl dX9_layName_128 ?_
      refine g_iconst (v := (-1 : Int32)) hF rfl dX9_layName_129 ?_
      refine g_icmp_ne (tgt := 137) hF dX9_layName_130 (by decide) (fun c34 => ?_) (fun c34 => ?_)
      · replace h := gif_t c34 h
        refine g_aload_n hF 0 rfl rfl dX9_layName_137 ?_
        obtain ⟨b35, h35, h⟩ := gbnd h
        obtain ⟨g35, l35, q_b35⟩ := ldr_sp h35
        refine g_get_r hF g35 fl_RX9_47 q0 dX9_layName_138 ?_
        refine g_iload hF 4 rfl dX9_layName_141 ?_
        obtain ⟨b36, h36, h⟩ := gbnd h
        obtain ⟨i36h, g36, l36, q_b36⟩ := aldr_sp q_b35 h36
        refine g_aald2 hF q_b35 i36h g36 dX9_layName_143 ?_
        refine g_iload_n hF 1 rfl rfl dX9_layName_144 ?_
        obtain ⟨v37, h37, h⟩ := gbnd h
        obtain ⟨i37h, e37v⟩ := ald_sp q_b36 h37
        refine g_iald hF q_b36 i37h dX9_layName_145 ?_
        rw [← e37v]
        refine g_aload_n hF 0 rfl rfl dX9_layName_146 ?_
        obtain ⟨b38, h38, h⟩ := gbnd h
        obtain ⟨g38, l38, q_b38⟩ := ldr_sp h38
        refine g_get_r hF g38 fl_RX9_47 q0 dX9_layName_147 ?_
        refine g_iload_n hF 3 rfl rfl dX9_layName_150 ?_
        obtain ⟨b39, h39, h⟩ := gbnd h
        obtain ⟨i39h, g39, l39, q_b39⟩ := aldr_sp q_b38 h39
        refine g_aald2 hF q_b38 i39h g39 dX9_layName_151 ?_
        refine g_iload_n hF 1 rfl rfl dX9_layName_152 ?_
        obtain ⟨v40, h40, h⟩ := gbnd h
        obtain ⟨i40h, e40v⟩ := ald_sp q_b39 h40
        refine g_iald hF q_b39 i40h dX9_layName_153 ?_
        rw [← e40v]
        refine g_isub hF dX9_layName_154 ?_
        exact gG_sub [0, 1, 2, 3, 4] rfl (t_X9_layName_155 hF hn hd q0 h hE hN)
      · replace h := gif_n c34 h
        refine g_iconst (v := (1 : Int32)) hF rfl dX9_layName_133 ?_
        refine g_goto (tgt := 155) hF dX9_layName_134 (by decide) ?_
        exact gG_sub [0, 1, 2, 3, 4] rfl (t_X9_layName_155 hF hn hd q0 h hE hN)
    · replace h := gif_n c33 h
      refine g_goto (tgt := 186) hF dX9_layName_125 (by decide) ?_
      exact gG_sub [0, 1, 2, 3, 4] rfl (t_X9_layName_186 hF hn hd q0 h hE hN)
theorem t_X9_layName_L104 {Z : gZ} {d mc ms : Nat} {Acc : Option Value → (Nat → Nat) → gT → gM → Prop} {AccX : Nat → (Nat → Nat) → gT → gM → Prop} {ad : Nat → Nat} {T : gT} {M : gM} {m_a0 : Nat} {a0 : Nat} {i1 : Int32} {i2 : Int32} {i3 : Int32} {i4 : Int32} {o : Int32} (hF : gFix Z cX9_layName RX9 "layName" none d mc ms Acc AccX) (hn : Z.2.2.2.2.2.1 = 7) (hd : 5 ≤ d) (q0 : T[a0]? = some (9, m_a0)) (h : gloop (fun x => f_X9_layName_B104 T M a0 i1 i2 x.1 x.2) gFU (i3, i4) = some o) (hE : gG Z ad T M 0 0 192 [(0, .ref a0), (1, .int i1), (2, .int i2), (3, .int o)] []) : gG Z ad T M 0 0 104 [(0, .ref a0), (1, .int i1), (2, .int i2), (3, .int i3), (4, .int i4)] [] := by
  refine gloop_ind (P := fun x0 : Int32 × Int32 => gG Z ad T M 0 0 104 [(0, .ref a0), (1, .int i1), (2, .int i2), (3, .int x0.1), (4, .int x0.2)] []) (e := o) (fun x0 y hy hl hr => ?_) gFU (i3, i4) h
  exact t_X9_layName_B104 hF hn hd q0 hy (fun e9 q9 => by rw [hl _ q9]; exact hE) (fun n9 q9 => hr n9 q9)
theorem t_X9_layName_B37 {Z : gZ} {d mc ms : Nat} {Acc : Option Value → (Nat → Nat) → gT → gM → Prop} {AccX : Nat → (Nat → Nat) → gT → gM → Prop} {ad : Nat → Nat} {T : gT} {M : gM} {m_a0 : Nat} {a0 : Nat} {i1 : Int32} {i2 : Int32} {i3 : Int32} {i4 : Int32} {o : (Int32 × gM) ⊕ (Int32 × Int32 × gM)} (hF : gFix Z cX9_layName RX9 "layName" none d mc ms Acc AccX) (hn : Z.2.2.2.2.2.1 = 7) (hd : 5 ≤ d) (q0 : T[a0]? = some (9, m_a0)) (h : f_X9_layName_B37 T M a0 i1 i2 i3 i4 = some o) (hE : ∀ e9, o = .inl e9 → gG Z ad T e9.2 0 0 101 [(0, .ref a0), (1, .int i1), (2, .int e9.1), (3, .int i3)] []) (hN : ∀ n9, o = .inr n9 → gG Z ad T n9.2.2 0 0 37 [(0, .ref a0), (1, .int i1), (2, .int n9.1), (3, .int i3), (4, .int n9.2.1)] []) : gG Z ad T M 0 0 37 [(0, .ref a0), (1, .int i1), (2, .int i2), (3, .int i3), (4, .int i4)] [] := by
  unfold f_X9_layName_B37 at h
  refine g_iload hF 4 rfl dX9_layName_37 ?_
  refine g_aload_n hF 0 rfl rfl dX9_layName_39 ?_
  obtain ⟨b41, h41, h⟩ := gbnd h
  obtain ⟨g41, l41, q_b41⟩ := ldr_sp h41
  refine g_get_r hF g41 fl_RX9_17 q0 dX9_layName_40 ?_
  refine g_iconst (v := (1 : Int32)) hF rfl dX9_layName_43 ?_
  obtain ⟨v42, h42, h⟩ := gbnd h
  obtain ⟨i42h, e42v⟩ := ald_sp q_b41 h42
  refine g_iald hF q_b41 i42h dX9_layName_44 ?_
  rw [← e42v]
  refine g_icmp_ge (tgt := 101) hF dX9_layName_45 (by decide) (fun c43 => ?_) (fun c43 => ?_)
  · replace h := gif_t c43 h
    exact gG_sub [0, 1, 2, 3] rfl (hE _ (Option.some.inj h).symm)
  · replace h := gif_f c43 h
    refine g_aload_n hF 0 rfl rfl dX9_layName_48 ?_
    refine g_iload hF 4 rfl dX9_layName_49 ?_
    refine g_iload_n hF 1 rfl rfl dX9_layName_51 ?_
    obtain ⟨x44, h44, h⟩ := gbnd h
    refine g_callV hF my_X9_voteOf kw_1388 kw_1390 kw_96 gC_9.1 (by decide) q0 (c_X9_voteOf (d := d - 1) (by omega) q0 h44) (by omega) (Nat.zero_le _) (Nat.zero_le _) rfl rfl (Nat.le_of_ble_eq_true rfl) dX9_layName_52 (g_sameS ?_)
    refine g_istore (ls' := [(5, .int x44), (0, .ref a0), (1, .int i1), (2, .int i2), (3, .int i3), (4, .int i4)]) hF (by rw [hn]; decide) rfl dX9_layName_55 ?_
    refine g_iload hF 0 rfl dX9_layName_57 ?_
    refine g_iconst (v := (-1 : Int32)) hF rfl dX9_layName_59 ?_
    refine g_icmp_ne (tgt := 66) hF dX9_layName_60 (by decide) (fun c45 => ?_) (fun c45 => ?_)
    · replace h := gif_t c45 h
      refine g_aload_n hF 1 rfl rfl dX9_layName_66 ?_
      obtain ⟨b46, h46, h⟩ := gbnd h
      obtain ⟨g46, l46, q_b46⟩ := ldr_sp h46
      refine g_get_r hF g46 fl_RX9_47 q0 dX9_layName_67 ?_
      refine g_iload hF 0 rfl dX9_layName_70 ?_
      obtain ⟨b47, h47, h⟩ := gbnd h
      obtain ⟨i47h, g47, l47, q_b47⟩ := aldr_sp q_b46 h47
      refine g_aald2 hF q_b46 i47h g47 dX9_layName_72 ?_
      refine g_iload_n hF 2 rfl rfl dX9_layName_73 ?_
      refine g_dup2 hF rfl rfl dX9_layName_74 ?_
      obtain ⟨v48, h48, h⟩ := gbnd h
      obtain ⟨i48h, e48v⟩ := ald_sp q_b47 h48
      refine g_iald hF q_b47 i48h dX9_layName_75 ?_
      rw [← e48v]
      refine g_aload_n hF 1 rfl rfl dX9_layName_76 ?_
      obtain ⟨b49, h49, h⟩ := gbnd h
      obtain ⟨g49, l49, q_b49⟩ := ldr_sp h49
      refine g_get_r hF g49 fl_RX9_38 q0 dX9_layName_77 ?_
      refine g_iload hF 5 rfl dX9_layName_80 ?_
      obtain ⟨v50, h50, h⟩ := gbnd h
      obtain ⟨i50h, e50v⟩ := ald_sp q_b49 h50
      refine g_iald hF q_b49 i50h dX9_layName_82 ?_
      rw [← e50v]
      refine g_iadd hF dX9_layName_83 ?_
      obtain ⟨M51, h51, h⟩ := gbnd h
      obtain ⟨i51h, e51v⟩ := ast_sp q_b47 h51
      refine g_iast hF q_b47 i51h dX9_layName_84 ?_
      rw [← e51v]
      refine g_iload_n hF 3 rfl rfl dX9_layName_85 ?_
      refine g_aload_n hF 1 rfl rfl dX9_layName_86 ?_
      obtain ⟨b52, h52, h⟩ := gbnd h
      obtain ⟨g52, l52, q_b52⟩ := ldr_sp h52
      refine g_get_r hF g52 fl_RX9_38 q0 dX9_layName_87 ?_
      refine g_iload hF 5 rfl dX9_layName_90 ?_
      obtain ⟨v53, h53, h⟩ := gbnd h
      obtain ⟨i53h, e53v⟩ := ald_sp q_b52 h53
      refine g_iald hF q_b52 i53h dX9_layName_92 ?_
      rw [← e53v]
      refine g_iadd hF dX9_layName_93 ?_
      refine g_istore_n (ls' := [(2, .int (i2 + v53)), (5, .int x44), (0, .ref a0), (1, .int i1), (3, .int i3), (4, .int i4)]) hF rfl (by rw [hn]; decide) rfl dX9_layName_94 ?_
      exact gG_sub [2, 3, 0, 4, 5] rfl (t_X9_layName_95 hF hn hd q0 h hE hN)
    · replace h := gif_n c45 h
      refine g_goto (tgt := 95) hF dX9_layName_63 (by decide) ?_
      exact gG_sub [1, 2, 3, 4, 5] rfl (t_X9_layName_95 hF hn hd q0 h hE hN)
theorem t_X9_layName_L37 {Z : gZ} {d mc ms : Nat} {Acc : Option Value → (Nat → Nat) → gT → gM → Prop} {AccX : Nat → (Nat → Nat) → gT → gM → Prop} {ad : Nat → Nat} {T : gT} {M : gM} {m_a0 : Nat} {a0 : Nat} {i1 : Int32} {i2 : Int32} {i3 : Int32} {i4 : Int32} {o : Int32 × gM} (hF : gFix Z cX9_layName RX9 "layName" none d mc ms Acc AccX) (hn : Z.2.2.2.2.2.1 = 7) (hd : 5 ≤ d) (q0 : T[a0]? = some (9, m_a0)) (h : gloop (fun x => f_X9_layName_B37 T x.2.2 a0 i1 x.1 i3 x.2.1) gFU (i2, i4, M) = some o) (hE : gG Z ad T o.2 0 0 101 [(0, .ref a0), (1, .int i1), (2, .int o.1), (3, .int i3)] []) : gG Z ad T M 0 0 37 [(0, .ref a0), (1, .int i1), (2, .int i2), (3, .int i3), (4, .int i4)] [] := by
  refine gloop_ind (P := fun x0 : Int32 × Int32 × gM => gG Z ad T x0.2.2 0 0 37 [(0, .ref a0), (1, .int i1), (2, .int x0.1), (3, .int i3), (4, .int x0.2.1)] []) (e := o) (fun x0 y hy hl hr => ?_) gFU (i2, i4, M) h
  exact t_X9_layName_B37 hF hn hd q0 hy (fun e9 q9 => by rw [hl _ q9]; exact hE) (fun n9 q9 => hr n9 q9)
theorem t_X9_layName_B7 {Z : gZ} {d mc ms : Nat} {Acc : Option Value → (Nat → Nat) → gT → gM → Prop} {AccX : Nat → (Nat → Nat) → gT → gM → Prop} {ad : Nat → Nat} {T : gT} {M : gM} {m_a0 : Nat} {a0 : Nat} {i1 : Int32} {i2 : Int32} {i3 : Int32} {i4 : Int32} {o : (gM) ⊕ (Int32 × gM)} (hF : gFix Z cX9_layName RX9 "layName" none d mc ms Acc AccX) (hn : Z.2.2.2.2.2.1 = 7) (hd : 5 ≤ d) (q0 : T[a0]? = some (9, m_a0)) (h : f_X9_layName_B7 T M a0 i1 i2 i3 i4 = some o) (hE : ∀ e9, o = .inl e9 → gG Z ad T e9 0 0 34 [(0, .ref a0), (1, .int i1), (2, .int i2), (3, .int i3)] []) (hN : ∀ n9, o = .inr n9 → gG Z ad T n9.2 0 0 7 [(0, .ref a0), (1, .int i1), (2, .int i2), (3, .int i3), (4, .int n9.1)] []) : gG Z ad T M 0 0 7 [(0, .ref a0), (1, .int i1), (2, .int i2), (3, .int i3), (4, .int i4)] [] := by
  unfold f_X9_layName_B7 at h
  refine g_iload hF 4 rfl dX9_layName_7 ?_
  refine g_aload_n hF 0 rfl rfl dX9_layName_9 ?_
  obtain ⟨b54, h54, h⟩ := gbnd h
  obtain ⟨g54, l54, q_b54⟩ := ldr_sp h54
  refine g_get_r hF g54 fl_RX9_17 q0 dX9_layName_10 ?_
  refine g_iconst (v := (1 : Int32)) hF rfl dX9_layName_13 ?_
  obtain ⟨v55, h55, h⟩ := gbnd h
  obtain ⟨i55h, e55v⟩ := ald_sp q_b54 h55
  refine g_iald hF q_b54 i55h dX9_layName_14 ?_
  rw [← e55v]
  refine g_icmp_ge (tgt := 34) hF dX9_layName_15 (by decide) (fun c56 => ?_) (fun c56 => ?_)
  · replace h := gif_t c56 h
    exact gG_sub [0, 1, 2, 3] rfl (hE _ (Option.some.inj h).symm)
  · replace h := gif_f c56 h
    refine g_aload_n hF 0 rfl rfl dX9_layName_18 ?_
    obtain ⟨b57, h57, h⟩ := gbnd h
    obtain ⟨g57, l57, q_b57⟩ := ldr_sp h57
    refine g_get_r hF g57 fl_RX9_47 q0 dX9_layName_19 ?_
    refine g_iload hF 4 rfl dX9_layName_22 ?_
    obtain ⟨b58, h58, h⟩ := gbnd h
    obtain ⟨i58h, g58, l58, q_b58⟩ := aldr_sp q_b57 h58
    refine g_aald2 hF q_b57 i58h g58 dX9_layName_24 ?_
    refine g_iload_n hF 1 rfl rfl dX9_layName_25 ?_
    refine g_iconst (v := (0 : Int32)) hF rfl dX9_layName_26 ?_
    obtain ⟨M59, h59, h⟩ := gbnd h
    obtain ⟨i59h, e59v⟩ := ast_sp q_b58 h59
    refine g_iast hF q_b58 i59h dX9_layName_27 ?_
    rw [← e59v]
    refine g_iinc (n := 1) (v := (i4 + (1 : Int32))) (ls' := [(4, .int (i4 + (1 : Int32))), (0, .ref a0), (1, .int i1), (2, .int i2), (3, .int i3)]) hF 4 rfl rfl (by rw [hn]; decide) rfl dX9_layName_28 ?_
    refine g_goto (tgt := 7) hF dX9_layName_31 (by decide) ?_
    exact gG_sub [1, 2, 3, 4, 0] rfl (hN _ (Option.some.inj h).symm)
theorem t_X9_layName_L7 {Z : gZ} {d mc ms : Nat} {Acc : Option Value → (Nat → Nat) → gT → gM → Prop} {AccX : Nat → (Nat → Nat) → gT → gM → Prop} {ad : Nat → Nat} {T : gT} {M : gM} {m_a0 : Nat} {a0 : Nat} {i1 : Int32} {i2 : Int32} {i3 : Int32} {i4 : Int32} {o : gM} (hF : gFix Z cX9_layName RX9 "layName" none d mc ms Acc AccX) (hn : Z.2.2.2.2.2.1 = 7) (hd : 5 ≤ d) (q0 : T[a0]? = some (9, m_a0)) (h : gloop (fun x => f_X9_layName_B7 T x.2 a0 i1 i2 i3 x.1) gFU (i4, M) = some o) (hE : gG Z ad T o 0 0 34 [(0, .ref a0), (1, .int i1), (2, .int i2), (3, .int i3)] []) : gG Z ad T M 0 0 7 [(0, .ref a0), (1, .int i1), (2, .int i2), (3, .int i3), (4, .int i4)] [] := by
  refine gloop_ind (P := fun x0 : Int32 × gM => gG Z ad T x0.2 0 0 7 [(0, .ref a0), (1, .int i1), (2, .int i2), (3, .int i3), (4, .int x0.1)] []) (e := o) (fun x0 y hy hl hr => ?_) gFU (i4, M) h
  exact t_X9_layName_B7 hF hn hd q0 hy (fun e9 q9 => by rw [hl _ q9]; exact hE) (fun n9 q9 => hr n9 q9)
theorem t_X9_layName {Z : gZ} {d mc ms : Nat} {Acc : Option Value → (Nat → Nat) → gT → gM → Prop} {AccX : Nat → (Nat → Nat) → gT → gM → Prop} {ad : Nat → Nat} {T : gT} {M : gM} {m_a0 : Nat} {a0 : Nat} {i1 : Int32} {o : gM} (hF : gFix Z cX9_layName RX9 "layName" none d mc ms Acc AccX) (hn : Z.2.2.2.2.2.1 = 7) (hd : 5 ≤ d) (q0 : T[a0]? = some (9, m_a0)) (h : f_X9_layName T M a0 i1 = some o) (hR : Acc none ad T o) : gG Z ad T M 0 0 0 [(0, .ref a0), (1, .int i1)] [] := by
  unfold f_X9_layName at h
  refine g_iconst (v := (0 : Int32)) hF rfl dX9_layName_0 ?_
  refine g_istore_n (ls' := [(2, .int (0 : Int32)), (0, .ref a0), (1, .int i1)]) hF rfl (by rw [hn]; decide) rfl dX9_layName_1 ?_
  refine g_iconst (v := (-1 : Int32)) hF rfl dX9_layName_2 ?_
  refine g_istore_n (ls' := [(3, .int (-1 : Int32)), (2, .int (0 : Int32)), (0, .ref a0), (1, .int i1)]) hF rfl (by rw [hn]; decide) rfl dX9_layName_3 ?_
  refine g_iconst (v := (0 : Int32)) hF rfl dX9_layName_4 ?_
  refine g_istore (ls' := [(4, .int (0 : Int32)), (3, .int (-1 : Int32)), (2, .int (0 : Int32)), (0, .ref a0), (1, .int i1)]) hF (by rw [hn]; decide) rfl dX9_layName_5 ?_
  obtain ⟨x60, h60, h⟩ := gbnd h
  refine gG_sub [3, 4, 2, 1, 0] rfl (t_X9_layName_L7 hF hn hd q0 h60 ?_)
  refine g_iconst (v := (0 : Int32)) hF rfl dX9_layName_34 ?_
  refine g_istore (ls' := [(4, .int (0 : Int32)), (0, .ref a0), (1, .int i1), (2, .int (0 : Int32)), (3, .int (-1 : Int32))]) hF (by rw [hn]; decide) rfl dX9_layName_35 ?_
  obtain ⟨x61, h61, h⟩ := gbnd h
  refine gG_sub [1, 2, 3, 4, 0] rfl (t_X9_layName_L37 hF hn hd q0 h61 ?_)
  refine g_iconst (v := (0 : Int32)) hF rfl dX9_layName_101 ?_
  refine g_istore (ls' := [(4, .int (0 : Int32)), (0, .ref a0), (1, .int i1), (2, .int x61.1), (3, .int (-1 : Int32))]) hF (by rw [hn]; decide) rfl dX9_layName_102 ?_
  obtain ⟨x62, h62, h⟩ := gbnd h
  refine gG_sub [1, 2, 3, 4, 0] rfl (t_X9_layName_L104 hF hn hd q0 h62 ?_)
  refine g_aload_n hF 0 rfl rfl dX9_layName_192 ?_
  obtain ⟨b63, h63, h⟩ := gbnd h
  obtain ⟨g63, l63, q_b63⟩ := ldr_sp h63
  refine g_get_r hF g63 fl_RX9_44 q0 dX9_layName_193 ?_
  refine g_iload_n hF 1 rfl rfl dX9_layName_196 ?_
  refine g_iload_n hF 3 rfl rfl dX9_layName_197 ?_
  obtain ⟨M64, h64, h⟩ := gbnd h
  obtain ⟨i64h, e64v⟩ := ast_sp q_b63 h64
  refine g_iast hF q_b63 i64h dX9_layName_198 ?_
  rw [← e64v]
  refine g_iconst (v := (0 : Int32)) hF rfl dX9_layName_199 ?_
  refine g_istore (ls' := [(4, .int (0 : Int32)), (0, .ref a0), (1, .int i1), (2, .int x61.1), (3, .int x62)]) hF (by rw [hn]; decide) rfl dX9_layName_200 ?_
  obtain ⟨x65, h65, h⟩ := gbnd h
  refine gG_sub [1, 2, 3, 4, 0] rfl (t_X9_layName_L202 hF hn hd q0 h65 ?_)
  cases h
  exact g_ret_v hF rfl dX9_layName_313 hR (Nat.zero_le _) (Nat.zero_le _)
theorem c_X9_layName {d : Nat} {T : gT} {M : gM} {m_a0 : Nat} {a0 : Nat} {i1 : Int32} {r : gM} (hd : 5 ≤ d) (q0 : T[a0]? = some (9, m_a0)) (h : f_X9_layName T M a0 i1 = some (r)) : gRet d yX9_layName cX9_layName 7 none 0 0 [.ref a0, .int i1] T M (gSame T none r) := by
  refine gRet_of (own := RX9) (by decide) rfl (Nat.le_of_ble_eq_true rfl) (fun Z ad0 hn h0 hF => ?_)
  exact t_X9_layName hF hn hd q0 h ⟨rfl, rfl, rfl, rfl⟩
theorem t_X9_layAll_B42 {Z : gZ} {d mc ms : Nat} {Acc : Option Value → (Nat → Nat) → gT → gM → Prop} {AccX : Nat → (Nat → Nat) → gT → gM → Prop} {ad : Nat → Nat} {T : gT} {M : gM} {m_a0 : Nat} {a0 : Nat} {i1 : Int32} {o : (gM) ⊕ (Int32 × gM)} (hF : gFix Z cX9_layAll RX9 "layAll" none d mc ms Acc AccX) (hn : Z.2.2.2.2.2.1 = 2) (hd : 6 ≤ d) (q0 : T[a0]? = some (9, m_a0)) (h : f_X9_layAll_B42 T M a0 i1 = some o) (hE : ∀ e9, o = .inl e9 → gG Z ad T e9 0 0 63 [] []) (hN : ∀ n9, o = .inr n9 → gG Z ad T n9.2 0 0 42 [(0, .ref a0), (1, .int n9.1)] []) : gG Z ad T M 0 0 42 [(0, .ref a0), (1, .int i1)] [] := by
  unfold f_X9_layAll_B42 at h
  refine g_iload_n hF 1 rfl rfl dX9_layAll_42 ?_
  refine g_aload_n hF 0 rfl rfl dX9_layAll_43 ?_
  obtain ⟨b1, h1, h⟩ := gbnd h
  obtain ⟨g1, l1, q_b1⟩ := ldr_sp h1
  refine g_get_r hF g1 fl_RX9_17 q0 dX9_layAll_44 ?_
  refine g_iconst (v := (2 : Int32)) hF rfl dX9_layAll_47 ?_
  obtain ⟨v2, h2, h⟩ := gbnd h
  obtain ⟨i2h, e2v⟩ := ald_sp q_b1 h2
  refine g_iald hF q_b1 i2h dX9_layAll_48 ?_
  rw [← e2v]
  refine g_icmp_ge (tgt := 63) hF dX9_layAll_49 (by decide) (fun c3 => ?_) (fun c3 => ?_)
  · replace h := gif_t c3 h
    exact gG_sub [] rfl (hE _ (Option.some.inj h).symm)
  · replace h := gif_f c3 h
    refine g_aload_n hF 0 rfl rfl dX9_layAll_52 ?_
    refine g_iload_n hF 1 rfl rfl dX9_layAll_53 ?_
    obtain ⟨x4, h4, h⟩ := gbnd h
    refine g_callV hF my_X9_layName kw_1404 kw_1406 kw_99 gC_9.1 (by decide) q0 (c_X9_layName (d := d - 1) (by omega) q0 h4) (by omega) (Nat.zero_le _) (Nat.zero_le _) rfl rfl (Nat.le_of_ble_eq_true rfl) dX9_layAll_54 (g_sameN ?_)
    refine g_iinc (n := 1) (v := (i1 + (1 : Int32))) (ls' := [(1, .int (i1 + (1 : Int32))), (0, .ref a0)]) hF 1 rfl rfl (by rw [hn]; decide) rfl dX9_layAll_57 ?_
    refine g_goto (tgt := 42) hF dX9_layAll_60 (by decide) ?_
    exact gG_sub [1, 0] rfl (hN _ (Option.some.inj h).symm)
theorem t_X9_layAll_L42 {Z : gZ} {d mc ms : Nat} {Acc : Option Value → (Nat → Nat) → gT → gM → Prop} {AccX : Nat → (Nat → Nat) → gT → gM → Prop} {ad : Nat → Nat} {T : gT} {M : gM} {m_a0 : Nat} {a0 : Nat} {i1 : Int32} {o : gM} (hF : gFix Z cX9_layAll RX9 "layAll" none d mc ms Acc AccX) (hn : Z.2.2.2.2.2.1 = 2) (hd : 6 ≤ d) (q0 : T[a0]? = some (9, m_a0)) (h : gloop (fun x => f_X9_layAll_B42 T x.2 a0 x.1) gFU (i1, M) = some o) (hE : gG Z ad T o 0 0 63 [] []) : gG Z ad T M 0 0 42 [(0, .ref a0), (1, .int i1)] [] := by
  refine gloop_ind (P := fun x0 : Int32 × gM => gG Z ad T x0.2 0 0 42 [(0, .ref a0), (1, .int x0.1)] []) (e := o) (fun x0 y hy hl hr => ?_) gFU (i1, M) h
  exact t_X9_layAll_B42 hF hn hd q0 hy (fun e9 q9 => by rw [hl _ q9]; exact hE) (fun n9 q9 => hr n9 q9)
theorem t_X9_layAll_B2 {Z : gZ} {d mc ms : Nat} {Acc : Option Value → (Nat → Nat) → gT → gM → Prop} {AccX : Nat → (Nat → Nat) → gT → gM → Prop} {ad : Nat → Nat} {T : gT} {M : gM} {m_a0 : Nat} {a0 : Nat} {i1 : Int32} {o : (gM) ⊕ (Int32 × gM)} (hF : gFix Z cX9_layAll RX9 "layAll" none d mc ms Acc AccX) (hn : Z.2.2.2.2.2.1 = 2) (hd : 6 ≤ d) (q0 : T[a0]? = some (9, m_a0)) (h : f_X9_layAll_B2 T M a0 i1 = some o) (hE : ∀ e9, o = .inl e9 → gG Z ad T e9 0 0 40 [(0, .ref a0)] []) (hN : ∀ n9, o = .inr n9 → gG Z ad T n9.2 0 0 2 [(0, .ref a0), (1, .int n9.1)] []) : gG Z ad T M 0 0 2 [(0, .ref a0), (1, .int i1)] [] := by
  unfold f_X9_layAll_B2 at h
  refine g_iload_n hF 1 rfl rfl dX9_layAll_2 ?_
  refine g_aload_n hF 0 rfl rfl dX9_layAll_3 ?_
  obtain ⟨b5, h5, h⟩ := gbnd h
  obtain ⟨g5, l5, q_b5⟩ := ldr_sp h5
  refine g_get_r hF g5 fl_RX9_17 q0 dX9_layAll_4 ?_
  refine g_iconst (v := (1 : Int32)) hF rfl dX9_layAll_7 ?_
  obtain ⟨v6, h6, h⟩ := gbnd h
  obtain ⟨i6h, e6v⟩ := ald_sp q_b5 h6
  refine g_iald hF q_b5 i6h dX9_layAll_8 ?_
  rw [← e6v]
  refine g_icmp_ge (tgt := 40) hF dX9_layAll_9 (by decide) (fun c7 => ?_) (fun c7 => ?_)
  · replace h := gif_t c7 h
    exact gG_sub [0] rfl (hE _ (Option.some.inj h).symm)
  · replace h := gif_f c7 h
    refine g_aload_n hF 0 rfl rfl dX9_layAll_12 ?_
    obtain ⟨b8, h8, h⟩ := gbnd h
    obtain ⟨g8, l8, q_b8⟩ := ldr_sp h8
    refine g_get_r hF g8 fl_RX9_38 q0 dX9_layAll_13 ?_
    refine g_iload_n hF 1 rfl rfl dX9_layAll_16 ?_
    refine g_aload_n hF 0 rfl rfl dX9_layAll_17 ?_
    refine g_iload_n hF 1 rfl rfl dX9_layAll_18 ?_
    obtain ⟨x9, h9, h⟩ := gbnd h
    refine g_callV hF my_X9_weightOf kw_1351 kw_1353 kw_92 gC_9.1 (by decide) q0 (c_X9_weightOf (d := d - 1) (by omega) q0 h9) (by omega) (Nat.zero_le _) (Nat.zero_le _) rfl rfl (Nat.le_of_ble_eq_true rfl) dX9_layAll_19 (g_sameS ?_)
    obtain ⟨M10, h10, h⟩ := gbnd h
    obtain ⟨i10h, e10v⟩ := ast_sp q_b8 h10
    refine g_iast hF q_b8 i10h dX9_layAll_22 ?_
    rw [← e10v]
    refine g_aload_n hF 0 rfl rfl dX9_layAll_23 ?_
    obtain ⟨b11, h11, h⟩ := gbnd h
    obtain ⟨g11, l11, q_b11⟩ := ldr_sp h11
    refine g_get_r hF g11 fl_RX9_41 q0 dX9_layAll_24 ?_
    refine g_iload_n hF 1 rfl rfl dX9_layAll_27 ?_
    refine g_aload_n hF 0 rfl rfl dX9_layAll_28 ?_
    refine g_iload_n hF 1 rfl rfl dX9_layAll_29 ?_
    obtain ⟨x12, h12, h⟩ := gbnd h
    refine g_callV hF my_X9_rankOf kw_1339 kw_1341 kw_89 gC_9.1 (by decide) q0 (c_X9_rankOf (d := d - 1) (by omega) q0 h12) (by omega) (Nat.zero_le _) (Nat.zero_le _) rfl rfl (Nat.le_of_ble_eq_true rfl) dX9_layAll_30 (g_sameS ?_)
    obtain ⟨M13, h13, h⟩ := gbnd h
    obtain ⟨i13h, e13v⟩ := ast_sp q_b11 h13
    refine g_iast hF q_b11 i13h dX9_layAll_33 ?_
    rw [← e13v]
    refine g_iinc (n := 1) (v := (i1 + (1 : Int32))) (ls' := [(1, .int (i1 + (1 : Int32))), (0, .ref a0)]) hF 1 rfl rfl (by rw [hn]; decide) rfl dX9_layAll_34 ?_
    refine g_goto (tgt := 2) hF dX9_layAll_37 (by decide) ?_
    exact gG_sub [1, 0] rfl (hN _ (Option.some.inj h).symm)
theorem t_X9_layAll_L2 {Z : gZ} {d mc ms : Nat} {Acc : Option Value → (Nat → Nat) → gT → gM → Prop} {AccX : Nat → (Nat → Nat) → gT → gM → Prop} {ad : Nat → Nat} {T : gT} {M : gM} {m_a0 : Nat} {a0 : Nat} {i1 : Int32} {o : gM} (hF : gFix Z cX9_layAll RX9 "layAll" none d mc ms Acc AccX) (hn : Z.2.2.2.2.2.1 = 2) (hd : 6 ≤ d) (q0 : T[a0]? = some (9, m_a0)) (h : gloop (fun x => f_X9_layAll_B2 T x.2 a0 x.1) gFU (i1, M) = some o) (hE : gG Z ad T o 0 0 40 [(0, .ref a0)] []) : gG Z ad T M 0 0 2 [(0, .ref a0), (1, .int i1)] [] := by
  refine gloop_ind (P := fun x0 : Int32 × gM => gG Z ad T x0.2 0 0 2 [(0, .ref a0), (1, .int x0.1)] []) (e := o) (fun x0 y hy hl hr => ?_) gFU (i1, M) h
  exact t_X9_layAll_B2 hF hn hd q0 hy (fun e9 q9 => by rw [hl _ q9]; exact hE) (fun n9 q9 => hr n9 q9)
theorem t_X9_layAll {Z : gZ} {d mc ms : Nat} {Acc : Option Value → (Nat → Nat) → gT → gM → Prop} {AccX : Nat → (Nat → Nat) → gT → gM → Prop} {ad : Nat → Nat} {T : gT} {M : gM} {m_a0 : Nat} {a0 : Nat} {o : gM} (hF : gFix Z cX9_layAll RX9 "layAll" none d mc ms Acc AccX) (hn : Z.2.2.2.2.2.1 = 2) (hd : 6 ≤ d) (q0 : T[a0]? = some (9, m_a0)) (h : f_X9_layAll T M a0 = some o) (hR : Acc none ad T o) : gG Z ad T M 0 0 0 [(0, .ref a0)] [] := by
  unfold f_X9_layAll at h
  refine g_iconst (v := (0 : Int32)) hF rfl dX9_layAll_0 ?_
  refine g_istore_n (ls' := [(1, .int (0 : Int32)), (0, .ref a0)]) hF rfl (by rw [hn]; decide) rfl dX9_layAll_1 ?_
  obtain ⟨x14, h14, h⟩ := gbnd h
  refine gG_sub [1, 0] rfl (t_X9_layAll_L2 hF hn hd q0 h14 ?_)
  refine g_iconst (v := (0 : Int32)) hF rfl dX9_layAll_40 ?_
  refine g_istore_n (ls' := [(1, .int (0 : Int32)), (0, .ref a0)]) hF rfl (by rw [hn]; decide) rfl dX9_layAll_41 ?_
  obtain ⟨x15, h15, h⟩ := gbnd h
  refine gG_sub [1, 0] rfl (t_X9_layAll_L42 hF hn hd q0 h15 ?_)
  cases h
  exact g_ret_v hF rfl dX9_layAll_63 hR (Nat.zero_le _) (Nat.zero_le _)
theorem c_X9_layAll {d : Nat} {T : gT} {M : gM} {m_a0 : Nat} {a0 : Nat} {r : gM} (hd : 6 ≤ d) (q0 : T[a0]? = some (9, m_a0)) (h : f_X9_layAll T M a0 = some (r)) : gRet d yX9_layAll cX9_layAll 2 none 0 0 [.ref a0] T M (gSame T none r) := by
  refine gRet_of (own := RX9) (by decide) rfl (Nat.le_of_ble_eq_true rfl) (fun Z ad0 hn h0 hF => ?_)
  exact t_X9_layAll hF hn hd q0 h ⟨rfl, rfl, rfl, rfl⟩
