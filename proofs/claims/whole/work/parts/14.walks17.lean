theorem t_X9_errorOffset {Z : gZ} {d mc ms : Nat} {Acc : Option Value → (Nat → Nat) → gT → gM → Prop} {AccX : Nat → (Nat → Nat) → gT → gM → Prop} {ad : Nat → Nat} {T : gT} {M : gM} {m_a0 : Nat} {a0 : Nat} {o : Int32 × gM} (hF : gFix Z cX9_errorOffset RX9 "errorOffset" (some .int) d mc ms Acc AccX) (hn : Z.2.2.2.2.2.1 = 1) (hd : 1 ≤ d) (q0 : T[a0]? = some (9, m_a0)) (h : f_X9_errorOffset T M a0 = some o) (hR : Acc (some (.int o.1)) ad T o.2) : gG Z ad T M 0 0 0 [(0, .ref a0)] [] := by
  unfold f_X9_errorOffset at h
  refine g_aload_n hF 0 rfl rfl dX9_errorOffset_0 ?_
  refine g_iconst (v := (0 : Int32)) hF rfl dX9_errorOffset_1 ?_
  refine g_put_i hF rfl rfl fl_RX9_59 q0 dX9_errorOffset_2 ?_
  refine g_aload_n hF 0 rfl rfl dX9_errorOffset_5 ?_
  refine g_get_i hF fl_RX9_13 q0 dX9_errorOffset_6 ?_
  cases h
  exact g_ret_i hF rfl rfl dX9_errorOffset_9 hR (Nat.zero_le _) (Nat.zero_le _)
theorem c_X9_errorOffset {d : Nat} {T : gT} {M : gM} {m_a0 : Nat} {a0 : Nat} {r : Int32 × gM} (hd : 1 ≤ d) (q0 : T[a0]? = some (9, m_a0)) (h : f_X9_errorOffset T M a0 = some (r)) : gRet d yX9_errorOffset cX9_errorOffset 1 (some .int) 0 0 [.ref a0] T M (gSame T (some (.int r.1)) r.2) := by
  refine gRet_of (own := RX9) (by decide) rfl (Nat.le_of_ble_eq_true rfl) (fun Z ad0 hn h0 hF => ?_)
  exact t_X9_errorOffset hF hn hd q0 h ⟨rfl, rfl, rfl, rfl⟩
theorem t_X9_isLoaded {Z : gZ} {d mc ms : Nat} {Acc : Option Value → (Nat → Nat) → gT → gM → Prop} {AccX : Nat → (Nat → Nat) → gT → gM → Prop} {ad : Nat → Nat} {T : gT} {M : gM} {m_a0 : Nat} {a0 : Nat} {i1 : Int32} {o : Int32} (hF : gFix Z cX9_isLoaded RX9 "isLoaded" (some .boolean) d mc ms Acc AccX) (hn : Z.2.2.2.2.2.1 = 2) (hd : 2 ≤ d) (q0 : T[a0]? = some (9, m_a0)) (h : f_X9_isLoaded T M a0 i1 = some o) (hR : Acc (some (.int o)) ad T M) : gG Z ad T M 0 0 0 [(0, .ref a0), (1, .int i1)] [] := by
  unfold f_X9_isLoaded at h
  refine g_aload_n hF 0 rfl rfl dX9_isLoaded_0 ?_
  obtain ⟨b1, h1, h⟩ := gbnd h
  obtain ⟨g1, l1, q_b1⟩ := ldr_sp h1
  refine g_get_r hF g1 fl_RX9_17 q0 dX9_isLoaded_1 ?_
  refine g_iload_n hF 1 rfl rfl dX9_isLoaded_4 ?_
  obtain ⟨x2, h2, h⟩ := gbnd h
  refine g_callS hF my_X9_at kw_1244 kw_1245 (c_X9_at (d := d - 1) (by omega)  h2) (by omega) (Nat.zero_le _) (Nat.zero_le _) rfl rfl (Nat.le_of_ble_eq_true rfl) dX9_isLoaded_5 (g_sameS ?_)
  refine g_iconst (v := (2 : Int32)) hF rfl dX9_isLoaded_8 ?_
  refine g_iadd hF dX9_isLoaded_9 ?_
  obtain ⟨v3, h3, h⟩ := gbnd h
  obtain ⟨i3h, e3v⟩ := ald_sp q_b1 h3
  refine g_iald hF q_b1 i3h dX9_isLoaded_10 ?_
  rw [← e3v]
  refine g_if_le (tgt := 18) hF dX9_isLoaded_11 (by decide) (fun c4 => ?_) (fun c4 => ?_)
  · replace h := gif_t c4 h
    refine g_iconst (v := (0 : Int32)) hF rfl dX9_isLoaded_18 ?_
    cases h
    exact g_ret_i hF rfl rfl dX9_isLoaded_19 hR (Nat.zero_le _) (Nat.zero_le _)
  · replace h := gif_f c4 h
    refine g_iconst (v := (1 : Int32)) hF rfl dX9_isLoaded_14 ?_
    refine g_goto (tgt := 19) hF dX9_isLoaded_15 (by decide) ?_
    cases h
    exact g_ret_i hF rfl rfl dX9_isLoaded_19 hR (Nat.zero_le _) (Nat.zero_le _)
theorem c_X9_isLoaded {d : Nat} {T : gT} {M : gM} {m_a0 : Nat} {a0 : Nat} {i1 : Int32} {r : Int32} (hd : 2 ≤ d) (q0 : T[a0]? = some (9, m_a0)) (h : f_X9_isLoaded T M a0 i1 = some (r)) : gRet d yX9_isLoaded cX9_isLoaded 2 (some .boolean) 0 0 [.ref a0, .int i1] T M (gSame T (some (.int r)) M) := by
  refine gRet_of (own := RX9) (by decide) rfl (Nat.le_of_ble_eq_true rfl) (fun Z ad0 hn h0 hF => ?_)
  exact t_X9_isLoaded hF hn hd q0 h ⟨rfl, rfl, rfl, rfl⟩
theorem t_X9_rankOf_63 {Z : gZ} {d mc ms : Nat} {Acc : Option Value → (Nat → Nat) → gT → gM → Prop} {AccX : Nat → (Nat → Nat) → gT → gM → Prop} {ad : Nat → Nat} {T : gT} {M : gM} {m_a0 : Nat} {a0 : Nat} {i1 : Int32} {i3 : Int32} {k0 : Int32} {k1 : Int32} {o : (Int32) ⊕ (Int32 × Int32)} (hF : gFix Z cX9_rankOf RX9 "rankOf" (some .int) d mc ms Acc AccX) (hn : Z.2.2.2.2.2.1 = 4) (hd : 3 ≤ d) (q0 : T[a0]? = some (9, m_a0)) (h : f_X9_rankOf_63 T M a0 i1 i3 k0 k1 = some o) (hE : ∀ e9, o = .inl e9 → gG Z ad T M 0 0 71 [(2, .int e9)] []) (hN : ∀ n9, o = .inr n9 → gG Z ad T M 0 0 14 [(0, .ref a0), (1, .int i1), (2, .int n9.1), (3, .int n9.2)] []) : gG Z ad T M 0 0 63 [(0, .ref a0), (1, .int i1), (3, .int i3)] [.int k1, .int k0] := by
  unfold f_X9_rankOf_63 at h
  refine g_iadd hF dX9_rankOf_63 ?_
  refine g_istore_n (ls' := [(2, .int (k0 + k1)), (0, .ref a0), (1, .int i1), (3, .int i3)]) hF rfl (by rw [hn]; decide) rfl dX9_rankOf_64 ?_
  refine g_iinc (n := 1) (v := (i3 + (1 : Int32))) (ls' := [(3, .int (i3 + (1 : Int32))), (2, .int (k0 + k1)), (0, .ref a0), (1, .int i1)]) hF 3 rfl rfl (by rw [hn]; decide) rfl dX9_rankOf_65 ?_
  refine g_goto (tgt := 14) hF dX9_rankOf_68 (by decide) ?_
  exact gG_sub [2, 3, 1, 0] rfl (hN _ (Option.some.inj h).symm)
theorem t_X9_rankOf_62 {Z : gZ} {d mc ms : Nat} {Acc : Option Value → (Nat → Nat) → gT → gM → Prop} {AccX : Nat → (Nat → Nat) → gT → gM → Prop} {ad : Nat → Nat} {T : gT} {M : gM} {m_a0 : Nat} {a0 : Nat} {i1 : Int32} {i3 : Int32} {k0 : Int32} {o : (Int32) ⊕ (Int32 × Int32)} (hF : gFix Z cX9_rankOf RX9 "rankOf" (some .int) d mc ms Acc AccX) (hn : Z.2.2.2.2.2.1 = 4) (hd : 3 ≤ d) (q0 : T[a0]? = some (9, m_a0)) (h : f_X9_rankOf_62 T M a0 i1 i3 k0 = some o) (hE : ∀ e9, o = .inl e9 → gG Z ad T M 0 0 71 [(2, .int e9)] []) (hN : ∀ n9, o = .inr n9 → gG Z ad T M 0 0 14 [(0, .ref a0), (1, .int i1), (2, .int n9.1), (3, .int n9.2)] []) : gG Z ad T M 0 0 62 [(0, .ref a0), (1, .int i1), (3, .int i3)] [.int k0] := by
  unfold f_X9_rankOf_62 at h
  refine g_iconst (v := (0 : Int32)) hF rfl dX9_rankOf_62 ?_
  exact gG_sub [0, 1, 2] rfl (t_X9_rankOf_63 hF hn hd q0 h hE hN)
theorem t_X9_rankOf_B14 {Z : gZ} {d mc ms : Nat} {Acc : Option Value → (Nat → Nat) → gT → gM → Prop} {AccX : Nat → (Nat → Nat) → gT → gM → Prop} {ad : Nat → Nat} {T : gT} {M : gM} {m_a0 : Nat} {a0 : Nat} {i1 : Int32} {i2 : Int32} {i3 : Int32} {o : (Int32) ⊕ (Int32 × Int32)} (hF : gFix Z cX9_rankOf RX9 "rankOf" (some .int) d mc ms Acc AccX) (hn : Z.2.2.2.2.2.1 = 4) (hd : 3 ≤ d) (q0 : T[a0]? = some (9, m_a0)) (h : f_X9_rankOf_B14 T M a0 i1 i2 i3 = some o) (hE : ∀ e9, o = .inl e9 → gG Z ad T M 0 0 71 [(2, .int e9)] []) (hN : ∀ n9, o = .inr n9 → gG Z ad T M 0 0 14 [(0, .ref a0), (1, .int i1), (2, .int n9.1), (3, .int n9.2)] []) : gG Z ad T M 0 0 14 [(0, .ref a0), (1, .int i1), (2, .int i2), (3, .int i3)] [] := by
  unfold f_X9_rankOf_B14 at h
  refine g_iload_n hF 3 rfl rfl dX9_rankOf_14 ?_
  refine g_aload_n hF 0 rfl rfl dX9_rankOf_15 ?_
  obtain ⟨b1, h1, h⟩ := gbnd h
  obtain ⟨g1, l1, q_b1⟩ := ldr_sp h1
  refine g_get_r hF g1 fl_RX9_17 q0 dX9_rankOf_16 ?_
  refine g_iconst (v := (1 : Int32)) hF rfl dX9_rankOf_19 ?_
  obtain ⟨v2, h2, h⟩ := gbnd h
  obtain ⟨i2h, e2v⟩ := ald_sp q_b1 h2
  refine g_iald hF q_b1 i2h dX9_rankOf_20 ?_
  rw [← e2v]
  refine g_icmp_ge (tgt := 71) hF dX9_rankOf_21 (by decide) (fun c3 => ?_) (fun c3 => ?_)
  · replace h := gif_t c3 h
    exact gG_sub [2] rfl (hE _ (Option.some.inj h).symm)
  · replace h := gif_f c3 h
    refine g_iload_n hF 2 rfl rfl dX9_rankOf_24 ?_
    refine g_aload_n hF 0 rfl rfl dX9_rankOf_25 ?_
    refine g_iload_n hF 3 rfl rfl dX9_rankOf_26 ?_
    obtain ⟨x4, h4, h⟩ := gbnd h
    refine g_callV hF my_X9_isLoaded kw_1343 kw_1345 kw_90 gC_9.1 (by decide) q0 (c_X9_isLoaded (d := d - 1) (by omega) q0 h4) (by omega) (Nat.zero_le _) (Nat.zero_le _) rfl rfl (Nat.le_of_ble_eq_true rfl) dX9_rankOf_27 (g_sameS ?_)
    refine g_if_eq (tgt := 62) hF dX9_rankOf_30 (by decide) (fun c5 => ?_) (fun c5 => ?_)
    · replace h := gif_t c5 h
      exact gG_sub [0, 1, 3] rfl (t_X9_rankOf_62 hF hn hd q0 h hE hN)
    · replace h := gif_f c5 h
      refine g_aload_n hF 0 rfl rfl dX9_rankOf_33 ?_
      obtain ⟨b6, h6, h⟩ := gbnd h
      obtain ⟨g6, l6, q_b6⟩ := ldr_sp h6
      refine g_get_r hF g6 fl_RX9_17 q0 dX9_rankOf_34 ?_
      refine g_iload_n hF 3 rfl rfl dX9_rankOf_37 ?_
      obtain ⟨x7, h7, h⟩ := gbnd h
      refine g_callS hF my_X9_at kw_1244 kw_1245 (c_X9_at (d := d - 1) (by omega)  h7) (by omega) (Nat.zero_le _) (Nat.zero_le _) rfl rfl (Nat.le_of_ble_eq_true rfl) dX9_rankOf_38 (g_sameS ?_)
      refine g_iconst (v := (2 : Int32)) hF rfl dX9_rankOf_41 ?_
      refine g_iadd hF dX9_rankOf_42 ?_
      obtain ⟨v8, h8, h⟩ := gbnd h
      obtain ⟨i8h, e8v⟩ := ald_sp q_b6 h8
      refine g_iald hF q_b6 i8h dX9_rankOf_43 ?_
      rw [← e8v]
      refine g_aload_n hF 0 rfl rfl dX9_rankOf_44 ?_
      obtain ⟨b9, h9, h⟩ := gbnd h
      obtain ⟨g9, l9, q_b9⟩ := ldr_sp h9
      refine g_get_r hF g9 fl_RX9_17 q0 dX9_rankOf_45 ?_
      refine g_iload_n hF 1 rfl rfl dX9_rankOf_48 ?_
      obtain ⟨x10, h10, h⟩ := gbnd h
      refine g_callS hF my_X9_at kw_1244 kw_1245 (c_X9_at (d := d - 1) (by omega)  h10) (by omega) (Nat.zero_le _) (Nat.zero_le _) rfl rfl (Nat.le_of_ble_eq_true rfl) dX9_rankOf_49 (g_sameS ?_)
      refine g_iconst (v := (2 : Int32)) hF rfl dX9_rankOf_52 ?_
      refine g_iadd hF dX9_rankOf_53 ?_
      obtain ⟨v11, h11, h⟩ := gbnd h
      obtain ⟨i11h, e11v⟩ := ald_sp q_b9 h11
      refine g_iald hF q_b9 i11h dX9_rankOf_54 ?_
      rw [← e11v]
      refine g_icmp_ge (tgt := 62) hF dX9_rankOf_55 (by decide) (fun c12 => ?_) (fun c12 => ?_)
      · replace h := gif_t c12 h
        exact gG_sub [0, 1, 3] rfl (t_X9_rankOf_62 hF hn hd q0 h hE hN)
      · replace h := gif_f c12 h
        refine g_iconst (v := (1 : Int32)) hF rfl dX9_rankOf_58 ?_
        refine g_goto (tgt := 63) hF dX9_rankOf_59 (by decide) ?_
        exact gG_sub [0, 1, 3] rfl (t_X9_rankOf_63 hF hn hd q0 h hE hN)
theorem t_X9_rankOf_L14 {Z : gZ} {d mc ms : Nat} {Acc : Option Value → (Nat → Nat) → gT → gM → Prop} {AccX : Nat → (Nat → Nat) → gT → gM → Prop} {ad : Nat → Nat} {T : gT} {M : gM} {m_a0 : Nat} {a0 : Nat} {i1 : Int32} {i2 : Int32} {i3 : Int32} {o : Int32} (hF : gFix Z cX9_rankOf RX9 "rankOf" (some .int) d mc ms Acc AccX) (hn : Z.2.2.2.2.2.1 = 4) (hd : 3 ≤ d) (q0 : T[a0]? = some (9, m_a0)) (h : gloop (fun x => f_X9_rankOf_B14 T M a0 i1 x.1 x.2) gFU (i2, i3) = some o) (hE : gG Z ad T M 0 0 71 [(2, .int o)] []) : gG Z ad T M 0 0 14 [(0, .ref a0), (1, .int i1), (2, .int i2), (3, .int i3)] [] := by
  refine gloop_ind (P := fun x0 : Int32 × Int32 => gG Z ad T M 0 0 14 [(0, .ref a0), (1, .int i1), (2, .int x0.1), (3, .int x0.2)] []) (e := o) (fun x0 y hy hl hr => ?_) gFU (i2, i3) h
  exact t_X9_rankOf_B14 hF hn hd q0 hy (fun e9 q9 => by rw [hl _ q9]; exact hE) (fun n9 q9 => hr n9 q9)
theorem t_X9_rankOf {Z : gZ} {d mc ms : Nat} {Acc : Option Value → (Nat → Nat) → gT → gM → Prop} {AccX : Nat → (Nat → Nat) → gT → gM → Prop} {ad : Nat → Nat} {T : gT} {M : gM} {m_a0 : Nat} {a0 : Nat} {i1 : Int32} {o : Int32} (hF : gFix Z cX9_rankOf RX9 "rankOf" (some .int) d mc ms Acc AccX) (hn : Z.2.2.2.2.2.1 = 4) (hd : 3 ≤ d) (q0 : T[a0]? = some (9, m_a0)) (h : f_X9_rankOf T M a0 i1 = some o) (hR : Acc (some (.int o)) ad T M) : gG Z ad T M 0 0 0 [(0, .ref a0), (1, .int i1)] [] := by
  unfold f_X9_rankOf at h
  refine g_aload_n hF 0 rfl rfl dX9_rankOf_0 ?_
  refine g_iload_n hF 1 rfl rfl dX9_rankOf_1 ?_
  obtain ⟨x13, h13, h⟩ := gbnd h
  refine g_callV hF my_X9_isLoaded kw_1343 kw_1345 kw_90 gC_9.1 (by decide) q0 (c_X9_isLoaded (d := d - 1) (by omega) q0 h13) (by omega) (Nat.zero_le _) (Nat.zero_le _) rfl rfl (Nat.le_of_ble_eq_true rfl) dX9_rankOf_2 (g_sameS ?_)
  refine g_if_ne (tgt := 10) hF dX9_rankOf_5 (by decide) (fun c14 => ?_) (fun c14 => ?_)
  · replace h := gif_t c14 h
    refine g_iconst (v := (0 : Int32)) hF rfl dX9_rankOf_10 ?_
    refine g_istore_n (ls' := [(2, .int (0 : Int32)), (0, .ref a0), (1, .int i1)]) hF rfl (by rw [hn]; decide) rfl dX9_rankOf_11 ?_
    refine g_iconst (v := (0 : Int32)) hF rfl dX9_rankOf_12 ?_
    refine g_istore_n (ls' := [(3, .int (0 : Int32)), (2, .int (0 : Int32)), (0, .ref a0), (1, .int i1)]) hF rfl (by rw [hn]; decide) rfl dX9_rankOf_13 ?_
    obtain ⟨x15, h15, h⟩ := gbnd h
    refine gG_sub [2, 3, 1, 0] rfl (t_X9_rankOf_L14 hF hn hd q0 h15 ?_)
    refine g_iload_n hF 0 rfl rfl dX9_rankOf_71 ?_
    cases h
    exact g_ret_i hF rfl rfl dX9_rankOf_72 hR (Nat.zero_le _) (Nat.zero_le _)
  · replace h := gif_n c14 h
    refine g_iconst (v := (-1 : Int32)) hF rfl dX9_rankOf_8 ?_
    cases h
    exact g_ret_i hF rfl rfl dX9_rankOf_9 hR (Nat.zero_le _) (Nat.zero_le _)
theorem c_X9_rankOf {d : Nat} {T : gT} {M : gM} {m_a0 : Nat} {a0 : Nat} {i1 : Int32} {r : Int32} (hd : 3 ≤ d) (q0 : T[a0]? = some (9, m_a0)) (h : f_X9_rankOf T M a0 i1 = some (r)) : gRet d yX9_rankOf cX9_rankOf 4 (some .int) 0 0 [.ref a0, .int i1] T M (gSame T (some (.int r)) M) := by
  refine gRet_of (own := RX9) (by decide) rfl (Nat.le_of_ble_eq_true rfl) (fun Z ad0 hn h0 hF => ?_)
  exact t_X9_rankOf hF hn hd q0 h ⟨rfl, rfl, rfl, rfl⟩
theorem t_X9_offersOf_38 {Z : gZ} {d mc ms : Nat} {Acc : Option Value → (Nat → Nat) → gT → gM → Prop} {AccX : Nat → (Nat → Nat) → gT → gM → Prop} {ad : Nat → Nat} {T : gT} {M : gM} {m_a0 : Nat} {a0 : Nat} {i1 : Int32} {i3 : Int32} {k0 : Int32} {k1 : Int32} {o : (Int32) ⊕ (Int32 × Int32)} (hF : gFix Z cX9_offersOf RX9 "offersOf" (some .int) d mc ms Acc AccX) (hn : Z.2.2.2.2.2.1 = 4) (hd : 2 ≤ d) (q0 : T[a0]? = some (9, m_a0)) (h : f_X9_offersOf_38 T M a0 i1 i3 k0 k1 = some o) (hE : ∀ e9, o = .inl e9 → gG Z ad T M 0 0 46 [(2, .int e9)] []) (hN : ∀ n9, o = .inr n9 → gG Z ad T M 0 0 4 [(0, .ref a0), (1, .int i1), (2, .int n9.1), (3, .int n9.2)] []) : gG Z ad T M 0 0 38 [(0, .ref a0), (1, .int i1), (3, .int i3)] [.int k1, .int k0] := by
  unfold f_X9_offersOf_38 at h
  refine g_iadd hF dX9_offersOf_38 ?_
  refine g_istore_n (ls' := [(2, .int (k0 + k1)), (0, .ref a0), (1, .int i1), (3, .int i3)]) hF rfl (by rw [hn]; decide) rfl dX9_offersOf_39 ?_
  refine g_iinc (n := 1) (v := (i3 + (1 : Int32))) (ls' := [(3, .int (i3 + (1 : Int32))), (2, .int (k0 + k1)), (0, .ref a0), (1, .int i1)]) hF 3 rfl rfl (by rw [hn]; decide) rfl dX9_offersOf_40 ?_
  refine g_goto (tgt := 4) hF dX9_offersOf_43 (by decide) ?_
  exact gG_sub [2, 3, 1, 0] rfl (hN _ (Option.some.inj h).symm)
theorem t_X9_offersOf_B4 {Z : gZ} {d mc ms : Nat} {Acc : Option Value → (Nat → Nat) → gT → gM → Prop} {AccX : Nat → (Nat → Nat) → gT → gM → Prop} {ad : Nat → Nat} {T : gT} {M : gM} {m_a0 : Nat} {a0 : Nat} {i1 : Int32} {i2 : Int32} {i3 : Int32} {o : (Int32) ⊕ (Int32 × Int32)} (hF : gFix Z cX9_offersOf RX9 "offersOf" (some .int) d mc ms Acc AccX) (hn : Z.2.2.2.2.2.1 = 4) (hd : 2 ≤ d) (q0 : T[a0]? = some (9, m_a0)) (h : f_X9_offersOf_B4 T M a0 i1 i2 i3 = some o) (hE : ∀ e9, o = .inl e9 → gG Z ad T M 0 0 46 [(2, .int e9)] []) (hN : ∀ n9, o = .inr n9 → gG Z ad T M 0 0 4 [(0, .ref a0), (1, .int i1), (2, .int n9.1), (3, .int n9.2)] []) : gG Z ad T M 0 0 4 [(0, .ref a0), (1, .int i1), (2, .int i2), (3, .int i3)] [] := by
  unfold f_X9_offersOf_B4 at h
  refine g_iload_n hF 3 rfl rfl dX9_offersOf_4 ?_
  refine g_aload_n hF 0 rfl rfl dX9_offersOf_5 ?_
  obtain ⟨b1, h1, h⟩ := gbnd h
  obtain ⟨g1, l1, q_b1⟩ := ldr_sp h1
  refine g_get_r hF g1 fl_RX9_17 q0 dX9_offersOf_6 ?_
  refine g_iconst (v := (2 : Int32)) hF rfl dX9_offersOf_9 ?_
  obtain ⟨v2, h2, h⟩ := gbnd h
  obtain ⟨i2h, e2v⟩ := ald_sp q_b1 h2
  refine g_iald hF q_b1 i2h dX9_offersOf_10 ?_
  rw [← e2v]
  refine g_icmp_ge (tgt := 46) hF dX9_offersOf_11 (by decide) (fun c3 => ?_) (fun c3 => ?_)
  · replace h := gif_t c3 h
    exact gG_sub [2] rfl (hE _ (Option.some.inj h).symm)
  · replace h := gif_f c3 h
    refine g_iload_n hF 2 rfl rfl dX9_offersOf_14 ?_
    refine g_aload_n hF 0 rfl rfl dX9_offersOf_15 ?_
    obtain ⟨b4, h4, h⟩ := gbnd h
    obtain ⟨g4, l4, q_b4⟩ := ldr_sp h4
    refine g_get_r hF g4 fl_RX9_17 q0 dX9_offersOf_16 ?_
    refine g_iload_n hF 1 rfl rfl dX9_offersOf_19 ?_
    obtain ⟨x5, h5, h⟩ := gbnd h
    refine g_callS hF my_X9_at kw_1244 kw_1245 (c_X9_at (d := d - 1) (by omega)  h5) (by omega) (Nat.zero_le _) (Nat.zero_le _) rfl rfl (Nat.le_of_ble_eq_true rfl) dX9_offersOf_20 (g_sameS ?_)
    refine g_bipush (v := (12 : Int32)) hF rfl dX9_offersOf_23 ?_
    refine g_iadd hF dX9_offersOf_25 ?_
    refine g_iload_n hF 3 rfl rfl dX9_offersOf_26 ?_
    refine g_iadd hF dX9_offersOf_27 ?_
    obtain ⟨v6, h6, h⟩ := gbnd h
    obtain ⟨i6h, e6v⟩ := ald_sp q_b4 h6
    refine g_iald hF q_b4 i6h dX9_offersOf_28 ?_
    rw [← e6v]
    refine g_iconst (v := (-1 : Int32)) hF rfl dX9_offersOf_29 ?_
    refine g_icmp_ne (tgt := 37) hF dX9_offersOf_30 (by decide) (fun c7 => ?_) (fun c7 => ?_)
    · replace h := gif_t c7 h
      refine g_iconst (v := (1 : Int32)) hF rfl dX9_offersOf_37 ?_
      exact gG_sub [0, 1, 3] rfl (t_X9_offersOf_38 hF hn hd q0 h hE hN)
    · replace h := gif_n c7 h
      refine g_iconst (v := (0 : Int32)) hF rfl dX9_offersOf_33 ?_
      refine g_goto (tgt := 38) hF dX9_offersOf_34 (by decide) ?_
      exact gG_sub [0, 1, 3] rfl (t_X9_offersOf_38 hF hn hd q0 h hE hN)
theorem t_X9_offersOf_L4 {Z : gZ} {d mc ms : Nat} {Acc : Option Value → (Nat → Nat) → gT → gM → Prop} {AccX : Nat → (Nat → Nat) → gT → gM → Prop} {ad : Nat → Nat} {T : gT} {M : gM} {m_a0 : Nat} {a0 : Nat} {i1 : Int32} {i2 : Int32} {i3 : Int32} {o : Int32} (hF : gFix Z cX9_offersOf RX9 "offersOf" (some .int) d mc ms Acc AccX) (hn : Z.2.2.2.2.2.1 = 4) (hd : 2 ≤ d) (q0 : T[a0]? = some (9, m_a0)) (h : gloop (fun x => f_X9_offersOf_B4 T M a0 i1 x.1 x.2) gFU (i2, i3) = some o) (hE : gG Z ad T M 0 0 46 [(2, .int o)] []) : gG Z ad T M 0 0 4 [(0, .ref a0), (1, .int i1), (2, .int i2), (3, .int i3)] [] := by
  refine gloop_ind (P := fun x0 : Int32 × Int32 => gG Z ad T M 0 0 4 [(0, .ref a0), (1, .int i1), (2, .int x0.1), (3, .int x0.2)] []) (e := o) (fun x0 y hy hl hr => ?_) gFU (i2, i3) h
  exact t_X9_offersOf_B4 hF hn hd q0 hy (fun e9 q9 => by rw [hl _ q9]; exact hE) (fun n9 q9 => hr n9 q9)
theorem t_X9_offersOf {Z : gZ} {d mc ms : Nat} {Acc : Option Value → (Nat → Nat) → gT → gM → Prop} {AccX : Nat → (Nat → Nat) → gT → gM → Prop} {ad : Nat → Nat} {T : gT} {M : gM} {m_a0 : Nat} {a0 : Nat} {i1 : Int32} {o : Int32} (hF : gFix Z cX9_offersOf RX9 "offersOf" (some .int) d mc ms Acc AccX) (hn : Z.2.2.2.2.2.1 = 4) (hd : 2 ≤ d) (q0 : T[a0]? = some (9, m_a0)) (h : f_X9_offersOf T M a0 i1 = some o) (hR : Acc (some (.int o)) ad T M) : gG Z ad T M 0 0 0 [(0, .ref a0), (1, .int i1)] [] := by
  unfold f_X9_offersOf at h
  refine g_iconst (v := (0 : Int32)) hF rfl dX9_offersOf_0 ?_
  refine g_istore_n (ls' := [(2, .int (0 : Int32)), (0, .ref a0), (1, .int i1)]) hF rfl (by rw [hn]; decide) rfl dX9_offersOf_1 ?_
  refine g_iconst (v := (0 : Int32)) hF rfl dX9_offersOf_2 ?_
  refine g_istore_n (ls' := [(3, .int (0 : Int32)), (2, .int (0 : Int32)), (0, .ref a0), (1, .int i1)]) hF rfl (by rw [hn]; decide) rfl dX9_offersOf_3 ?_
  obtain ⟨x8, h8, h⟩ := gbnd h
  refine gG_sub [2, 3, 1, 0] rfl (t_X9_offersOf_L4 hF hn hd q0 h8 ?_)
  refine g_iload_n hF 0 rfl rfl dX9_offersOf_46 ?_
  cases h
  exact g_ret_i hF rfl rfl dX9_offersOf_47 hR (Nat.zero_le _) (Nat.zero_le _)
theorem c_X9_offersOf {d : Nat} {T : gT} {M : gM} {m_a0 : Nat} {a0 : Nat} {i1 : Int32} {r : Int32} (hd : 2 ≤ d) (q0 : T[a0]? = some (9, m_a0)) (h : f_X9_offersOf T M a0 i1 = some (r)) : gRet d yX9_offersOf cX9_offersOf 4 (some .int) 0 0 [.ref a0, .int i1] T M (gSame T (some (.int r)) M) := by
  refine gRet_of (own := RX9) (by decide) rfl (Nat.le_of_ble_eq_true rfl) (fun Z ad0 hn h0 hF => ?_)
  exact t_X9_offersOf hF hn hd q0 h ⟨rfl, rfl, rfl, rfl⟩
theorem t_X9_friendsOf_41 {Z : gZ} {d mc ms : Nat} {Acc : Option Value → (Nat → Nat) → gT → gM → Prop} {AccX : Nat → (Nat → Nat) → gT → gM → Prop} {ad : Nat → Nat} {T : gT} {M : gM} {m_a0 : Nat} {a0 : Nat} {i1 : Int32} {i3 : Int32} {k0 : Int32} {k1 : Int32} {o : (Int32) ⊕ (Int32 × Int32)} (hF : gFix Z cX9_friendsOf RX9 "friendsOf" (some .int) d mc ms Acc AccX) (hn : Z.2.2.2.2.2.1 = 4) (hd : 3 ≤ d) (q0 : T[a0]? = some (9, m_a0)) (h : f_X9_friendsOf_41 T M a0 i1 i3 k0 k1 = some o) (hE : ∀ e9, o = .inl e9 → gG Z ad T M 0 0 49 [(2, .int e9)] []) (hN : ∀ n9, o = .inr n9 → gG Z ad T M 0 0 4 [(0, .ref a0), (1, .int i1), (2, .int n9.1), (3, .int n9.2)] []) : gG Z ad T M 0 0 41 [(0, .ref a0), (1, .int i1), (3, .int i3)] [.int k1, .int k0] := by
  unfold f_X9_friendsOf_41 at h
  refine g_iadd hF dX9_friendsOf_41 ?_
  refine g_istore_n (ls' := [(2, .int (k0 + k1)), (0, .ref a0), (1, .int i1), (3, .int i3)]) hF rfl (by rw [hn]; decide) rfl dX9_friendsOf_42 ?_
  refine g_iinc (n := 1) (v := (i3 + (1 : Int32))) (ls' := [(3, .int (i3 + (1 : Int32))), (2, .int (k0 + k1)), (0, .ref a0), (1, .int i1)]) hF 3 rfl rfl (by rw [hn]; decide) rfl dX9_friendsOf_43 ?_
  refine g_goto (tgt := 4) hF dX9_friendsOf_46 (by decide) ?_
  exact gG_sub [2, 3, 1, 0] rfl (hN _ (Option.some.inj h).symm)
theorem t_X9_friendsOf_40 {Z : gZ} {d mc ms : Nat} {Acc : Option Value → (Nat → Nat) → gT → gM → Prop} {AccX : Nat → (Nat → Nat) → gT → gM → Prop} {ad : Nat → Nat} {T : gT} {M : gM} {m_a0 : Nat} {a0 : Nat} {i1 : Int32} {i3 : Int32} {k0 : Int32} {o : (Int32) ⊕ (Int32 × Int32)} (hF : gFix Z cX9_friendsOf RX9 "friendsOf" (some .int) d mc ms Acc AccX) (hn : Z.2.2.2.2.2.1 = 4) (hd : 3 ≤ d) (q0 : T[a0]? = some (9, m_a0)) (h : f_X9_friendsOf_40 T M a0 i1 i3 k0 = some o) (hE : ∀ e9, o = .inl e9 → gG Z ad T M 0 0 49 [(2, .int e9)] []) (hN : ∀ n9, o = .inr n9 → gG Z ad T M 0 0 4 [(0, .ref a0), (1, .int i1), (2, .int n9.1), (3, .int n9.2)] []) : gG Z ad T M 0 0 40 [(0, .ref a0), (1, .int i1), (3, .int i3)] [.int k0] := by
  unfold f_X9_friendsOf_40 at h
  refine g_iconst (v := (0 : Int32)) hF rfl dX9_friendsOf_40 ?_
  exact gG_sub [0, 1, 2] rfl (t_X9_friendsOf_41 hF hn hd q0 h hE hN)
theorem t_X9_friendsOf_B4 {Z : gZ} {d mc ms : Nat} {Acc : Option Value → (Nat → Nat) → gT → gM → Prop} {AccX : Nat → (Nat → Nat) → gT → gM → Prop} {ad : Nat → Nat} {T : gT} {M : gM} {m_a0 : Nat} {a0 : Nat} {i1 : Int32} {i2 : Int32} {i3 : Int32} {o : (Int32) ⊕ (Int32 × Int32)} (hF : gFix Z cX9_friendsOf RX9 "friendsOf" (some .int) d mc ms Acc AccX) (hn : Z.2.2.2.2.2.1 = 4) (hd : 3 ≤ d) (q0 : T[a0]? = some (9, m_a0)) (h : f_X9_friendsOf_B4 T M a0 i1 i2 i3 = some o) (hE : ∀ e9, o = .inl e9 → gG Z ad T M 0 0 49 [(2, .int e9)] []) (hN : ∀ n9, o = .inr n9 → gG Z ad T M 0 0 4 [(0, .ref a0), (1, .int i1), (2, .int n9.1), (3, .int n9.2)] []) : gG Z ad T M 0 0 4 [(0, .ref a0), (1, .int i1), (2, .int i2), (3, .int i3)] [] := by
  unfold f_X9_friendsOf_B4 at h
  refine g_iload_n hF 3 rfl rfl dX9_friendsOf_4 ?_
  refine g_aload_n hF 0 rfl rfl dX9_friendsOf_5 ?_
  obtain ⟨b1, h1, h⟩ := gbnd h
  obtain ⟨g1, l1, q_b1⟩ := ldr_sp h1
  refine g_get_r hF g1 fl_RX9_17 q0 dX9_friendsOf_6 ?_
  refine g_iconst (v := (1 : Int32)) hF rfl dX9_friendsOf_9 ?_
  obtain ⟨v2, h2, h⟩ := gbnd h
  obtain ⟨i2h, e2v⟩ := ald_sp q_b1 h2
  refine g_iald hF q_b1 i2h dX9_friendsOf_10 ?_
  rw [← e2v]
  refine g_icmp_ge (tgt := 49) hF dX9_friendsOf_11 (by decide) (fun c3 => ?_) (fun c3 => ?_)
  · replace h := gif_t c3 h
    exact gG_sub [2] rfl (hE _ (Option.some.inj h).symm)
  · replace h := gif_f c3 h
    refine g_iload_n hF 2 rfl rfl dX9_friendsOf_14 ?_
    refine g_aload_n hF 0 rfl rfl dX9_friendsOf_15 ?_
    refine g_iload_n hF 3 rfl rfl dX9_friendsOf_16 ?_
    obtain ⟨x4, h4, h⟩ := gbnd h
    refine g_callV hF my_X9_isLoaded kw_1343 kw_1345 kw_90 gC_9.1 (by decide) q0 (c_X9_isLoaded (d := d - 1) (by omega) q0 h4) (by omega) (Nat.zero_le _) (Nat.zero_le _) rfl rfl (Nat.le_of_ble_eq_true rfl) dX9_friendsOf_17 (g_sameS ?_)
    refine g_if_eq (tgt := 40) hF dX9_friendsOf_20 (by decide) (fun c5 => ?_) (fun c5 => ?_)
    · replace h := gif_t c5 h
      exact gG_sub [0, 1, 3] rfl (t_X9_friendsOf_40 hF hn hd q0 h hE hN)
    · replace h := gif_f c5 h
      refine g_aload_n hF 0 rfl rfl dX9_friendsOf_23 ?_
      refine g_aload_n hF 0 rfl rfl dX9_friendsOf_24 ?_
      obtain ⟨b6, h6, h⟩ := gbnd h
      obtain ⟨g6, l6, q_b6⟩ := ldr_sp h6
      refine g_get_r hF g6 fl_RX9_17 q0 dX9_friendsOf_25 ?_
      refine g_iload_n hF 3 rfl rfl dX9_friendsOf_28 ?_
      refine g_iload_n hF 1 rfl rfl dX9_friendsOf_29 ?_
      obtain ⟨x7, h7, h⟩ := gbnd h
      refine g_callV hF my_X9_prefers kw_1274 kw_1276 kw_80 gC_9.1 (by decide) q0 (c_X9_prefers (d := d - 1) (by omega) q0 q_b6 h7) (by omega) (Nat.zero_le _) (Nat.zero_le _) rfl rfl (Nat.le_of_ble_eq_true rfl) dX9_friendsOf_30 (g_sameS ?_)
      refine g_if_eq (tgt := 40) hF dX9_friendsOf_33 (by decide) (fun c8 => ?_) (fun c8 => ?_)
      · replace h := gif_t c8 h
        exact gG_sub [0, 1, 3] rfl (t_X9_friendsOf_40 hF hn hd q0 h hE hN)
      · replace h := gif_f c8 h
        refine g_iconst (v := (1 : Int32)) hF rfl dX9_friendsOf_36 ?_
        refine g_goto (tgt := 41) hF dX9_friendsOf_37 (by decide) ?_
        exact gG_sub [0, 1, 3] rfl (t_X9_friendsOf_41 hF hn hd q0 h hE hN)
theorem t_X9_friendsOf_L4 {Z : gZ} {d mc ms : Nat} {Acc : Option Value → (Nat → Nat) → gT → gM → Prop} {AccX : Nat → (Nat → Nat) → gT → gM → Prop} {ad : Nat → Nat} {T : gT} {M : gM} {m_a0 : Nat} {a0 : Nat} {i1 : Int32} {i2 : Int32} {i3 : Int32} {o : Int32} (hF : gFix Z cX9_friendsOf RX9 "friendsOf" (some .int) d mc ms Acc AccX) (hn : Z.2.2.2.2.2.1 = 4) (hd : 3 ≤ d) (q0 : T[a0]? = some (9, m_a0)) (h : gloop (fun x => f_X9_friendsOf_B4 T M a0 i1 x.1 x.2) gFU (i2, i3) = some o) (hE : gG Z ad T M 0 0 49 [(2, .int o)] []) : gG Z ad T M 0 0 4 [(0, .ref a0), (1, .int i1), (2, .int i2), (3, .int i3)] [] := by
  refine gloop_ind (P := fun x0 : Int32 × Int32 => gG Z ad T M 0 0 4 [(0, .ref a0), (1, .int i1), (2, .int x0.1), (3, .int x0.2)] []) (e := o) (fun x0 y hy hl hr => ?_) gFU (i2, i3) h
  exact t_X9_friendsOf_B4 hF hn hd q0 hy (fun e9 q9 => by rw [hl _ q9]; exact hE) (fun n9 q9 => hr n9 q9)
theorem t_X9_friendsOf {Z : gZ} {d mc ms : Nat} {Acc : Option Value → (Nat → Nat) → gT → gM → Prop} {AccX : Nat → (Nat → Nat) → gT → gM → Prop} {ad : Nat → Nat} {T : gT} {M : gM} {m_a0 : Nat} {a0 : Nat} {i1 : Int32} {o : Int32} (hF : gFix Z cX9_friendsOf RX9 "friendsOf" (some .int) d mc ms Acc AccX) (hn : Z.2.2.2.2.2.1 = 4) (hd : 3 ≤ d) (q0 : T[a0]? = some (9, m_a0)) (h : f_X9_friendsOf T M a0 i1 = some o) (hR : Acc (some (.int o)) ad T M) : gG Z ad T M 0 0 0 [(0, .ref a0), (1, .int i1)] [] := by
  unfold f_X9_friendsOf at h
  refine g_iconst (v := (0 : Int32)) hF rfl dX9_friendsOf_0 ?_
  refine g_istore_n (ls' := [(2, .int (0 : Int32)), (0, .ref a0), (1, .int i1)]) hF rfl (by rw [hn]; decide) rfl dX9_friendsOf_1 ?_
  refine g_iconst (v := (0 : Int32)) hF rfl dX9_friendsOf_2 ?_
  refine g_istore_n (ls' := [(3, .int (0 : Int32)), (2, .int (0 : Int32)), (0, .ref a0), (1, .int i1)]) hF rfl (by rw [hn]; decide) rfl dX9_friendsOf_3 ?_
  obtain ⟨x9, h9, h⟩ := gbnd h
  refine gG_sub [2, 3, 1, 0] rfl (t_X9_friendsOf_L4 hF hn hd q0 h9 ?_)
  refine g_iload_n hF 0 rfl rfl dX9_friendsOf_49 ?_
  cases h
  exact g_ret_i hF rfl rfl dX9_friendsOf_50 hR (Nat.zero_le _) (Nat.zero_le _)
theorem c_X9_friendsOf {d : Nat} {T : gT} {M : gM} {m_a0 : Nat} {a0 : Nat} {i1 : Int32} {r : Int32} (hd : 3 ≤ d) (q0 : T[a0]? = some (9, m_a0)) (h : f_X9_friendsOf T M a0 i1 = some (r)) : gRet d yX9_friendsOf cX9_friendsOf 4 (some .int) 0 0 [.ref a0, .int i1] T M (gSame T (some (.int r)) M) := by
  refine gRet_of (own := RX9) (by decide) rfl (Nat.le_of_ble_eq_true rfl) (fun Z ad0 hn h0 hF => ?_)
  exact t_X9_friendsOf hF hn hd q0 h ⟨rfl, rfl, rfl, rfl⟩
theorem t_X9_isCandidate_30 {Z : gZ} {d mc ms : Nat} {Acc : Option Value → (Nat → Nat) → gT → gM → Prop} {AccX : Nat → (Nat → Nat) → gT → gM → Prop} {ad : Nat → Nat} {T : gT} {M : gM} {o : Int32} (hF : gFix Z cX9_isCandidate RX9 "isCandidate" (some .boolean) d mc ms Acc AccX) (hn : Z.2.2.2.2.2.1 = 3) (hd : 3 ≤ d)  (h : f_X9_isCandidate_30 T M  = some o) (hR : Acc (some (.int o)) ad T M) : gG Z ad T M 0 0 30 [] [] := by
  unfold f_X9_isCandidate_30 at h
  refine g_iconst (v := (0 : Int32)) hF rfl dX9_isCandidate_30 ?_
  cases h
  exact g_ret_i hF rfl rfl dX9_isCandidate_31 hR (Nat.zero_le _) (Nat.zero_le _)
theorem t_X9_isCandidate {Z : gZ} {d mc ms : Nat} {Acc : Option Value → (Nat → Nat) → gT → gM → Prop} {AccX : Nat → (Nat → Nat) → gT → gM → Prop} {ad : Nat → Nat} {T : gT} {M : gM} {m_a0 : Nat} {a0 : Nat} {i1 : Int32} {i2 : Int32} {o : Int32} (hF : gFix Z cX9_isCandidate RX9 "isCandidate" (some .boolean) d mc ms Acc AccX) (hn : Z.2.2.2.2.2.1 = 3) (hd : 3 ≤ d) (q0 : T[a0]? = some (9, m_a0)) (h : f_X9_isCandidate T M a0 i1 i2 = some o) (hR : Acc (some (.int o)) ad T M) : gG Z ad T M 0 0 0 [(0, .ref a0), (1, .int i1), (2, .int i2)] [] := by
  unfold f_X9_isCandidate at h
  refine g_aload_n hF 0 rfl rfl dX9_isCandidate_0 ?_
  refine g_iload_n hF 1 rfl rfl dX9_isCandidate_1 ?_
  obtain ⟨x1, h1, h⟩ := gbnd h
  refine g_callV hF my_X9_isLoaded kw_1343 kw_1345 kw_90 gC_9.1 (by decide) q0 (c_X9_isLoaded (d := d - 1) (by omega) q0 h1) (by omega) (Nat.zero_le _) (Nat.zero_le _) rfl rfl (Nat.le_of_ble_eq_true rfl) dX9_isCandidate_2 (g_sameS ?_)
  refine g_if_eq (tgt := 30) hF dX9_isCandidate_5 (by decide) (fun c2 => ?_) (fun c2 => ?_)
  · replace h := gif_t c2 h
    exact gG_sub [] rfl (t_X9_isCandidate_30 hF hn hd  h hR)
  · replace h := gif_f c2 h
    refine g_aload_n hF 0 rfl rfl dX9_isCandidate_8 ?_
    obtain ⟨b3, h3, h⟩ := gbnd h
    obtain ⟨g3, l3, q_b3⟩ := ldr_sp h3
    refine g_get_r hF g3 fl_RX9_17 q0 dX9_isCandidate_9 ?_
    refine g_iload_n hF 1 rfl rfl dX9_isCandidate_12 ?_
    obtain ⟨x4, h4, h⟩ := gbnd h
    refine g_callS hF my_X9_at kw_1244 kw_1245 (c_X9_at (d := d - 1) (by omega)  h4) (by omega) (Nat.zero_le _) (Nat.zero_le _) rfl rfl (Nat.le_of_ble_eq_true rfl) dX9_isCandidate_13 (g_sameS ?_)
    refine g_bipush (v := (12 : Int32)) hF rfl dX9_isCandidate_16 ?_
    refine g_iadd hF dX9_isCandidate_18 ?_
    refine g_iload_n hF 2 rfl rfl dX9_isCandidate_19 ?_
    refine g_iadd hF dX9_isCandidate_20 ?_
    obtain ⟨v5, h5, h⟩ := gbnd h
    obtain ⟨i5h, e5v⟩ := ald_sp q_b3 h5
    refine g_iald hF q_b3 i5h dX9_isCandidate_21 ?_
    rw [← e5v]
    refine g_iconst (v := (-1 : Int32)) hF rfl dX9_isCandidate_22 ?_
    refine g_icmp_eq (tgt := 30) hF dX9_isCandidate_23 (by decide) (fun c6 => ?_) (fun c6 => ?_)
    · replace h := gif_t c6 h
      exact gG_sub [] rfl (t_X9_isCandidate_30 hF hn hd  h hR)
    · replace h := gif_f c6 h
      refine g_iconst (v := (1 : Int32)) hF rfl dX9_isCandidate_26 ?_
      refine g_goto (tgt := 31) hF dX9_isCandidate_27 (by decide) ?_
      cases h
      exact g_ret_i hF rfl rfl dX9_isCandidate_31 hR (Nat.zero_le _) (Nat.zero_le _)
theorem c_X9_isCandidate {d : Nat} {T : gT} {M : gM} {m_a0 : Nat} {a0 : Nat} {i1 : Int32} {i2 : Int32} {r : Int32} (hd : 3 ≤ d) (q0 : T[a0]? = some (9, m_a0)) (h : f_X9_isCandidate T M a0 i1 i2 = some (r)) : gRet d yX9_isCandidate cX9_isCandidate 3 (some .boolean) 0 0 [.ref a0, .int i1, .int i2] T M (gSame T (some (.int r)) M) := by
  refine gRet_of (own := RX9) (by decide) rfl (Nat.le_of_ble_eq_true rfl) (fun Z ad0 hn h0 hF => ?_)
  exact t_X9_isCandidate hF hn hd q0 h ⟨rfl, rfl, rfl, rfl⟩
theorem t_X9_limited {Z : gZ} {d mc ms : Nat} {Acc : Option Value → (Nat → Nat) → gT → gM → Prop} {AccX : Nat → (Nat → Nat) → gT → gM → Prop} {ad : Nat → Nat} {T : gT} {M : gM} {j0 : Int64} {o : Int64} (hF : gFix Z cX9_limited RX9 "limited" (some .long) d mc ms Acc AccX) (hn : Z.2.2.2.2.2.1 = 2) (hd : 1 ≤ d)  (h : f_X9_limited T M j0 = some o) (hR : Acc (some (.long o)) ad T M) : gG Z ad T M 0 0 0 [(0, .long j0)] [] := by
  unfold f_X9_limited at h
  refine g_lload_n hF 0 rfl rfl dX9_limited_0 ?_
  refine g_ldc2 (v := (1000000 : Int64)) hF kw_1365 dX9_limited_1 ?_
  refine g_lcmp hF dX9_limited_4 ?_
  refine g_if_le (tgt := 14) hF dX9_limited_5 (by decide) (fun c1 => ?_) (fun c1 => ?_)
  · replace h := gif_t c1 h
    refine g_lload_n hF 0 rfl rfl dX9_limited_14 ?_
    refine g_ldc2 (v := (-1000000 : Int64)) hF kw_1366 dX9_limited_15 ?_
    refine g_lcmp hF dX9_limited_18 ?_
    refine g_if_ge (tgt := 28) hF dX9_limited_19 (by decide) (fun c2 => ?_) (fun c2 => ?_)
    · replace h := gif_t c2 h
      refine g_lload_n hF 0 rfl rfl dX9_limited_28 ?_
      cases h
      exact g_ret_l hF rfl dX9_limited_29 hR (Nat.zero_le _) (Nat.zero_le _)
    · replace h := gif_f c2 h
      refine g_ldc2 (v := (-1000000 : Int64)) hF kw_1366 dX9_limited_22 ?_
      refine g_goto (tgt := 29) hF dX9_limited_25 (by decide) ?_
      cases h
      exact g_ret_l hF rfl dX9_limited_29 hR (Nat.zero_le _) (Nat.zero_le _)
  · replace h := gif_f c1 h
    refine g_ldc2 (v := (1000000 : Int64)) hF kw_1365 dX9_limited_8 ?_
    refine g_goto (tgt := 29) hF dX9_limited_11 (by decide) ?_
    cases h
    exact g_ret_l hF rfl dX9_limited_29 hR (Nat.zero_le _) (Nat.zero_le _)
theorem c_X9_limited {d : Nat} {T : gT} {M : gM} {j0 : Int64} {r : Int64} (hd : 1 ≤ d)  (h : f_X9_limited T M j0 = some (r)) : gRet d yX9_limited cX9_limited 2 (some .long) 0 0 [.long j0] T M (gSame T (some (.long r)) M) := by
  refine gRet_of (own := RX9) (by decide) rfl (Nat.le_of_ble_eq_true rfl) (fun Z ad0 hn h0 hF => ?_)
  exact t_X9_limited hF hn hd  h ⟨rfl, rfl, rfl, rfl⟩
theorem t_X9_operate {Z : gZ} {d mc ms : Nat} {Acc : Option Value → (Nat → Nat) → gT → gM → Prop} {AccX : Nat → (Nat → Nat) → gT → gM → Prop} {ad : Nat → Nat} {T : gT} {M : gM} {i0 : Int32} {j1 : Int64} {j3 : Int64} {o : Int64} (hF : gFix Z cX9_operate RX9 "operate" (some .long) d mc ms Acc AccX) (hn : Z.2.2.2.2.2.1 = 5) (hd : 2 ≤ d)  (h : f_X9_operate T M i0 j1 j3 = some o) (hR : Acc (some (.long o)) ad T M) : gG Z ad T M 0 0 0 [(0, .int i0), (1, .long j1), (3, .long j3)] [] := by
  unfold f_X9_operate at h
  refine g_iload_n hF 0 rfl rfl dX9_operate_0 ?_
  refine g_iconst (v := (5 : Int32)) hF rfl dX9_operate_1 ?_
  refine g_icmp_ne (tgt := 19) hF dX9_operate_2 (by decide) (fun c1 => ?_) (fun c1 => ?_)
  · replace h := gif_t c1 h
    refine g_iload_n hF 0 rfl rfl dX9_operate_19 ?_
    refine g_iconst (v := (2 : Int32)) hF rfl dX9_operate_20 ?_
    refine g_icmp_ne (tgt := 30) hF dX9_operate_21 (by decide) (fun c2 => ?_) (fun c2 => ?_)
    · replace h := gif_t c2 h
      refine g_iload_n hF 0 rfl rfl dX9_operate_30 ?_
      refine g_iconst (v := (3 : Int32)) hF rfl dX9_operate_31 ?_
      refine g_icmp_ne (tgt := 41) hF dX9_operate_32 (by decide) (fun c3 => ?_) (fun c3 => ?_)
      · replace h := gif_t c3 h
        refine g_lload_n hF 1 rfl rfl dX9_operate_41 ?_
        refine g_lload_n hF 2 rfl rfl dX9_operate_42 ?_
        refine g_lmul hF dX9_operate_43 ?_
        obtain ⟨x4, h4, h⟩ := gbnd h
        refine g_callS hF my_X9_limited kw_1362 kw_1363 (c_X9_limited (d := d - 1) (by omega)  h4) (by omega) (Nat.zero_le _) (Nat.zero_le _) rfl rfl (Nat.le_of_ble_eq_true rfl) dX9_operate_44 (g_sameS ?_)
        cases h
        exact g_ret_l hF rfl dX9_operate_47 hR (Nat.zero_le _) (Nat.zero_le _)
      · replace h := gif_n c3 h
        refine g_lload_n hF 1 rfl rfl dX9_operate_35 ?_
        refine g_lload_n hF 2 rfl rfl dX9_operate_36 ?_
        refine g_lsub hF dX9_operate_37 ?_
        refine g_goto (tgt := 44) hF dX9_operate_38 (by decide) ?_
        obtain ⟨x5, h5, h⟩ := gbnd h
        refine g_callS hF my_X9_limited kw_1362 kw_1363 (c_X9_limited (d := d - 1) (by omega)  h5) (by omega) (Nat.zero_le _) (Nat.zero_le _) rfl rfl (Nat.le_of_ble_eq_true rfl) dX9_operate_44 (g_sameS ?_)
        cases h
        exact g_ret_l hF rfl dX9_operate_47 hR (Nat.zero_le _) (Nat.zero_le _)
    · replace h := gif_n c2 h
      refine g_lload_n hF 1 rfl rfl dX9_operate_24 ?_
      refine g_lload_n hF 2 rfl rfl dX9_operate_25 ?_
      refine g_ladd hF dX9_operate_26 ?_
      refine g_goto (tgt := 44) hF dX9_operate_27 (by decide) ?_
      obtain ⟨x6, h6, h⟩ := gbnd h
      refine g_callS hF my_X9_limited kw_1362 kw_1363 (c_X9_limited (d := d - 1) (by omega)  h6) (by omega) (Nat.zero_le _) (Nat.zero_le _) rfl rfl (Nat.le_of_ble_eq_true rfl) dX9_operate_44 (g_sameS ?_)
      cases h
      exact g_ret_l hF rfl dX9_operate_47 hR (Nat.zero_le _) (Nat.zero_le _)
  · replace h := gif_n c1 h
    refine g_lload_n hF 2 rfl rfl dX9_operate_5 ?_
    refine g_lconst (v := (0 : Int64)) hF rfl dX9_operate_6 ?_
    refine g_lcmp hF dX9_operate_7 ?_
    refine g_if_ne (tgt := 15) hF dX9_operate_8 (by decide) (fun c7 => ?_) (fun c7 => ?_)
    · replace h := gif_t c7 h
      refine g_lload_n hF 1 rfl rfl dX9_operate_15 ?_
      refine g_lload_n hF 2 rfl rfl dX9_operate_16 ?_
      obtain ⟨_, h8, h⟩ := gbnd h
      refine g_ldiv hF (chk_sp h8) dX9_operate_17 ?_
      cases h
      exact g_ret_l hF rfl dX9_operate_18 hR (Nat.zero_le _) (Nat.zero_le _)
    · replace h := gif_n c7 h
      refine g_lconst (v := (0 : Int64)) hF rfl dX9_operate_11 ?_
      refine g_goto (tgt := 18) hF dX9_operate_12 (by decide) ?_
      cases h
      exact g_ret_l hF rfl dX9_operate_18 hR (Nat.zero_le _) (Nat.zero_le _)
theorem c_X9_operate {d : Nat} {T : gT} {M : gM} {i0 : Int32} {j1 : Int64} {j3 : Int64} {r : Int64} (hd : 2 ≤ d)  (h : f_X9_operate T M i0 j1 j3 = some (r)) : gRet d yX9_operate cX9_operate 5 (some .long) 0 0 [.int i0, .long j1, .long j3] T M (gSame T (some (.long r)) M) := by
  refine gRet_of (own := RX9) (by decide) rfl (Nat.le_of_ble_eq_true rfl) (fun Z ad0 hn h0 hF => ?_)
  exact t_X9_operate hF hn hd  h ⟨rfl, rfl, rfl, rfl⟩
theorem t_X9_weightOf_184 {Z : gZ} {d mc ms : Nat} {Acc : Option Value → (Nat → Nat) → gT → gM → Prop} {AccX : Nat → (Nat → Nat) → gT → gM → Prop} {ad : Nat → Nat} {T : gT} {M : gM} {m_a0 : Nat} {a0 : Nat} {i1 : Int32} {i2 : Int32} {i3 : Int32} {o : (gM) ⊕ (Int32 × Int32 × gM)} (hF : gFix Z cX9_weightOf RX9 "weightOf" (some .int) d mc ms Acc AccX) (hn : Z.2.2.2.2.2.1 = 6) (hd : 4 ≤ d) (q0 : T[a0]? = some (9, m_a0)) (h : f_X9_weightOf_184 T M a0 i1 i2 i3 = some o) (hE : ∀ e9, o = .inl e9 → gG Z ad T e9 0 0 190 [(0, .ref a0)] []) (hN : ∀ n9, o = .inr n9 → gG Z ad T n9.2.2 0 0 32 [(0, .ref a0), (1, .int i1), (2, .int n9.1), (3, .int n9.2.1)] []) : gG Z ad T M 0 0 184 [(0, .ref a0), (1, .int i1), (2, .int i2), (3, .int i3)] [] := by
  unfold f_X9_weightOf_184 at h
  refine g_iinc (n := 1) (v := (i3 + (1 : Int32))) (ls' := [(3, .int (i3 + (1 : Int32))), (0, .ref a0), (1, .int i1), (2, .int i2)]) hF 3 rfl rfl (by rw [hn]; decide) rfl dX9_weightOf_184 ?_
  refine g_goto (tgt := 32) hF dX9_weightOf_187 (by decide) ?_
  exact gG_sub [1, 2, 3, 0] rfl (hN _ (Option.some.inj h).symm)
theorem t_X9_weightOf_147 {Z : gZ} {d mc ms : Nat} {Acc : Option Value → (Nat → Nat) → gT → gM → Prop} {AccX : Nat → (Nat → Nat) → gT → gM → Prop} {ad : Nat → Nat} {T : gT} {M : gM} {m_a0 m_b0 : Nat} {a0 : Nat} {i1 : Int32} {i2 : Int32} {i3 : Int32} {b0 : Nat} {k1 : Int32} {w2 : Int64} {o : (gM) ⊕ (Int32 × Int32 × gM)} (hF : gFix Z cX9_weightOf RX9 "weightOf" (some .int) d mc ms Acc AccX) (hn : Z.2.2.2.2.2.1 = 6) (hd : 4 ≤ d) (q0 : T[a0]? = some (9, m_a0)) (p0 : T[b0]? = some (12, m_b0)) (h : f_X9_weightOf_147 T M a0 i1 i2 i3 b0 k1 w2 = some o) (hE : ∀ e9, o = .inl e9 → gG Z ad T e9 0 0 190 [(0, .ref a0)] []) (hN : ∀ n9, o = .inr n9 → gG Z ad T n9.2.2 0 0 32 [(0, .ref a0), (1, .int i1), (2, .int n9.1), (3, .int n9.2.1)] []) : gG Z ad T M 0 0 147 [(0, .ref a0), (1, .int i1), (2, .int i2), (3, .int i3)] [.long w2, .int k1, .ref b0] := by
  unfold f_X9_weightOf_147 at h
  obtain ⟨M1, h1, h⟩ := gbnd h
  obtain ⟨i1h, e1v⟩ := astl_sp p0 h1
  refine g_last hF p0 i1h dX9_weightOf_147 ?_
  rw [← e1v]
  refine g_iinc (n := 1) (v := (i2 + (1 : Int32))) (ls' := [(2, .int (i2 + (1 : Int32))), (0, .ref a0), (1, .int i1), (3, .int i3)]) hF 2 rfl rfl (by rw [hn]; decide) rfl dX9_weightOf_148 ?_
  refine g_goto (tgt := 184) hF dX9_weightOf_151 (by decide) ?_
  exact gG_sub [1, 2, 0, 3] rfl (t_X9_weightOf_184 hF hn hd q0 h hE hN)
theorem t_X9_weightOf_B32 {Z : gZ} {d mc ms : Nat} {Acc : Option Value → (Nat → Nat) → gT → gM → Prop} {AccX : Nat → (Nat → Nat) → gT → gM → Prop} {ad : Nat → Nat} {T : gT} {M : gM} {m_a0 : Nat} {a0 : Nat} {i1 : Int32} {i2 : Int32} {i3 : Int32} {o : (gM) ⊕ (Int32 × Int32 × gM)} (hF : gFix Z cX9_weightOf RX9 "weightOf" (some .int) d mc ms Acc AccX) (hn : Z.2.2.2.2.2.1 = 6) (hd : 4 ≤ d) (q0 : T[a0]? = some (9, m_a0)) (h : f_X9_weightOf_B32 T M a0 i1 i2 i3 = some o) (hE : ∀ e9, o = .inl e9 → gG Z ad T e9 0 0 190 [(0, .ref a0)] []) (hN : ∀ n9, o = .inr n9 → gG Z ad T n9.2.2 0 0 32 [(0, .ref a0), (1, .int i1), (2, .int n9.1), (3, .int n9.2.1)] []) : gG Z ad T M 0 0 32 [(0, .ref a0), (1, .int i1), (2, .int i2), (3, .int i3)] [] := by
  unfold f_X9_weightOf_B32 at h
  refine g_iload_n hF 3 rfl rfl dX9_weightOf_32 ?_
  refine g_aload_n hF 0 rfl rfl dX9_weightOf_33 ?_
  obtain ⟨b2, h2, h⟩ := gbnd h
  obtain ⟨g2, l2, q_b2⟩ := ldr_sp h2
  refine g_get_r hF g2 fl_RX9_17 q0 dX9_weightOf_34 ?_
  refine g_iconst (v := (5 : Int32)) hF rfl dX9_weightOf_37 ?_
  obtain ⟨v3, h3, h⟩ := gbnd h
  obtain ⟨i3h, e3v⟩ := ald_sp q_b2 h3
  refine g_iald hF q_b2 i3h dX9_weightOf_38 ?_
  rw [← e3v]
  refine g_icmp_ge (tgt := 190) hF dX9_weightOf_39 (by decide) (fun c4 => ?_) (fun c4 => ?_)
  · replace h := gif_t c4 h
    exact gG_sub [0] rfl (hE _ (Option.some.inj h).symm)
  · replace h := gif_f c4 h
    refine g_aload_n hF 0 rfl rfl dX9_weightOf_42 ?_
    obtain ⟨b5, h5, h⟩ := gbnd h
    obtain ⟨g5, l5, q_b5⟩ := ldr_sp h5
    refine g_get_r hF g5 fl_RX9_17 q0 dX9_weightOf_43 ?_
    refine g_sipush (v := (198 : Int32)) hF rfl dX9_weightOf_46 ?_
    refine g_iload_n hF 3 rfl rfl dX9_weightOf_49 ?_
    refine g_iadd hF dX9_weightOf_50 ?_
    obtain ⟨v6, h6, h⟩ := gbnd h
    obtain ⟨i6h, e6v⟩ := ald_sp q_b5 h6
    refine g_iald hF q_b5 i6h dX9_weightOf_51 ?_
    rw [← e6v]
    refine g_istore (ls' := [(4, .int v6), (0, .ref a0), (1, .int i1), (2, .int i2), (3, .int i3)]) hF (by rw [hn]; decide) rfl dX9_weightOf_52 ?_
    refine g_iload hF 0 rfl dX9_weightOf_54 ?_
    refine g_iconst (v := (1 : Int32)) hF rfl dX9_weightOf_56 ?_
    refine g_icmp_gt (tgt := 154) hF dX9_weightOf_57 (by decide) (fun c7 => ?_) (fun c7 => ?_)
    · replace h := gif_t c7 h
      refine g_iinc (n := -1) (v := (i2 + (-1 : Int32))) (ls' := [(2, .int (i2 + (-1 : Int32))), (4, .int v6), (0, .ref a0), (1, .int i1), (3, .int i3)]) hF 3 rfl (congrArg (HAdd.hAdd i2) (by decide)) (by rw [hn]; decide) rfl dX9_weightOf_154 ?_
      refine g_aload_n hF 2 rfl rfl dX9_weightOf_157 ?_
      obtain ⟨b8, h8, h⟩ := gbnd h
      obtain ⟨g8, l8, q_b8⟩ := ldr_sp h8
      refine g_get_r hF g8 fl_RX9_35 q0 dX9_weightOf_158 ?_
      refine g_iload_n hF 0 rfl rfl dX9_weightOf_161 ?_
      refine g_iconst (v := (1 : Int32)) hF rfl dX9_weightOf_162 ?_
      refine g_isub hF dX9_weightOf_163 ?_
      refine g_iload hF 1 rfl dX9_weightOf_164 ?_
      refine g_aload_n hF 2 rfl rfl dX9_weightOf_166 ?_
      obtain ⟨b9, h9, h⟩ := gbnd h
      obtain ⟨g9, l9, q_b9⟩ := ldr_sp h9
      refine g_get_r hF g9 fl_RX9_35 q0 dX9_weightOf_167 ?_
      refine g_iload_n hF 0 rfl rfl dX9_weightOf_170 ?_
      refine g_iconst (v := (1 : Int32)) hF rfl dX9_weightOf_171 ?_
      refine g_isub hF dX9_weightOf_172 ?_
      obtain ⟨v10, h10, h⟩ := gbnd h
      obtain ⟨i10h, e10v⟩ := aldl_sp q_b9 h10
      refine g_lald hF q_b9 i10h dX9_weightOf_173 ?_
      rw [← e10v]
      refine g_aload_n hF 2 rfl rfl dX9_weightOf_174 ?_
      obtain ⟨b11, h11, h⟩ := gbnd h
      obtain ⟨g11, l11, q_b11⟩ := ldr_sp h11
      refine g_get_r hF g11 fl_RX9_35 q0 dX9_weightOf_175 ?_
      refine g_iload_n hF 0 rfl rfl dX9_weightOf_178 ?_
      obtain ⟨v12, h12, h⟩ := gbnd h
      obtain ⟨i12h, e12v⟩ := aldl_sp q_b11 h12
      refine g_lald hF q_b11 i12h dX9_weightOf_179 ?_
      rw [← e12v]
      obtain ⟨x13, h13, h⟩ := gbnd h
      refine g_callS hF my_X9_operate kw_1359 kw_1360 (c_X9_operate (d := d - 1) (by omega)  h13) (by omega) (Nat.zero_le _) (Nat.zero_le _) rfl rfl (Nat.le_of_ble_eq_true rfl) dX9_weightOf_180 (g_sameS ?_)
      obtain ⟨M14, h14, h⟩ := gbnd h
      obtain ⟨i14h, e14v⟩ := astl_sp q_b8 h14
      refine g_last hF q_b8 i14h dX9_weightOf_183 ?_
      rw [← e14v]
      exact gG_sub [2, 3, 0, 4] rfl (t_X9_weightOf_184 hF hn hd q0 h hE hN)
    · replace h := gif_f c7 h
      refine g_iinc (n := 1) (v := (i3 + (1 : Int32))) (ls' := [(3, .int (i3 + (1 : Int32))), (4, .int v6), (0, .ref a0), (1, .int i1), (2, .int i2)]) hF 4 rfl rfl (by rw [hn]; decide) rfl dX9_weightOf_60 ?_
      refine g_aload_n hF 2 rfl rfl dX9_weightOf_63 ?_
      obtain ⟨b15, h15, h⟩ := gbnd h
      obtain ⟨g15, l15, q_b15⟩ := ldr_sp h15
      refine g_get_r hF g15 fl_RX9_17 q0 dX9_weightOf_64 ?_
      refine g_sipush (v := (198 : Int32)) hF rfl dX9_weightOf_67 ?_
      refine g_iload_n hF 0 rfl rfl dX9_weightOf_70 ?_
      refine g_iadd hF dX9_weightOf_71 ?_
      obtain ⟨v16, h16, h⟩ := gbnd h
      obtain ⟨i16h, e16v⟩ := ald_sp q_b15 h16
      refine g_iald hF q_b15 i16h dX9_weightOf_72 ?_
      rw [← e16v]
      refine g_istore (ls' := [(5, .int v16), (3, .int (i3 + (1 : Int32))), (4, .int v6), (0, .ref a0), (1, .int i1), (2, .int i2)]) hF (by rw [hn]; decide) rfl dX9_weightOf_73 ?_
      refine g_aload_n hF 3 rfl rfl dX9_weightOf_75 ?_
      obtain ⟨b17, h17, h⟩ := gbnd h
      obtain ⟨g17, l17, q_b17⟩ := ldr_sp h17
      refine g_get_r hF g17 fl_RX9_35 q0 dX9_weightOf_76 ?_
      refine g_iload_n hF 5 rfl rfl dX9_weightOf_79 ?_
      refine g_iload hF 2 rfl dX9_weightOf_80 ?_
      refine g_if_ne (tgt := 91) hF dX9_weightOf_82 (by decide) (fun c18 => ?_) (fun c18 => ?_)
      · replace h := gif_t c18 h
        refine g_iload hF 0 rfl dX9_weightOf_91 ?_
        refine g_if_ne (tgt := 111) hF dX9_weightOf_93 (by decide) (fun c19 => ?_) (fun c19 => ?_)
        · replace h := gif_t c19 h
          refine g_iload hF 0 rfl dX9_weightOf_111 ?_
          refine g_iconst (v := (1 : Int32)) hF rfl dX9_weightOf_113 ?_
          refine g_icmp_ne (tgt := 126) hF dX9_weightOf_114 (by decide) (fun c20 => ?_) (fun c20 => ?_)
          · replace h := gif_t c20 h
            refine g_iload hF 0 rfl dX9_weightOf_126 ?_
            refine g_iconst (v := (2 : Int32)) hF rfl dX9_weightOf_128 ?_
            refine g_icmp_ne (tgt := 141) hF dX9_weightOf_129 (by decide) (fun c21 => ?_) (fun c21 => ?_)
            · replace h := gif_t c21 h
              refine g_aload_n hF 3 rfl rfl dX9_weightOf_141 ?_
              refine g_iload_n hF 4 rfl rfl dX9_weightOf_142 ?_
              obtain ⟨x22, h22, h⟩ := gbnd h
              refine g_callV hF my_X9_friendsOf kw_1355 kw_1357 kw_93 gC_9.1 (by decide) q0 (c_X9_friendsOf (d := d - 1) (by omega) q0 h22) (by omega) (Nat.zero_le _) (Nat.zero_le _) rfl rfl (Nat.le_of_ble_eq_true rfl) dX9_weightOf_143 (g_sameS ?_)
              refine g_i2l hF dX9_weightOf_146 ?_
              exact gG_sub [3, 4, 5, 1] rfl (t_X9_weightOf_147 hF hn hd q0 q_b17 h hE hN)
            · replace h := gif_n c21 h
              refine g_aload_n hF 3 rfl rfl dX9_weightOf_132 ?_
              refine g_iload_n hF 4 rfl rfl dX9_weightOf_133 ?_
              obtain ⟨x23, h23, h⟩ := gbnd h
              refine g_callV hF my_X9_offersOf kw_1347 kw_1349 kw_91 gC_9.1 (by decide) q0 (c_X9_offersOf (d := d - 1) (by omega) q0 h23) (by omega) (Nat.zero_le _) (Nat.zero_le _) rfl rfl (Nat.le_of_ble_eq_true rfl) dX9_weightOf_134 (g_sameS ?_)
              refine g_i2l hF dX9_weightOf_137 ?_
              refine g_goto (tgt := 147) hF dX9_weightOf_138 (by decide) ?_
              exact gG_sub [3, 4, 5, 1] rfl (t_X9_weightOf_147 hF hn hd q0 q_b17 h hE hN)
          · replace h := gif_n c20 h
            refine g_aload_n hF 3 rfl rfl dX9_weightOf_117 ?_
            refine g_iload_n hF 4 rfl rfl dX9_weightOf_118 ?_
            obtain ⟨x24, h24, h⟩ := gbnd h
            refine g_callV hF my_X9_rankOf kw_1339 kw_1341 kw_89 gC_9.1 (by decide) q0 (c_X9_rankOf (d := d - 1) (by omega) q0 h24) (by omega) (Nat.zero_le _) (Nat.zero_le _) rfl rfl (Nat.le_of_ble_eq_true rfl) dX9_weightOf_119 (g_sameS ?_)
            refine g_i2l hF dX9_weightOf_122 ?_
            refine g_goto (tgt := 147) hF dX9_weightOf_123 (by decide) ?_
            exact gG_sub [3, 4, 5, 1] rfl (t_X9_weightOf_147 hF hn hd q0 q_b17 h hE hN)
        · replace h := gif_n c19 h
          refine g_aload_n hF 3 rfl rfl dX9_weightOf_96 ?_
          obtain ⟨b25, h25, h⟩ := gbnd h
          obtain ⟨g25, l25, q_b25⟩ := ldr_sp h25
          refine g_get_r hF g25 fl_RX9_17 q0 dX9_weightOf_97 ?_
          refine g_iload_n hF 4 rfl rfl dX9_weightOf_100 ?_
          obtain ⟨x26, h26, h⟩ := gbnd h
          refine g_callS hF my_X9_at kw_1244 kw_1245 (c_X9_at (d := d - 1) (by omega)  h26) (by omega) (Nat.zero_le _) (Nat.zero_le _) rfl rfl (Nat.le_of_ble_eq_true rfl) dX9_weightOf_101 (g_sameS ?_)
          refine g_iconst (v := (0 : Int32)) hF rfl dX9_weightOf_104 ?_
          refine g_iadd hF dX9_weightOf_105 ?_
          obtain ⟨v27, h27, h⟩ := gbnd h
          obtain ⟨i27h, e27v⟩ := ald_sp q_b25 h27
          refine g_iald hF q_b25 i27h dX9_weightOf_106 ?_
          rw [← e27v]
          refine g_i2l hF dX9_weightOf_107 ?_
          refine g_goto (tgt := 147) hF dX9_weightOf_108 (by decide) ?_
          exact gG_sub [3, 4, 5, 1] rfl (t_X9_weightOf_147 hF hn hd q0 q_b17 h hE hN)
      · replace h := gif_n c18 h
        refine g_iload hF 0 rfl dX9_weightOf_85 ?_
        refine g_i2l hF dX9_weightOf_87 ?_
        refine g_goto (tgt := 147) hF dX9_weightOf_88 (by decide) ?_
        exact gG_sub [3, 4, 5, 1] rfl (t_X9_weightOf_147 hF hn hd q0 q_b17 h hE hN)
theorem t_X9_weightOf_L32 {Z : gZ} {d mc ms : Nat} {Acc : Option Value → (Nat → Nat) → gT → gM → Prop} {AccX : Nat → (Nat → Nat) → gT → gM → Prop} {ad : Nat → Nat} {T : gT} {M : gM} {m_a0 : Nat} {a0 : Nat} {i1 : Int32} {i2 : Int32} {i3 : Int32} {o : gM} (hF : gFix Z cX9_weightOf RX9 "weightOf" (some .int) d mc ms Acc AccX) (hn : Z.2.2.2.2.2.1 = 6) (hd : 4 ≤ d) (q0 : T[a0]? = some (9, m_a0)) (h : gloop (fun x => f_X9_weightOf_B32 T x.2.2 a0 i1 x.1 x.2.1) gFU (i2, i3, M) = some o) (hE : gG Z ad T o 0 0 190 [(0, .ref a0)] []) : gG Z ad T M 0 0 32 [(0, .ref a0), (1, .int i1), (2, .int i2), (3, .int i3)] [] := by
  refine gloop_ind (P := fun x0 : Int32 × Int32 × gM => gG Z ad T x0.2.2 0 0 32 [(0, .ref a0), (1, .int i1), (2, .int x0.1), (3, .int x0.2.1)] []) (e := o) (fun x0 y hy hl hr => ?_) gFU (i2, i3, M) h
  exact t_X9_weightOf_B32 hF hn hd q0 hy (fun e9 q9 => by rw [hl _ q9]; exact hE) (fun n9 q9 => hr n9 q9)
theorem t_X9_weightOf {Z : gZ} {d mc ms : Nat} {Acc : Option Value → (Nat → Nat) → gT → gM → Prop} {AccX : Nat → (Nat → Nat) → gT → gM → Prop} {ad : Nat → Nat} {T : gT} {M : gM} {m_a0 : Nat} {a0 : Nat} {i1 : Int32} {o : Int32 × gM} (hF : gFix Z cX9_weightOf RX9 "weightOf" (some .int) d mc ms Acc AccX) (hn : Z.2.2.2.2.2.1 = 6) (hd : 4 ≤ d) (q0 : T[a0]? = some (9, m_a0)) (h : f_X9_weightOf T M a0 i1 = some o) (hR : Acc (some (.int o.1)) ad T o.2) : gG Z ad T M 0 0 0 [(0, .ref a0), (1, .int i1)] [] := by
  unfold f_X9_weightOf at h
  refine g_aload_n hF 0 rfl rfl dX9_weightOf_0 ?_
  refine g_iload_n hF 1 rfl rfl dX9_weightOf_1 ?_
  obtain ⟨x28, h28, h⟩ := gbnd h
  refine g_callV hF my_X9_isLoaded kw_1343 kw_1345 kw_90 gC_9.1 (by decide) q0 (c_X9_isLoaded (d := d - 1) (by omega) q0 h28) (by omega) (Nat.zero_le _) (Nat.zero_le _) rfl rfl (Nat.le_of_ble_eq_true rfl) dX9_weightOf_2 (g_sameS ?_)
  refine g_if_ne (tgt := 10) hF dX9_weightOf_5 (by decide) (fun c29 => ?_) (fun c29 => ?_)
  · replace h := gif_t c29 h
    refine g_iconst (v := (0 : Int32)) hF rfl dX9_weightOf_10 ?_
    refine g_istore_n (ls' := [(2, .int (0 : Int32)), (0, .ref a0), (1, .int i1)]) hF rfl (by rw [hn]; decide) rfl dX9_weightOf_11 ?_
    refine g_aload_n hF 1 rfl rfl dX9_weightOf_12 ?_
    obtain ⟨b30, h30, h⟩ := gbnd h
    obtain ⟨g30, l30, q_b30⟩ := ldr_sp h30
    refine g_get_r hF g30 fl_RX9_35 q0 dX9_weightOf_13 ?_
    refine g_iconst (v := (0 : Int32)) hF rfl dX9_weightOf_16 ?_
    refine g_aload_n hF 1 rfl rfl dX9_weightOf_17 ?_
    obtain ⟨b31, h31, h⟩ := gbnd h
    obtain ⟨g31, l31, q_b31⟩ := ldr_sp h31
    refine g_get_r hF g31 fl_RX9_17 q0 dX9_weightOf_18 ?_
    refine g_iload_n hF 2 rfl rfl dX9_weightOf_21 ?_
    obtain ⟨x32, h32, h⟩ := gbnd h
    refine g_callS hF my_X9_at kw_1244 kw_1245 (c_X9_at (d := d - 1) (by omega)  h32) (by omega) (Nat.zero_le _) (Nat.zero_le _) rfl rfl (Nat.le_of_ble_eq_true rfl) dX9_weightOf_22 (g_sameS ?_)
    refine g_iconst (v := (0 : Int32)) hF rfl dX9_weightOf_25 ?_
    refine g_iadd hF dX9_weightOf_26 ?_
    obtain ⟨v33, h33, h⟩ := gbnd h
    obtain ⟨i33h, e33v⟩ := ald_sp q_b31 h33
    refine g_iald hF q_b31 i33h dX9_weightOf_27 ?_
    rw [← e33v]
    refine g_i2l hF dX9_weightOf_28 ?_
    obtain ⟨M34, h34, h⟩ := gbnd h
    obtain ⟨i34h, e34v⟩ := astl_sp q_b30 h34
    refine g_last hF q_b30 i34h dX9_weightOf_29 ?_
    rw [← e34v]
    refine g_iconst (v := (0 : Int32)) hF rfl dX9_weightOf_30 ?_
    refine g_istore_n (ls' := [(3, .int (0 : Int32)), (2, .int (0 : Int32)), (0, .ref a0), (1, .int i1)]) hF rfl (by rw [hn]; decide) rfl dX9_weightOf_31 ?_
    obtain ⟨x35, h35, h⟩ := gbnd h
    refine gG_sub [2, 3, 1, 0] rfl (t_X9_weightOf_L32 hF hn hd q0 h35 ?_)
    refine g_aload_n hF 0 rfl rfl dX9_weightOf_190 ?_
    obtain ⟨b36, h36, h⟩ := gbnd h
    obtain ⟨g36, l36, q_b36⟩ := ldr_sp h36
    refine g_get_r hF g36 fl_RX9_35 q0 dX9_weightOf_191 ?_
    refine g_iconst (v := (0 : Int32)) hF rfl dX9_weightOf_194 ?_
    obtain ⟨v37, h37, h⟩ := gbnd h
    obtain ⟨i37h, e37v⟩ := aldl_sp q_b36 h37
    refine g_lald hF q_b36 i37h dX9_weightOf_195 ?_
    rw [← e37v]
    refine g_lconst (v := (0 : Int64)) hF rfl dX9_weightOf_196 ?_
    refine g_lcmp hF dX9_weightOf_197 ?_
    refine g_if_ge (tgt := 205) hF dX9_weightOf_198 (by decide) (fun c38 => ?_) (fun c38 => ?_)
    · replace h := gif_t c38 h
      refine g_aload_n hF 0 rfl rfl dX9_weightOf_205 ?_
      obtain ⟨b39, h39, h⟩ := gbnd h
      obtain ⟨g39, l39, q_b39⟩ := ldr_sp h39
      refine g_get_r hF g39 fl_RX9_35 q0 dX9_weightOf_206 ?_
      refine g_iconst (v := (0 : Int32)) hF rfl dX9_weightOf_209 ?_
      obtain ⟨v40, h40, h⟩ := gbnd h
      obtain ⟨i40h, e40v⟩ := aldl_sp q_b39 h40
      refine g_lald hF q_b39 i40h dX9_weightOf_210 ?_
      rw [← e40v]
      refine g_ldc2 (v := (9999 : Int64)) hF kw_1367 dX9_weightOf_211 ?_
      refine g_lcmp hF dX9_weightOf_214 ?_
      refine g_if_le (tgt := 224) hF dX9_weightOf_215 (by decide) (fun c41 => ?_) (fun c41 => ?_)
      · replace h := gif_t c41 h
        refine g_aload_n hF 0 rfl rfl dX9_weightOf_224 ?_
        obtain ⟨b42, h42, h⟩ := gbnd h
        obtain ⟨g42, l42, q_b42⟩ := ldr_sp h42
        refine g_get_r hF g42 fl_RX9_35 q0 dX9_weightOf_225 ?_
        refine g_iconst (v := (0 : Int32)) hF rfl dX9_weightOf_228 ?_
        obtain ⟨v43, h43, h⟩ := gbnd h
        obtain ⟨i43h, e43v⟩ := aldl_sp q_b42 h43
        refine g_lald hF q_b42 i43h dX9_weightOf_229 ?_
        rw [← e43v]
        refine g_l2i hF dX9_weightOf_230 ?_
        cases h
        exact g_ret_i hF rfl rfl dX9_weightOf_231 hR (Nat.zero_le _) (Nat.zero_le _)
      · replace h := gif_f c41 h
        refine g_sipush (v := (9999 : Int32)) hF rfl dX9_weightOf_218 ?_
        refine g_goto (tgt := 231) hF dX9_weightOf_221 (by decide) ?_
        cases h
        exact g_ret_i hF rfl rfl dX9_weightOf_231 hR (Nat.zero_le _) (Nat.zero_le _)
    · replace h := gif_f c38 h
      refine g_iconst (v := (0 : Int32)) hF rfl dX9_weightOf_201 ?_
      refine g_goto (tgt := 231) hF dX9_weightOf_202 (by decide) ?_
      cases h
      exact g_ret_i hF rfl rfl dX9_weightOf_231 hR (Nat.zero_le _) (Nat.zero_le _)
  · replace h := gif_n c29 h
    refine g_iconst (v := (-1 : Int32)) hF rfl dX9_weightOf_8 ?_
    cases h
    exact g_ret_i hF rfl rfl dX9_weightOf_9 hR (Nat.zero_le _) (Nat.zero_le _)
theorem c_X9_weightOf {d : Nat} {T : gT} {M : gM} {m_a0 : Nat} {a0 : Nat} {i1 : Int32} {r : Int32 × gM} (hd : 4 ≤ d) (q0 : T[a0]? = some (9, m_a0)) (h : f_X9_weightOf T M a0 i1 = some (r)) : gRet d yX9_weightOf cX9_weightOf 6 (some .int) 0 0 [.ref a0, .int i1] T M (gSame T (some (.int r.1)) r.2) := by
  refine gRet_of (own := RX9) (by decide) rfl (Nat.le_of_ble_eq_true rfl) (fun Z ad0 hn h0 hF => ?_)
  exact t_X9_weightOf hF hn hd q0 h ⟨rfl, rfl, rfl, rfl⟩
