theorem t_X9_call {Z : gZ} {d mc ms : Nat} {Acc : Option Value → (Nat → Nat) → gT → gM → Prop} {AccX : Nat → (Nat → Nat) → gT → gM → Prop} {ad : Nat → Nat} {T : gT} {M : gM} {m_a0 : Nat} {a0 : Nat} {i1 : Int32} {i2 : Int32} {o : Int32 × gM} (hF : gFix Z cX9_call RX9 "call" (some .int) d mc ms Acc AccX) (hn : Z.2.2.2.2.2.1 = 3) (hd : 8 ≤ d) (q0 : T[a0]? = some (9, m_a0)) (h : f_X9_call T M a0 i1 i2 = some o) (hR : Acc (some (.int o.1)) ad T o.2) : gG Z ad T M 0 0 0 [(0, .ref a0), (1, .int i1), (2, .int i2)] [] := by
  unfold f_X9_call at h
  refine g_aload_n hF 0 rfl rfl dX9_call_0 ?_
  refine g_iconst (v := (0 : Int32)) hF rfl dX9_call_1 ?_
  refine g_put_i hF rfl rfl fl_RX9_59 q0 dX9_call_2 ?_
  refine g_aload_n hF 0 rfl rfl dX9_call_5 ?_
  refine g_iload_n hF 1 rfl rfl dX9_call_6 ?_
  refine g_iload_n hF 2 rfl rfl dX9_call_7 ?_
  obtain ⟨x1, h1, h⟩ := gbnd h
  refine g_callV hF my_X9_isMissing kw_1396 kw_1398 kw_97 gC_9.1 (by decide) q0 (c_X9_isMissing (d := d - 1) (by omega) q0 h1) (by omega) (Nat.zero_le _) (Nat.zero_le _) rfl rfl (Nat.le_of_ble_eq_true rfl) dX9_call_8 (g_sameS ?_)
  refine g_if_eq (tgt := 18) hF dX9_call_11 (by decide) (fun c2 => ?_) (fun c2 => ?_)
  · replace h := gif_t c2 h
    refine g_aload_n hF 0 rfl rfl dX9_call_18 ?_
    refine g_iload_n hF 1 rfl rfl dX9_call_19 ?_
    refine g_iload_n hF 2 rfl rfl dX9_call_20 ?_
    obtain ⟨x3, h3, h⟩ := gbnd h
    refine g_callV hF my_X9_follow kw_1428 kw_1430 kw_100 gC_9.1 (by decide) q0 (c_X9_follow (d := d - 1) (by omega) q0 h3) (by omega) (Nat.zero_le _) (Nat.zero_le _) rfl rfl (Nat.le_of_ble_eq_true rfl) dX9_call_21 (g_sameS ?_)
    cases h
    exact g_ret_i hF rfl rfl dX9_call_24 hR (Nat.zero_le _) (Nat.zero_le _)
  · replace h := gif_f c2 h
    refine g_iconst (v := (0 : Int32)) hF rfl dX9_call_14 ?_
    refine g_goto (tgt := 24) hF dX9_call_15 (by decide) ?_
    cases h
    exact g_ret_i hF rfl rfl dX9_call_24 hR (Nat.zero_le _) (Nat.zero_le _)
theorem c_X9_call {d : Nat} {T : gT} {M : gM} {m_a0 : Nat} {a0 : Nat} {i1 : Int32} {i2 : Int32} {r : Int32 × gM} (hd : 8 ≤ d) (q0 : T[a0]? = some (9, m_a0)) (h : f_X9_call T M a0 i1 i2 = some (r)) : gRet d yX9_call cX9_call 3 (some .int) 0 0 [.ref a0, .int i1, .int i2] T M (gSame T (some (.int r.1)) r.2) := by
  refine gRet_of (own := RX9) (by decide) rfl (Nat.le_of_ble_eq_true rfl) (fun Z ad0 hn h0 hF => ?_)
  exact t_X9_call hF hn hd q0 h ⟨rfl, rfl, rfl, rfl⟩
theorem t_X9_steps {Z : gZ} {d mc ms : Nat} {Acc : Option Value → (Nat → Nat) → gT → gM → Prop} {AccX : Nat → (Nat → Nat) → gT → gM → Prop} {ad : Nat → Nat} {T : gT} {M : gM} {m_a0 : Nat} {a0 : Nat} {i1 : Int32} {i2 : Int32} {o : Int32 × gM} (hF : gFix Z cX9_steps RX9 "steps" (some .int) d mc ms Acc AccX) (hn : Z.2.2.2.2.2.1 = 4) (hd : 8 ≤ d) (q0 : T[a0]? = some (9, m_a0)) (h : f_X9_steps T M a0 i1 i2 = some o) (hR : Acc (some (.int o.1)) ad T o.2) : gG Z ad T M 0 0 0 [(0, .ref a0), (1, .int i1), (2, .int i2)] [] := by
  unfold f_X9_steps at h
  refine g_aload_n hF 0 rfl rfl dX9_steps_0 ?_
  refine g_iconst (v := (0 : Int32)) hF rfl dX9_steps_1 ?_
  refine g_put_i hF rfl rfl fl_RX9_59 q0 dX9_steps_2 ?_
  refine g_aload_n hF 0 rfl rfl dX9_steps_5 ?_
  refine g_iload_n hF 1 rfl rfl dX9_steps_6 ?_
  refine g_iload_n hF 2 rfl rfl dX9_steps_7 ?_
  obtain ⟨x1, h1, h⟩ := gbnd h
  refine g_callV hF my_X9_isMissing kw_1396 kw_1398 kw_97 gC_9.1 (by decide) q0 (c_X9_isMissing (d := d - 1) (by omega) q0 h1) (by omega) (Nat.zero_le _) (Nat.zero_le _) rfl rfl (Nat.le_of_ble_eq_true rfl) dX9_steps_8 (g_sameS ?_)
  refine g_if_eq (tgt := 16) hF dX9_steps_11 (by decide) (fun c2 => ?_) (fun c2 => ?_)
  · replace h := gif_t c2 h
    refine g_aload_n hF 0 rfl rfl dX9_steps_16 ?_
    refine g_iload_n hF 1 rfl rfl dX9_steps_17 ?_
    refine g_iload_n hF 2 rfl rfl dX9_steps_18 ?_
    obtain ⟨x3, h3, h⟩ := gbnd h
    refine g_callV hF my_X9_follow kw_1428 kw_1430 kw_100 gC_9.1 (by decide) q0 (c_X9_follow (d := d - 1) (by omega) q0 h3) (by omega) (Nat.zero_le _) (Nat.zero_le _) rfl rfl (Nat.le_of_ble_eq_true rfl) dX9_steps_19 (g_sameS ?_)
    refine g_istore_n (ls' := [(3, .int x3.1), (0, .ref a0), (1, .int i1), (2, .int i2)]) hF rfl (by rw [hn]; decide) rfl dX9_steps_22 ?_
    refine g_aload_n hF 1 rfl rfl dX9_steps_23 ?_
    refine g_get_i hF fl_RX9_274 q0 dX9_steps_24 ?_
    cases h
    exact g_ret_i hF rfl rfl dX9_steps_27 hR (Nat.zero_le _) (Nat.zero_le _)
  · replace h := gif_f c2 h
    refine g_iconst (v := (0 : Int32)) hF rfl dX9_steps_14 ?_
    cases h
    exact g_ret_i hF rfl rfl dX9_steps_15 hR (Nat.zero_le _) (Nat.zero_le _)
theorem c_X9_steps {d : Nat} {T : gT} {M : gM} {m_a0 : Nat} {a0 : Nat} {i1 : Int32} {i2 : Int32} {r : Int32 × gM} (hd : 8 ≤ d) (q0 : T[a0]? = some (9, m_a0)) (h : f_X9_steps T M a0 i1 i2 = some (r)) : gRet d yX9_steps cX9_steps 4 (some .int) 0 0 [.ref a0, .int i1, .int i2] T M (gSame T (some (.int r.1)) r.2) := by
  refine gRet_of (own := RX9) (by decide) rfl (Nat.le_of_ble_eq_true rfl) (fun Z ad0 hn h0 hF => ?_)
  exact t_X9_steps hF hn hd q0 h ⟨rfl, rfl, rfl, rfl⟩
theorem t_X9_users_60 {Z : gZ} {d mc ms : Nat} {Acc : Option Value → (Nat → Nat) → gT → gM → Prop} {AccX : Nat → (Nat → Nat) → gT → gM → Prop} {ad : Nat → Nat} {T : gT} {M : gM} {m_a0 : Nat} {a0 : Nat} {i1 : Int32} {i2 : Int32} {i4 : Int32} {k0 : Int32} {k1 : Int32} {o : (Int32) ⊕ (Int32 × Int32)} (hF : gFix Z cX9_users RX9 "users" (some .int) d mc ms Acc AccX) (hn : Z.2.2.2.2.2.1 = 5) (hd : 8 ≤ d) (q0 : T[a0]? = some (9, m_a0)) (h : f_X9_users_60 T M a0 i1 i2 i4 k0 k1 = some o) (hE : ∀ e9, o = .inl e9 → gG Z ad T M 0 0 68 [(3, .int e9)] []) (hN : ∀ n9, o = .inr n9 → gG Z ad T M 0 0 21 [(0, .ref a0), (1, .int i1), (2, .int i2), (3, .int n9.1), (4, .int n9.2)] []) : gG Z ad T M 0 0 60 [(0, .ref a0), (1, .int i1), (2, .int i2), (4, .int i4)] [.int k1, .int k0] := by
  unfold f_X9_users_60 at h
  refine g_iadd hF dX9_users_60 ?_
  refine g_istore_n (ls' := [(3, .int (k0 + k1)), (0, .ref a0), (1, .int i1), (2, .int i2), (4, .int i4)]) hF rfl (by rw [hn]; decide) rfl dX9_users_61 ?_
  refine g_iinc (n := 1) (v := (i4 + (1 : Int32))) (ls' := [(4, .int (i4 + (1 : Int32))), (3, .int (k0 + k1)), (0, .ref a0), (1, .int i1), (2, .int i2)]) hF 4 rfl rfl (by rw [hn]; decide) rfl dX9_users_62 ?_
  refine g_goto (tgt := 21) hF dX9_users_65 (by decide) ?_
  exact gG_sub [2, 3, 4, 1, 0] rfl (hN _ (Option.some.inj h).symm)
theorem t_X9_users_59 {Z : gZ} {d mc ms : Nat} {Acc : Option Value → (Nat → Nat) → gT → gM → Prop} {AccX : Nat → (Nat → Nat) → gT → gM → Prop} {ad : Nat → Nat} {T : gT} {M : gM} {m_a0 : Nat} {a0 : Nat} {i1 : Int32} {i2 : Int32} {i4 : Int32} {k0 : Int32} {o : (Int32) ⊕ (Int32 × Int32)} (hF : gFix Z cX9_users RX9 "users" (some .int) d mc ms Acc AccX) (hn : Z.2.2.2.2.2.1 = 5) (hd : 8 ≤ d) (q0 : T[a0]? = some (9, m_a0)) (h : f_X9_users_59 T M a0 i1 i2 i4 k0 = some o) (hE : ∀ e9, o = .inl e9 → gG Z ad T M 0 0 68 [(3, .int e9)] []) (hN : ∀ n9, o = .inr n9 → gG Z ad T M 0 0 21 [(0, .ref a0), (1, .int i1), (2, .int i2), (3, .int n9.1), (4, .int n9.2)] []) : gG Z ad T M 0 0 59 [(0, .ref a0), (1, .int i1), (2, .int i2), (4, .int i4)] [.int k0] := by
  unfold f_X9_users_59 at h
  refine g_iconst (v := (0 : Int32)) hF rfl dX9_users_59 ?_
  exact gG_sub [0, 1, 2, 3] rfl (t_X9_users_60 hF hn hd q0 h hE hN)
theorem t_X9_users_B21 {Z : gZ} {d mc ms : Nat} {Acc : Option Value → (Nat → Nat) → gT → gM → Prop} {AccX : Nat → (Nat → Nat) → gT → gM → Prop} {ad : Nat → Nat} {T : gT} {M : gM} {m_a0 : Nat} {a0 : Nat} {i1 : Int32} {i2 : Int32} {i3 : Int32} {i4 : Int32} {o : (Int32) ⊕ (Int32 × Int32)} (hF : gFix Z cX9_users RX9 "users" (some .int) d mc ms Acc AccX) (hn : Z.2.2.2.2.2.1 = 5) (hd : 8 ≤ d) (q0 : T[a0]? = some (9, m_a0)) (h : f_X9_users_B21 T M a0 i1 i2 i3 i4 = some o) (hE : ∀ e9, o = .inl e9 → gG Z ad T M 0 0 68 [(3, .int e9)] []) (hN : ∀ n9, o = .inr n9 → gG Z ad T M 0 0 21 [(0, .ref a0), (1, .int i1), (2, .int i2), (3, .int n9.1), (4, .int n9.2)] []) : gG Z ad T M 0 0 21 [(0, .ref a0), (1, .int i1), (2, .int i2), (3, .int i3), (4, .int i4)] [] := by
  unfold f_X9_users_B21 at h
  refine g_iload hF 4 rfl dX9_users_21 ?_
  refine g_aload_n hF 0 rfl rfl dX9_users_23 ?_
  obtain ⟨b1, h1, h⟩ := gbnd h
  obtain ⟨g1, l1, q_b1⟩ := ldr_sp h1
  refine g_get_r hF g1 fl_RX9_17 q0 dX9_users_24 ?_
  refine g_iconst (v := (1 : Int32)) hF rfl dX9_users_27 ?_
  obtain ⟨v2, h2, h⟩ := gbnd h
  obtain ⟨i2h, e2v⟩ := ald_sp q_b1 h2
  refine g_iald hF q_b1 i2h dX9_users_28 ?_
  rw [← e2v]
  refine g_icmp_ge (tgt := 68) hF dX9_users_29 (by decide) (fun c3 => ?_) (fun c3 => ?_)
  · replace h := gif_t c3 h
    exact gG_sub [3] rfl (hE _ (Option.some.inj h).symm)
  · replace h := gif_f c3 h
    refine g_iload_n hF 3 rfl rfl dX9_users_32 ?_
    refine g_aload_n hF 0 rfl rfl dX9_users_33 ?_
    refine g_iload hF 4 rfl dX9_users_34 ?_
    obtain ⟨x4, h4, h⟩ := gbnd h
    refine g_callV hF my_X9_isLoaded kw_1343 kw_1345 kw_90 gC_9.1 (by decide) q0 (c_X9_isLoaded (d := d - 1) (by omega) q0 h4) (by omega) (Nat.zero_le _) (Nat.zero_le _) rfl rfl (Nat.le_of_ble_eq_true rfl) dX9_users_36 (g_sameS ?_)
    refine g_if_eq (tgt := 59) hF dX9_users_39 (by decide) (fun c5 => ?_) (fun c5 => ?_)
    · replace h := gif_t c5 h
      exact gG_sub [0, 1, 2, 4] rfl (t_X9_users_59 hF hn hd q0 h hE hN)
    · replace h := gif_f c5 h
      refine g_aload_n hF 0 rfl rfl dX9_users_42 ?_
      obtain ⟨b6, h6, h⟩ := gbnd h
      obtain ⟨g6, l6, q_b6⟩ := ldr_sp h6
      refine g_get_r hF g6 fl_RX9_50 q0 dX9_users_43 ?_
      refine g_iload hF 4 rfl dX9_users_46 ?_
      obtain ⟨b7, h7, h⟩ := gbnd h
      obtain ⟨i7h, g7, l7, q_b7⟩ := aldr_sp q_b6 h7
      refine g_aald2 hF q_b6 i7h g7 dX9_users_48 ?_
      refine g_iload_n hF 2 rfl rfl dX9_users_49 ?_
      obtain ⟨v8, h8, h⟩ := gbnd h
      obtain ⟨i8h, e8v⟩ := ald_sp q_b7 h8
      refine g_iald hF q_b7 i8h dX9_users_50 ?_
      rw [← e8v]
      refine g_iload_n hF 1 rfl rfl dX9_users_51 ?_
      refine g_icmp_ne (tgt := 59) hF dX9_users_52 (by decide) (fun c9 => ?_) (fun c9 => ?_)
      · replace h := gif_t c9 h
        exact gG_sub [0, 1, 2, 4] rfl (t_X9_users_59 hF hn hd q0 h hE hN)
      · replace h := gif_n c9 h
        refine g_iconst (v := (1 : Int32)) hF rfl dX9_users_55 ?_
        refine g_goto (tgt := 60) hF dX9_users_56 (by decide) ?_
        exact gG_sub [0, 1, 2, 4] rfl (t_X9_users_60 hF hn hd q0 h hE hN)
theorem t_X9_users_L21 {Z : gZ} {d mc ms : Nat} {Acc : Option Value → (Nat → Nat) → gT → gM → Prop} {AccX : Nat → (Nat → Nat) → gT → gM → Prop} {ad : Nat → Nat} {T : gT} {M : gM} {m_a0 : Nat} {a0 : Nat} {i1 : Int32} {i2 : Int32} {i3 : Int32} {i4 : Int32} {o : Int32} (hF : gFix Z cX9_users RX9 "users" (some .int) d mc ms Acc AccX) (hn : Z.2.2.2.2.2.1 = 5) (hd : 8 ≤ d) (q0 : T[a0]? = some (9, m_a0)) (h : gloop (fun x => f_X9_users_B21 T M a0 i1 i2 x.1 x.2) gFU (i3, i4) = some o) (hE : gG Z ad T M 0 0 68 [(3, .int o)] []) : gG Z ad T M 0 0 21 [(0, .ref a0), (1, .int i1), (2, .int i2), (3, .int i3), (4, .int i4)] [] := by
  refine gloop_ind (P := fun x0 : Int32 × Int32 => gG Z ad T M 0 0 21 [(0, .ref a0), (1, .int i1), (2, .int i2), (3, .int x0.1), (4, .int x0.2)] []) (e := o) (fun x0 y hy hl hr => ?_) gFU (i3, i4) h
  exact t_X9_users_B21 hF hn hd q0 hy (fun e9 q9 => by rw [hl _ q9]; exact hE) (fun n9 q9 => hr n9 q9)
theorem t_X9_users {Z : gZ} {d mc ms : Nat} {Acc : Option Value → (Nat → Nat) → gT → gM → Prop} {AccX : Nat → (Nat → Nat) → gT → gM → Prop} {ad : Nat → Nat} {T : gT} {M : gM} {m_a0 : Nat} {a0 : Nat} {i1 : Int32} {i2 : Int32} {o : Int32 × gM} (hF : gFix Z cX9_users RX9 "users" (some .int) d mc ms Acc AccX) (hn : Z.2.2.2.2.2.1 = 5) (hd : 8 ≤ d) (q0 : T[a0]? = some (9, m_a0)) (h : f_X9_users T M a0 i1 i2 = some o) (hR : Acc (some (.int o.1)) ad T o.2) : gG Z ad T M 0 0 0 [(0, .ref a0), (1, .int i1), (2, .int i2)] [] := by
  unfold f_X9_users at h
  refine g_aload_n hF 0 rfl rfl dX9_users_0 ?_
  refine g_iconst (v := (0 : Int32)) hF rfl dX9_users_1 ?_
  refine g_put_i hF rfl rfl fl_RX9_59 q0 dX9_users_2 ?_
  refine g_aload_n hF 0 rfl rfl dX9_users_5 ?_
  refine g_iload_n hF 1 rfl rfl dX9_users_6 ?_
  refine g_iload_n hF 2 rfl rfl dX9_users_7 ?_
  obtain ⟨x10, h10, h⟩ := gbnd h
  refine g_callV hF my_X9_isMissing kw_1396 kw_1398 kw_97 gC_9.1 (by decide) q0 (c_X9_isMissing (d := d - 1) (by omega) q0 h10) (by omega) (Nat.zero_le _) (Nat.zero_le _) rfl rfl (Nat.le_of_ble_eq_true rfl) dX9_users_8 (g_sameS ?_)
  refine g_if_eq (tgt := 16) hF dX9_users_11 (by decide) (fun c11 => ?_) (fun c11 => ?_)
  · replace h := gif_t c11 h
    refine g_iconst (v := (0 : Int32)) hF rfl dX9_users_16 ?_
    refine g_istore_n (ls' := [(3, .int (0 : Int32)), (0, .ref a0), (1, .int i1), (2, .int i2)]) hF rfl (by rw [hn]; decide) rfl dX9_users_17 ?_
    refine g_iconst (v := (0 : Int32)) hF rfl dX9_users_18 ?_
    refine g_istore (ls' := [(4, .int (0 : Int32)), (3, .int (0 : Int32)), (0, .ref a0), (1, .int i1), (2, .int i2)]) hF (by rw [hn]; decide) rfl dX9_users_19 ?_
    obtain ⟨x12, h12, h⟩ := gbnd h
    refine gG_sub [2, 3, 4, 1, 0] rfl (t_X9_users_L21 hF hn hd q0 h12 ?_)
    refine g_iload_n hF 0 rfl rfl dX9_users_68 ?_
    cases h
    exact g_ret_i hF rfl rfl dX9_users_69 hR (Nat.zero_le _) (Nat.zero_le _)
  · replace h := gif_f c11 h
    refine g_iconst (v := (0 : Int32)) hF rfl dX9_users_14 ?_
    cases h
    exact g_ret_i hF rfl rfl dX9_users_15 hR (Nat.zero_le _) (Nat.zero_le _)
theorem c_X9_users {d : Nat} {T : gT} {M : gM} {m_a0 : Nat} {a0 : Nat} {i1 : Int32} {i2 : Int32} {r : Int32 × gM} (hd : 8 ≤ d) (q0 : T[a0]? = some (9, m_a0)) (h : f_X9_users T M a0 i1 i2 = some (r)) : gRet d yX9_users cX9_users 5 (some .int) 0 0 [.ref a0, .int i1, .int i2] T M (gSame T (some (.int r.1)) r.2) := by
  refine gRet_of (own := RX9) (by decide) rfl (Nat.le_of_ble_eq_true rfl) (fun Z ad0 hn h0 hF => ?_)
  exact t_X9_users hF hn hd q0 h ⟨rfl, rfl, rfl, rfl⟩
theorem t_X9_unload_27 {Z : gZ} {d mc ms : Nat} {Acc : Option Value → (Nat → Nat) → gT → gM → Prop} {AccX : Nat → (Nat → Nat) → gT → gM → Prop} {ad : Nat → Nat} {T : gT} {M : gM} {m_a0 m_b0 : Nat} {a0 : Nat} {i1 : Int32} {b0 : Nat} {k1 : Int32} {o : Int32 × gM} (hF : gFix Z cX9_unload RX9 "unload" (some .int) d mc ms Acc AccX) (hn : Z.2.2.2.2.2.1 = 2) (hd : 8 ≤ d) (q0 : T[a0]? = some (9, m_a0)) (p0 : T[b0]? = some (9, m_b0)) (h : f_X9_unload_27 T M a0 i1 b0 k1 = some o) (hR : Acc (some (.int o.1)) ad T o.2) : gG Z ad T M 0 0 27 [(0, .ref a0), (1, .int i1)] [.int k1, .ref b0] := by
  unfold f_X9_unload_27 at h
  refine g_iconst (v := (2 : Int32)) hF rfl dX9_unload_27 ?_
  obtain ⟨x1, h1, h⟩ := gbnd h
  refine g_callV hF my_X9_fails kw_1186 kw_1188 kw_64 gC_9.1 (by decide) p0 (c_X9_fails (d := d - 1) (by omega) p0 h1) (by omega) (Nat.zero_le _) (Nat.zero_le _) rfl rfl (Nat.le_of_ble_eq_true rfl) dX9_unload_28 (g_sameS ?_)
  refine g_if_eq (tgt := 36) hF dX9_unload_31 (by decide) (fun c2 => ?_) (fun c2 => ?_)
  · replace h := gif_t c2 h
    refine g_aload_n hF 0 rfl rfl dX9_unload_36 ?_
    obtain ⟨x3, h3, h⟩ := gbnd h
    refine g_callV hF my_X9_remember kw_1304 kw_1306 kw_86 gC_9.1 (by decide) q0 (c_X9_remember (d := d - 1) (by omega) q0 h3) (by omega) (Nat.zero_le _) (Nat.zero_le _) rfl rfl (Nat.le_of_ble_eq_true rfl) dX9_unload_37 (g_sameN ?_)
    refine g_aload_n hF 0 rfl rfl dX9_unload_40 ?_
    obtain ⟨x4, h4, h⟩ := gbnd h
    refine g_callV hF my_X9_keepBindings kw_1444 kw_1446 kw_101 gC_9.1 (by decide) q0 (c_X9_keepBindings (d := d - 1) (by omega) q0 h4) (by omega) (Nat.zero_le _) (Nat.zero_le _) rfl rfl (Nat.le_of_ble_eq_true rfl) dX9_unload_41 (g_sameN ?_)
    refine g_aload_n hF 0 rfl rfl dX9_unload_44 ?_
    obtain ⟨b5, h5, h⟩ := gbnd h
    obtain ⟨g5, l5, q_b5⟩ := ldr_sp h5
    refine g_get_r hF g5 fl_RX9_17 q0 dX9_unload_45 ?_
    refine g_iload_n hF 1 rfl rfl dX9_unload_48 ?_
    obtain ⟨x6, h6, h⟩ := gbnd h
    refine g_callS hF my_X9_at kw_1244 kw_1245 (c_X9_at (d := d - 1) (by omega)  h6) (by omega) (Nat.zero_le _) (Nat.zero_le _) rfl rfl (Nat.le_of_ble_eq_true rfl) dX9_unload_49 (g_sameS ?_)
    refine g_iconst (v := (2 : Int32)) hF rfl dX9_unload_52 ?_
    refine g_iadd hF dX9_unload_53 ?_
    refine g_iconst (v := (0 : Int32)) hF rfl dX9_unload_54 ?_
    obtain ⟨M7, h7, h⟩ := gbnd h
    obtain ⟨i7h, e7v⟩ := ast_sp q_b5 h7
    refine g_iast hF q_b5 i7h dX9_unload_55 ?_
    rw [← e7v]
    refine g_aload_n hF 0 rfl rfl dX9_unload_56 ?_
    refine g_iconst (v := (-1 : Int32)) hF rfl dX9_unload_57 ?_
    obtain ⟨x8, h8, h⟩ := gbnd h
    refine g_callV hF my_X9_changedBut kw_1448 kw_1450 kw_102 gC_9.1 (by decide) q0 (c_X9_changedBut (d := d - 1) (by omega) q0 h8) (by omega) (Nat.zero_le _) (Nat.zero_le _) rfl rfl (Nat.le_of_ble_eq_true rfl) dX9_unload_58 (g_sameS ?_)
    cases h
    exact g_ret_i hF rfl rfl dX9_unload_61 hR (Nat.zero_le _) (Nat.zero_le _)
  · replace h := gif_f c2 h
    refine g_iconst (v := (0 : Int32)) hF rfl dX9_unload_34 ?_
    cases h
    exact g_ret_i hF rfl rfl dX9_unload_35 hR (Nat.zero_le _) (Nat.zero_le _)
theorem t_X9_unload {Z : gZ} {d mc ms : Nat} {Acc : Option Value → (Nat → Nat) → gT → gM → Prop} {AccX : Nat → (Nat → Nat) → gT → gM → Prop} {ad : Nat → Nat} {T : gT} {M : gM} {m_a0 : Nat} {a0 : Nat} {i1 : Int32} {o : Int32 × gM} (hF : gFix Z cX9_unload RX9 "unload" (some .int) d mc ms Acc AccX) (hn : Z.2.2.2.2.2.1 = 2) (hd : 8 ≤ d) (q0 : T[a0]? = some (9, m_a0)) (h : f_X9_unload T M a0 i1 = some o) (hR : Acc (some (.int o.1)) ad T o.2) : gG Z ad T M 0 0 0 [(0, .ref a0), (1, .int i1)] [] := by
  unfold f_X9_unload at h
  refine g_aload_n hF 0 rfl rfl dX9_unload_0 ?_
  refine g_iconst (v := (0 : Int32)) hF rfl dX9_unload_1 ?_
  refine g_put_i hF rfl rfl fl_RX9_59 q0 dX9_unload_2 ?_
  refine g_aload_n hF 0 rfl rfl dX9_unload_5 ?_
  refine g_iload_n hF 1 rfl rfl dX9_unload_6 ?_
  obtain ⟨x9, h9, h⟩ := gbnd h
  refine g_callV hF my_X9_noLibrary kw_1331 kw_1333 kw_87 gC_9.1 (by decide) q0 (c_X9_noLibrary (d := d - 1) (by omega) q0 h9) (by omega) (Nat.zero_le _) (Nat.zero_le _) rfl rfl (Nat.le_of_ble_eq_true rfl) dX9_unload_7 (g_sameS ?_)
  refine g_if_ne (tgt := 34) hF dX9_unload_10 (by decide) (fun c10 => ?_) (fun c10 => ?_)
  · replace h := gif_t c10 h
    refine g_iconst (v := (0 : Int32)) hF rfl dX9_unload_34 ?_
    cases h
    exact g_ret_i hF rfl rfl dX9_unload_35 hR (Nat.zero_le _) (Nat.zero_le _)
  · replace h := gif_n c10 h
    refine g_aload_n hF 0 rfl rfl dX9_unload_13 ?_
    refine g_aload_n hF 0 rfl rfl dX9_unload_14 ?_
    refine g_iload_n hF 1 rfl rfl dX9_unload_15 ?_
    obtain ⟨x11, h11, h⟩ := gbnd h
    refine g_callV hF my_X9_isLoaded kw_1343 kw_1345 kw_90 gC_9.1 (by decide) q0 (c_X9_isLoaded (d := d - 1) (by omega) q0 h11) (by omega) (Nat.zero_le _) (Nat.zero_le _) rfl rfl (Nat.le_of_ble_eq_true rfl) dX9_unload_16 (g_sameS ?_)
    refine g_if_ne (tgt := 26) hF dX9_unload_19 (by decide) (fun c12 => ?_) (fun c12 => ?_)
    · replace h := gif_t c12 h
      refine g_iconst (v := (0 : Int32)) hF rfl dX9_unload_26 ?_
      exact gG_sub [0, 1] rfl (t_X9_unload_27 hF hn hd q0 q0 h hR)
    · replace h := gif_n c12 h
      refine g_iconst (v := (1 : Int32)) hF rfl dX9_unload_22 ?_
      refine g_goto (tgt := 27) hF dX9_unload_23 (by decide) ?_
      exact gG_sub [0, 1] rfl (t_X9_unload_27 hF hn hd q0 q0 h hR)
theorem c_X9_unload {d : Nat} {T : gT} {M : gM} {m_a0 : Nat} {a0 : Nat} {i1 : Int32} {r : Int32 × gM} (hd : 8 ≤ d) (q0 : T[a0]? = some (9, m_a0)) (h : f_X9_unload T M a0 i1 = some (r)) : gRet d yX9_unload cX9_unload 2 (some .int) 0 0 [.ref a0, .int i1] T M (gSame T (some (.int r.1)) r.2) := by
  refine gRet_of (own := RX9) (by decide) rfl (Nat.le_of_ble_eq_true rfl) (fun Z ad0 hn h0 hF => ?_)
  exact t_X9_unload hF hn hd q0 h ⟨rfl, rfl, rfl, rfl⟩
theorem t_X9_reload {Z : gZ} {d mc ms : Nat} {Acc : Option Value → (Nat → Nat) → gT → gM → Prop} {AccX : Nat → (Nat → Nat) → gT → gM → Prop} {ad : Nat → Nat} {T : gT} {M : gM} {m_a0 : Nat} {a0 : Nat} {i1 : Int32} {o : Int32 × gM} (hF : gFix Z cX9_reload RX9 "reload" (some .int) d mc ms Acc AccX) (hn : Z.2.2.2.2.2.1 = 2) (hd : 8 ≤ d) (q0 : T[a0]? = some (9, m_a0)) (h : f_X9_reload T M a0 i1 = some o) (hR : Acc (some (.int o.1)) ad T o.2) : gG Z ad T M 0 0 0 [(0, .ref a0), (1, .int i1)] [] := by
  unfold f_X9_reload at h
  refine g_aload_n hF 0 rfl rfl dX9_reload_0 ?_
  refine g_iconst (v := (0 : Int32)) hF rfl dX9_reload_1 ?_
  refine g_put_i hF rfl rfl fl_RX9_59 q0 dX9_reload_2 ?_
  refine g_aload_n hF 0 rfl rfl dX9_reload_5 ?_
  refine g_iload_n hF 1 rfl rfl dX9_reload_6 ?_
  obtain ⟨x1, h1, h⟩ := gbnd h
  refine g_callV hF my_X9_noLibrary kw_1331 kw_1333 kw_87 gC_9.1 (by decide) q0 (c_X9_noLibrary (d := d - 1) (by omega) q0 h1) (by omega) (Nat.zero_le _) (Nat.zero_le _) rfl rfl (Nat.le_of_ble_eq_true rfl) dX9_reload_7 (g_sameS ?_)
  refine g_if_ne (tgt := 26) hF dX9_reload_10 (by decide) (fun c2 => ?_) (fun c2 => ?_)
  · replace h := gif_t c2 h
    refine g_iconst (v := (0 : Int32)) hF rfl dX9_reload_26 ?_
    cases h
    exact g_ret_i hF rfl rfl dX9_reload_27 hR (Nat.zero_le _) (Nat.zero_le _)
  · replace h := gif_n c2 h
    refine g_aload_n hF 0 rfl rfl dX9_reload_13 ?_
    refine g_aload_n hF 0 rfl rfl dX9_reload_14 ?_
    refine g_iload_n hF 1 rfl rfl dX9_reload_15 ?_
    obtain ⟨x3, h3, h⟩ := gbnd h
    refine g_callV hF my_X9_isLoaded kw_1343 kw_1345 kw_90 gC_9.1 (by decide) q0 (c_X9_isLoaded (d := d - 1) (by omega) q0 h3) (by omega) (Nat.zero_le _) (Nat.zero_le _) rfl rfl (Nat.le_of_ble_eq_true rfl) dX9_reload_16 (g_sameS ?_)
    refine g_iconst (v := (2 : Int32)) hF rfl dX9_reload_19 ?_
    obtain ⟨x4, h4, h⟩ := gbnd h
    refine g_callV hF my_X9_fails kw_1186 kw_1188 kw_64 gC_9.1 (by decide) q0 (c_X9_fails (d := d - 1) (by omega) q0 h4) (by omega) (Nat.zero_le _) (Nat.zero_le _) rfl rfl (Nat.le_of_ble_eq_true rfl) dX9_reload_20 (g_sameS ?_)
    refine g_if_eq (tgt := 28) hF dX9_reload_23 (by decide) (fun c5 => ?_) (fun c5 => ?_)
    · replace h := gif_t c5 h
      refine g_aload_n hF 0 rfl rfl dX9_reload_28 ?_
      obtain ⟨x6, h6, h⟩ := gbnd h
      refine g_callV hF my_X9_remember kw_1304 kw_1306 kw_86 gC_9.1 (by decide) q0 (c_X9_remember (d := d - 1) (by omega) q0 h6) (by omega) (Nat.zero_le _) (Nat.zero_le _) rfl rfl (Nat.le_of_ble_eq_true rfl) dX9_reload_29 (g_sameN ?_)
      refine g_aload_n hF 0 rfl rfl dX9_reload_32 ?_
      obtain ⟨x7, h7, h⟩ := gbnd h
      refine g_callV hF my_X9_keepBindings kw_1444 kw_1446 kw_101 gC_9.1 (by decide) q0 (c_X9_keepBindings (d := d - 1) (by omega) q0 h7) (by omega) (Nat.zero_le _) (Nat.zero_le _) rfl rfl (Nat.le_of_ble_eq_true rfl) dX9_reload_33 (g_sameN ?_)
      refine g_aload_n hF 0 rfl rfl dX9_reload_36 ?_
      obtain ⟨b8, h8, h⟩ := gbnd h
      obtain ⟨g8, l8, q_b8⟩ := ldr_sp h8
      refine g_get_r hF g8 fl_RX9_17 q0 dX9_reload_37 ?_
      refine g_iconst (v := (3 : Int32)) hF rfl dX9_reload_40 ?_
      refine g_dup2 hF rfl rfl dX9_reload_41 ?_
      obtain ⟨v9, h9, h⟩ := gbnd h
      obtain ⟨i9h, e9v⟩ := ald_sp q_b8 h9
      refine g_iald hF q_b8 i9h dX9_reload_42 ?_
      rw [← e9v]
      refine g_iconst (v := (1 : Int32)) hF rfl dX9_reload_43 ?_
      refine g_iadd hF dX9_reload_44 ?_
      obtain ⟨M10, h10, h⟩ := gbnd h
      obtain ⟨i10h, e10v⟩ := ast_sp q_b8 h10
      refine g_iast hF q_b8 i10h dX9_reload_45 ?_
      rw [← e10v]
      refine g_aload_n hF 0 rfl rfl dX9_reload_46 ?_
      obtain ⟨b11, h11, h⟩ := gbnd h
      obtain ⟨g11, l11, q_b11⟩ := ldr_sp h11
      refine g_get_r hF g11 fl_RX9_17 q0 dX9_reload_47 ?_
      refine g_iload_n hF 1 rfl rfl dX9_reload_50 ?_
      obtain ⟨x12, h12, h⟩ := gbnd h
      refine g_callS hF my_X9_at kw_1244 kw_1245 (c_X9_at (d := d - 1) (by omega)  h12) (by omega) (Nat.zero_le _) (Nat.zero_le _) rfl rfl (Nat.le_of_ble_eq_true rfl) dX9_reload_51 (g_sameS ?_)
      refine g_iconst (v := (2 : Int32)) hF rfl dX9_reload_54 ?_
      refine g_iadd hF dX9_reload_55 ?_
      refine g_aload_n hF 0 rfl rfl dX9_reload_56 ?_
      obtain ⟨b13, h13, h⟩ := gbnd h
      obtain ⟨g13, l13, q_b13⟩ := ldr_sp h13
      refine g_get_r hF g13 fl_RX9_17 q0 dX9_reload_57 ?_
      refine g_iconst (v := (3 : Int32)) hF rfl dX9_reload_60 ?_
      obtain ⟨v14, h14, h⟩ := gbnd h
      obtain ⟨i14h, e14v⟩ := ald_sp q_b13 h14
      refine g_iald hF q_b13 i14h dX9_reload_61 ?_
      rw [← e14v]
      obtain ⟨M15, h15, h⟩ := gbnd h
      obtain ⟨i15h, e15v⟩ := ast_sp q_b11 h15
      refine g_iast hF q_b11 i15h dX9_reload_62 ?_
      rw [← e15v]
      refine g_aload_n hF 0 rfl rfl dX9_reload_63 ?_
      refine g_iload_n hF 1 rfl rfl dX9_reload_64 ?_
      obtain ⟨x16, h16, h⟩ := gbnd h
      refine g_callV hF my_X9_changedBut kw_1448 kw_1450 kw_102 gC_9.1 (by decide) q0 (c_X9_changedBut (d := d - 1) (by omega) q0 h16) (by omega) (Nat.zero_le _) (Nat.zero_le _) rfl rfl (Nat.le_of_ble_eq_true rfl) dX9_reload_65 (g_sameS ?_)
      cases h
      exact g_ret_i hF rfl rfl dX9_reload_68 hR (Nat.zero_le _) (Nat.zero_le _)
    · replace h := gif_f c5 h
      refine g_iconst (v := (0 : Int32)) hF rfl dX9_reload_26 ?_
      cases h
      exact g_ret_i hF rfl rfl dX9_reload_27 hR (Nat.zero_le _) (Nat.zero_le _)
theorem c_X9_reload {d : Nat} {T : gT} {M : gM} {m_a0 : Nat} {a0 : Nat} {i1 : Int32} {r : Int32 × gM} (hd : 8 ≤ d) (q0 : T[a0]? = some (9, m_a0)) (h : f_X9_reload T M a0 i1 = some (r)) : gRet d yX9_reload cX9_reload 2 (some .int) 0 0 [.ref a0, .int i1] T M (gSame T (some (.int r.1)) r.2) := by
  refine gRet_of (own := RX9) (by decide) rfl (Nat.le_of_ble_eq_true rfl) (fun Z ad0 hn h0 hF => ?_)
  exact t_X9_reload hF hn hd q0 h ⟨rfl, rfl, rfl, rfl⟩
theorem t_X9_put {Z : gZ} {d mc ms : Nat} {Acc : Option Value → (Nat → Nat) → gT → gM → Prop} {AccX : Nat → (Nat → Nat) → gT → gM → Prop} {ad : Nat → Nat} {T : gT} {M : gM} {m_a0 : Nat} {a0 : Nat} {i1 : Int32} {i2 : Int32} {i3 : Int32} {o : Int32 × gM} (hF : gFix Z cX9_put RX9 "put" (some .int) d mc ms Acc AccX) (hn : Z.2.2.2.2.2.1 = 4) (hd : 7 ≤ d) (q0 : T[a0]? = some (9, m_a0)) (h : f_X9_put T M a0 i1 i2 i3 = some o) (hR : Acc (some (.int o.1)) ad T o.2) : gG Z ad T M 0 0 0 [(0, .ref a0), (1, .int i1), (2, .int i2), (3, .int i3)] [] := by
  unfold f_X9_put at h
  refine g_aload_n hF 0 rfl rfl dX9_put_0 ?_
  obtain ⟨x1, h1, h⟩ := gbnd h
  refine g_callV hF my_X9_remember kw_1304 kw_1306 kw_86 gC_9.1 (by decide) q0 (c_X9_remember (d := d - 1) (by omega) q0 h1) (by omega) (Nat.zero_le _) (Nat.zero_le _) rfl rfl (Nat.le_of_ble_eq_true rfl) dX9_put_1 (g_sameN ?_)
  refine g_aload_n hF 0 rfl rfl dX9_put_4 ?_
  obtain ⟨b2, h2, h⟩ := gbnd h
  obtain ⟨g2, l2, q_b2⟩ := ldr_sp h2
  refine g_get_r hF g2 fl_RX9_17 q0 dX9_put_5 ?_
  refine g_iload_n hF 1 rfl rfl dX9_put_8 ?_
  obtain ⟨x3, h3, h⟩ := gbnd h
  refine g_callS hF my_X9_at kw_1244 kw_1245 (c_X9_at (d := d - 1) (by omega)  h3) (by omega) (Nat.zero_le _) (Nat.zero_le _) rfl rfl (Nat.le_of_ble_eq_true rfl) dX9_put_9 (g_sameS ?_)
  refine g_bipush (v := (12 : Int32)) hF rfl dX9_put_12 ?_
  refine g_iadd hF dX9_put_14 ?_
  refine g_iload_n hF 2 rfl rfl dX9_put_15 ?_
  refine g_iadd hF dX9_put_16 ?_
  refine g_iload_n hF 3 rfl rfl dX9_put_17 ?_
  obtain ⟨M4, h4, h⟩ := gbnd h
  obtain ⟨i4h, e4v⟩ := ast_sp q_b2 h4
  refine g_iast hF q_b2 i4h dX9_put_18 ?_
  rw [← e4v]
  refine g_aload_n hF 0 rfl rfl dX9_put_19 ?_
  obtain ⟨x5, h5, h⟩ := gbnd h
  refine g_callV hF my_X9_layAll kw_1400 kw_1402 kw_98 gC_9.1 (by decide) q0 (c_X9_layAll (d := d - 1) (by omega) q0 h5) (by omega) (Nat.zero_le _) (Nat.zero_le _) rfl rfl (Nat.le_of_ble_eq_true rfl) dX9_put_20 (g_sameN ?_)
  refine g_aload_n hF 0 rfl rfl dX9_put_23 ?_
  obtain ⟨b6, h6, h⟩ := gbnd h
  obtain ⟨g6, l6, q_b6⟩ := ldr_sp h6
  refine g_get_r hF g6 fl_RX9_44 q0 dX9_put_24 ?_
  refine g_iload_n hF 2 rfl rfl dX9_put_27 ?_
  obtain ⟨v7, h7, h⟩ := gbnd h
  obtain ⟨i7h, e7v⟩ := ald_sp q_b6 h7
  refine g_iald hF q_b6 i7h dX9_put_28 ?_
  rw [← e7v]
  cases h
  exact g_ret_i hF rfl rfl dX9_put_29 hR (Nat.zero_le _) (Nat.zero_le _)
theorem c_X9_put {d : Nat} {T : gT} {M : gM} {m_a0 : Nat} {a0 : Nat} {i1 : Int32} {i2 : Int32} {i3 : Int32} {r : Int32 × gM} (hd : 7 ≤ d) (q0 : T[a0]? = some (9, m_a0)) (h : f_X9_put T M a0 i1 i2 i3 = some (r)) : gRet d yX9_put cX9_put 4 (some .int) 0 0 [.ref a0, .int i1, .int i2, .int i3] T M (gSame T (some (.int r.1)) r.2) := by
  refine gRet_of (own := RX9) (by decide) rfl (Nat.le_of_ble_eq_true rfl) (fun Z ad0 hn h0 hF => ?_)
  exact t_X9_put hF hn hd q0 h ⟨rfl, rfl, rfl, rfl⟩
theorem t_X9_offerValue_45 {Z : gZ} {d mc ms : Nat} {Acc : Option Value → (Nat → Nat) → gT → gM → Prop} {AccX : Nat → (Nat → Nat) → gT → gM → Prop} {ad : Nat → Nat} {T : gT} {M : gM} {o : Int32 × gM} (hF : gFix Z cX9_offerValue RX9 "offerValue" (some .int) d mc ms Acc AccX) (hn : Z.2.2.2.2.2.1 = 4) (hd : 8 ≤ d)  (h : f_X9_offerValue_45 T M  = some o) (hR : Acc (some (.int o.1)) ad T o.2) : gG Z ad T M 0 0 45 [] [] := by
  unfold f_X9_offerValue_45 at h
  refine g_iconst (v := (0 : Int32)) hF rfl dX9_offerValue_45 ?_
  refine g_goto (tgt := 56) hF dX9_offerValue_46 (by decide) ?_
  cases h
  exact g_ret_i hF rfl rfl dX9_offerValue_56 hR (Nat.zero_le _) (Nat.zero_le _)
theorem t_X9_offerValue_38 {Z : gZ} {d mc ms : Nat} {Acc : Option Value → (Nat → Nat) → gT → gM → Prop} {AccX : Nat → (Nat → Nat) → gT → gM → Prop} {ad : Nat → Nat} {T : gT} {M : gM} {m_a0 m_b0 : Nat} {a0 : Nat} {i1 : Int32} {i2 : Int32} {i3 : Int32} {b0 : Nat} {k1 : Int32} {o : Int32 × gM} (hF : gFix Z cX9_offerValue RX9 "offerValue" (some .int) d mc ms Acc AccX) (hn : Z.2.2.2.2.2.1 = 4) (hd : 8 ≤ d) (q0 : T[a0]? = some (9, m_a0)) (p0 : T[b0]? = some (9, m_b0)) (h : f_X9_offerValue_38 T M a0 i1 i2 i3 b0 k1 = some o) (hR : Acc (some (.int o.1)) ad T o.2) : gG Z ad T M 0 0 38 [(0, .ref a0), (1, .int i1), (2, .int i2), (3, .int i3)] [.int k1, .ref b0] := by
  unfold f_X9_offerValue_38 at h
  refine g_iconst (v := (2 : Int32)) hF rfl dX9_offerValue_38 ?_
  obtain ⟨x1, h1, h⟩ := gbnd h
  refine g_callV hF my_X9_fails kw_1186 kw_1188 kw_64 gC_9.1 (by decide) p0 (c_X9_fails (d := d - 1) (by omega) p0 h1) (by omega) (Nat.zero_le _) (Nat.zero_le _) rfl rfl (Nat.le_of_ble_eq_true rfl) dX9_offerValue_39 (g_sameS ?_)
  refine g_if_eq (tgt := 49) hF dX9_offerValue_42 (by decide) (fun c2 => ?_) (fun c2 => ?_)
  · replace h := gif_t c2 h
    refine g_aload_n hF 0 rfl rfl dX9_offerValue_49 ?_
    refine g_iload_n hF 1 rfl rfl dX9_offerValue_50 ?_
    refine g_iload_n hF 2 rfl rfl dX9_offerValue_51 ?_
    refine g_iload_n hF 3 rfl rfl dX9_offerValue_52 ?_
    obtain ⟨x3, h3, h⟩ := gbnd h
    refine g_callV hF my_X9_put kw_1460 kw_1462 kw_103 gC_9.1 (by decide) q0 (c_X9_put (d := d - 1) (by omega) q0 h3) (by omega) (Nat.zero_le _) (Nat.zero_le _) rfl rfl (Nat.le_of_ble_eq_true rfl) dX9_offerValue_53 (g_sameS ?_)
    cases h
    exact g_ret_i hF rfl rfl dX9_offerValue_56 hR (Nat.zero_le _) (Nat.zero_le _)
  · replace h := gif_f c2 h
    exact gG_sub [] rfl (t_X9_offerValue_45 hF hn hd  h hR)
theorem t_X9_offerValue {Z : gZ} {d mc ms : Nat} {Acc : Option Value → (Nat → Nat) → gT → gM → Prop} {AccX : Nat → (Nat → Nat) → gT → gM → Prop} {ad : Nat → Nat} {T : gT} {M : gM} {m_a0 : Nat} {a0 : Nat} {i1 : Int32} {i2 : Int32} {i3 : Int32} {o : Int32 × gM} (hF : gFix Z cX9_offerValue RX9 "offerValue" (some .int) d mc ms Acc AccX) (hn : Z.2.2.2.2.2.1 = 4) (hd : 8 ≤ d) (q0 : T[a0]? = some (9, m_a0)) (h : f_X9_offerValue T M a0 i1 i2 i3 = some o) (hR : Acc (some (.int o.1)) ad T o.2) : gG Z ad T M 0 0 0 [(0, .ref a0), (1, .int i1), (2, .int i2), (3, .int i3)] [] := by
  unfold f_X9_offerValue at h
  refine g_aload_n hF 0 rfl rfl dX9_offerValue_0 ?_
  refine g_iconst (v := (0 : Int32)) hF rfl dX9_offerValue_1 ?_
  refine g_put_i hF rfl rfl fl_RX9_59 q0 dX9_offerValue_2 ?_
  refine g_aload_n hF 0 rfl rfl dX9_offerValue_5 ?_
  refine g_iload_n hF 1 rfl rfl dX9_offerValue_6 ?_
  obtain ⟨x4, h4, h⟩ := gbnd h
  refine g_callV hF my_X9_noLibrary kw_1331 kw_1333 kw_87 gC_9.1 (by decide) q0 (c_X9_noLibrary (d := d - 1) (by omega) q0 h4) (by omega) (Nat.zero_le _) (Nat.zero_le _) rfl rfl (Nat.le_of_ble_eq_true rfl) dX9_offerValue_7 (g_sameS ?_)
  refine g_if_ne (tgt := 45) hF dX9_offerValue_10 (by decide) (fun c5 => ?_) (fun c5 => ?_)
  · replace h := gif_t c5 h
    exact gG_sub [] rfl (t_X9_offerValue_45 hF hn hd  h hR)
  · replace h := gif_n c5 h
    refine g_aload_n hF 0 rfl rfl dX9_offerValue_13 ?_
    refine g_iload_n hF 2 rfl rfl dX9_offerValue_14 ?_
    obtain ⟨x6, h6, h⟩ := gbnd h
    refine g_callV hF my_X9_noName kw_1372 kw_1374 kw_94 gC_9.1 (by decide) q0 (c_X9_noName (d := d - 1) (by omega) q0 h6) (by omega) (Nat.zero_le _) (Nat.zero_le _) rfl rfl (Nat.le_of_ble_eq_true rfl) dX9_offerValue_15 (g_sameS ?_)
    refine g_if_ne (tgt := 45) hF dX9_offerValue_18 (by decide) (fun c7 => ?_) (fun c7 => ?_)
    · replace h := gif_t c7 h
      exact gG_sub [] rfl (t_X9_offerValue_45 hF hn hd  h hR)
    · replace h := gif_n c7 h
      refine g_aload_n hF 0 rfl rfl dX9_offerValue_21 ?_
      refine g_iload_n hF 3 rfl rfl dX9_offerValue_22 ?_
      refine g_iconst (v := (0 : Int32)) hF rfl dX9_offerValue_23 ?_
      refine g_sipush (v := (9999 : Int32)) hF rfl dX9_offerValue_24 ?_
      obtain ⟨x8, h8, h⟩ := gbnd h
      refine g_callS hF my_X9_in kw_1183 kw_1184 (c_X9_in (d := d - 1) (by omega)  h8) (by omega) (Nat.zero_le _) (Nat.zero_le _) rfl rfl (Nat.le_of_ble_eq_true rfl) dX9_offerValue_27 (g_sameS ?_)
      refine g_if_ne (tgt := 37) hF dX9_offerValue_30 (by decide) (fun c9 => ?_) (fun c9 => ?_)
      · replace h := gif_t c9 h
        refine g_iconst (v := (0 : Int32)) hF rfl dX9_offerValue_37 ?_
        exact gG_sub [0, 1, 2, 3] rfl (t_X9_offerValue_38 hF hn hd q0 q0 h hR)
      · replace h := gif_n c9 h
        refine g_iconst (v := (1 : Int32)) hF rfl dX9_offerValue_33 ?_
        refine g_goto (tgt := 38) hF dX9_offerValue_34 (by decide) ?_
        exact gG_sub [0, 1, 2, 3] rfl (t_X9_offerValue_38 hF hn hd q0 q0 h hR)
theorem c_X9_offerValue {d : Nat} {T : gT} {M : gM} {m_a0 : Nat} {a0 : Nat} {i1 : Int32} {i2 : Int32} {i3 : Int32} {r : Int32 × gM} (hd : 8 ≤ d) (q0 : T[a0]? = some (9, m_a0)) (h : f_X9_offerValue T M a0 i1 i2 i3 = some (r)) : gRet d yX9_offerValue cX9_offerValue 4 (some .int) 0 0 [.ref a0, .int i1, .int i2, .int i3] T M (gSame T (some (.int r.1)) r.2) := by
  refine gRet_of (own := RX9) (by decide) rfl (Nat.le_of_ble_eq_true rfl) (fun Z ad0 hn h0 hF => ?_)
  exact t_X9_offerValue hF hn hd q0 h ⟨rfl, rfl, rfl, rfl⟩
theorem t_X9_offerForward_29 {Z : gZ} {d mc ms : Nat} {Acc : Option Value → (Nat → Nat) → gT → gM → Prop} {AccX : Nat → (Nat → Nat) → gT → gM → Prop} {ad : Nat → Nat} {T : gT} {M : gM} {o : Int32 × gM} (hF : gFix Z cX9_offerForward RX9 "offerForward" (some .int) d mc ms Acc AccX) (hn : Z.2.2.2.2.2.1 = 4) (hd : 8 ≤ d)  (h : f_X9_offerForward_29 T M  = some o) (hR : Acc (some (.int o.1)) ad T o.2) : gG Z ad T M 0 0 29 [] [] := by
  unfold f_X9_offerForward_29 at h
  refine g_iconst (v := (0 : Int32)) hF rfl dX9_offerForward_29 ?_
  refine g_goto (tgt := 43) hF dX9_offerForward_30 (by decide) ?_
  cases h
  exact g_ret_i hF rfl rfl dX9_offerForward_43 hR (Nat.zero_le _) (Nat.zero_le _)
theorem t_X9_offerForward {Z : gZ} {d mc ms : Nat} {Acc : Option Value → (Nat → Nat) → gT → gM → Prop} {AccX : Nat → (Nat → Nat) → gT → gM → Prop} {ad : Nat → Nat} {T : gT} {M : gM} {m_a0 : Nat} {a0 : Nat} {i1 : Int32} {i2 : Int32} {i3 : Int32} {o : Int32 × gM} (hF : gFix Z cX9_offerForward RX9 "offerForward" (some .int) d mc ms Acc AccX) (hn : Z.2.2.2.2.2.1 = 4) (hd : 8 ≤ d) (q0 : T[a0]? = some (9, m_a0)) (h : f_X9_offerForward T M a0 i1 i2 i3 = some o) (hR : Acc (some (.int o.1)) ad T o.2) : gG Z ad T M 0 0 0 [(0, .ref a0), (1, .int i1), (2, .int i2), (3, .int i3)] [] := by
  unfold f_X9_offerForward at h
  refine g_aload_n hF 0 rfl rfl dX9_offerForward_0 ?_
  refine g_iconst (v := (0 : Int32)) hF rfl dX9_offerForward_1 ?_
  refine g_put_i hF rfl rfl fl_RX9_59 q0 dX9_offerForward_2 ?_
  refine g_aload_n hF 0 rfl rfl dX9_offerForward_5 ?_
  refine g_iload_n hF 1 rfl rfl dX9_offerForward_6 ?_
  obtain ⟨x1, h1, h⟩ := gbnd h
  refine g_callV hF my_X9_noLibrary kw_1331 kw_1333 kw_87 gC_9.1 (by decide) q0 (c_X9_noLibrary (d := d - 1) (by omega) q0 h1) (by omega) (Nat.zero_le _) (Nat.zero_le _) rfl rfl (Nat.le_of_ble_eq_true rfl) dX9_offerForward_7 (g_sameS ?_)
  refine g_if_ne (tgt := 29) hF dX9_offerForward_10 (by decide) (fun c2 => ?_) (fun c2 => ?_)
  · replace h := gif_t c2 h
    exact gG_sub [] rfl (t_X9_offerForward_29 hF hn hd  h hR)
  · replace h := gif_n c2 h
    refine g_aload_n hF 0 rfl rfl dX9_offerForward_13 ?_
    refine g_iload_n hF 2 rfl rfl dX9_offerForward_14 ?_
    obtain ⟨x3, h3, h⟩ := gbnd h
    refine g_callV hF my_X9_noName kw_1372 kw_1374 kw_94 gC_9.1 (by decide) q0 (c_X9_noName (d := d - 1) (by omega) q0 h3) (by omega) (Nat.zero_le _) (Nat.zero_le _) rfl rfl (Nat.le_of_ble_eq_true rfl) dX9_offerForward_15 (g_sameS ?_)
    refine g_if_ne (tgt := 29) hF dX9_offerForward_18 (by decide) (fun c4 => ?_) (fun c4 => ?_)
    · replace h := gif_t c4 h
      exact gG_sub [] rfl (t_X9_offerForward_29 hF hn hd  h hR)
    · replace h := gif_n c4 h
      refine g_aload_n hF 0 rfl rfl dX9_offerForward_21 ?_
      refine g_iload_n hF 3 rfl rfl dX9_offerForward_22 ?_
      obtain ⟨x5, h5, h⟩ := gbnd h
      refine g_callV hF my_X9_noName kw_1372 kw_1374 kw_94 gC_9.1 (by decide) q0 (c_X9_noName (d := d - 1) (by omega) q0 h5) (by omega) (Nat.zero_le _) (Nat.zero_le _) rfl rfl (Nat.le_of_ble_eq_true rfl) dX9_offerForward_23 (g_sameS ?_)
      refine g_if_eq (tgt := 33) hF dX9_offerForward_26 (by decide) (fun c6 => ?_) (fun c6 => ?_)
      · replace h := gif_t c6 h
        refine g_aload_n hF 0 rfl rfl dX9_offerForward_33 ?_
        refine g_iload_n hF 1 rfl rfl dX9_offerForward_34 ?_
        refine g_iload_n hF 2 rfl rfl dX9_offerForward_35 ?_
        refine g_bipush (v := (-2 : Int32)) hF rfl dX9_offerForward_36 ?_
        refine g_iload_n hF 3 rfl rfl dX9_offerForward_38 ?_
        refine g_isub hF dX9_offerForward_39 ?_
        obtain ⟨x7, h7, h⟩ := gbnd h
        refine g_callV hF my_X9_put kw_1460 kw_1462 kw_103 gC_9.1 (by decide) q0 (c_X9_put (d := d - 1) (by omega) q0 h7) (by omega) (Nat.zero_le _) (Nat.zero_le _) rfl rfl (Nat.le_of_ble_eq_true rfl) dX9_offerForward_40 (g_sameS ?_)
        cases h
        exact g_ret_i hF rfl rfl dX9_offerForward_43 hR (Nat.zero_le _) (Nat.zero_le _)
      · replace h := gif_f c6 h
        exact gG_sub [] rfl (t_X9_offerForward_29 hF hn hd  h hR)
theorem c_X9_offerForward {d : Nat} {T : gT} {M : gM} {m_a0 : Nat} {a0 : Nat} {i1 : Int32} {i2 : Int32} {i3 : Int32} {r : Int32 × gM} (hd : 8 ≤ d) (q0 : T[a0]? = some (9, m_a0)) (h : f_X9_offerForward T M a0 i1 i2 i3 = some (r)) : gRet d yX9_offerForward cX9_offerForward 4 (some .int) 0 0 [.ref a0, .int i1, .int i2, .int i3] T M (gSame T (some (.int r.1)) r.2) := by
  refine gRet_of (own := RX9) (by decide) rfl (Nat.le_of_ble_eq_true rfl) (fun Z ad0 hn h0 hF => ?_)
  exact t_X9_offerForward hF hn hd q0 h ⟨rfl, rfl, rfl, rfl⟩
theorem t_X9_withdraw_52 {Z : gZ} {d mc ms : Nat} {Acc : Option Value → (Nat → Nat) → gT → gM → Prop} {AccX : Nat → (Nat → Nat) → gT → gM → Prop} {ad : Nat → Nat} {T : gT} {M : gM} {o : Int32 × gM} (hF : gFix Z cX9_withdraw RX9 "withdraw" (some .int) d mc ms Acc AccX) (hn : Z.2.2.2.2.2.1 = 3) (hd : 8 ≤ d)  (h : f_X9_withdraw_52 T M  = some o) (hR : Acc (some (.int o.1)) ad T o.2) : gG Z ad T M 0 0 52 [] [] := by
  unfold f_X9_withdraw_52 at h
  refine g_iconst (v := (0 : Int32)) hF rfl dX9_withdraw_52 ?_
  refine g_goto (tgt := 63) hF dX9_withdraw_53 (by decide) ?_
  cases h
  exact g_ret_i hF rfl rfl dX9_withdraw_63 hR (Nat.zero_le _) (Nat.zero_le _)
theorem t_X9_withdraw_45 {Z : gZ} {d mc ms : Nat} {Acc : Option Value → (Nat → Nat) → gT → gM → Prop} {AccX : Nat → (Nat → Nat) → gT → gM → Prop} {ad : Nat → Nat} {T : gT} {M : gM} {m_a0 m_b0 : Nat} {a0 : Nat} {i1 : Int32} {i2 : Int32} {b0 : Nat} {k1 : Int32} {o : Int32 × gM} (hF : gFix Z cX9_withdraw RX9 "withdraw" (some .int) d mc ms Acc AccX) (hn : Z.2.2.2.2.2.1 = 3) (hd : 8 ≤ d) (q0 : T[a0]? = some (9, m_a0)) (p0 : T[b0]? = some (9, m_b0)) (h : f_X9_withdraw_45 T M a0 i1 i2 b0 k1 = some o) (hR : Acc (some (.int o.1)) ad T o.2) : gG Z ad T M 0 0 45 [(0, .ref a0), (1, .int i1), (2, .int i2)] [.int k1, .ref b0] := by
  unfold f_X9_withdraw_45 at h
  refine g_iconst (v := (2 : Int32)) hF rfl dX9_withdraw_45 ?_
  obtain ⟨x1, h1, h⟩ := gbnd h
  refine g_callV hF my_X9_fails kw_1186 kw_1188 kw_64 gC_9.1 (by decide) p0 (c_X9_fails (d := d - 1) (by omega) p0 h1) (by omega) (Nat.zero_le _) (Nat.zero_le _) rfl rfl (Nat.le_of_ble_eq_true rfl) dX9_withdraw_46 (g_sameS ?_)
  refine g_if_eq (tgt := 56) hF dX9_withdraw_49 (by decide) (fun c2 => ?_) (fun c2 => ?_)
  · replace h := gif_t c2 h
    refine g_aload_n hF 0 rfl rfl dX9_withdraw_56 ?_
    refine g_iload_n hF 1 rfl rfl dX9_withdraw_57 ?_
    refine g_iload_n hF 2 rfl rfl dX9_withdraw_58 ?_
    refine g_iconst (v := (-1 : Int32)) hF rfl dX9_withdraw_59 ?_
    obtain ⟨x3, h3, h⟩ := gbnd h
    refine g_callV hF my_X9_put kw_1460 kw_1462 kw_103 gC_9.1 (by decide) q0 (c_X9_put (d := d - 1) (by omega) q0 h3) (by omega) (Nat.zero_le _) (Nat.zero_le _) rfl rfl (Nat.le_of_ble_eq_true rfl) dX9_withdraw_60 (g_sameS ?_)
    cases h
    exact g_ret_i hF rfl rfl dX9_withdraw_63 hR (Nat.zero_le _) (Nat.zero_le _)
  · replace h := gif_f c2 h
    exact gG_sub [] rfl (t_X9_withdraw_52 hF hn hd  h hR)
theorem t_X9_withdraw {Z : gZ} {d mc ms : Nat} {Acc : Option Value → (Nat → Nat) → gT → gM → Prop} {AccX : Nat → (Nat → Nat) → gT → gM → Prop} {ad : Nat → Nat} {T : gT} {M : gM} {m_a0 : Nat} {a0 : Nat} {i1 : Int32} {i2 : Int32} {o : Int32 × gM} (hF : gFix Z cX9_withdraw RX9 "withdraw" (some .int) d mc ms Acc AccX) (hn : Z.2.2.2.2.2.1 = 3) (hd : 8 ≤ d) (q0 : T[a0]? = some (9, m_a0)) (h : f_X9_withdraw T M a0 i1 i2 = some o) (hR : Acc (some (.int o.1)) ad T o.2) : gG Z ad T M 0 0 0 [(0, .ref a0), (1, .int i1), (2, .int i2)] [] := by
  unfold f_X9_withdraw at h
  refine g_aload_n hF 0 rfl rfl dX9_withdraw_0 ?_
  refine g_iconst (v := (0 : Int32)) hF rfl dX9_withdraw_1 ?_
  refine g_put_i hF rfl rfl fl_RX9_59 q0 dX9_withdraw_2 ?_
  refine g_aload_n hF 0 rfl rfl dX9_withdraw_5 ?_
  refine g_iload_n hF 1 rfl rfl dX9_withdraw_6 ?_
  obtain ⟨x4, h4, h⟩ := gbnd h
  refine g_callV hF my_X9_noLibrary kw_1331 kw_1333 kw_87 gC_9.1 (by decide) q0 (c_X9_noLibrary (d := d - 1) (by omega) q0 h4) (by omega) (Nat.zero_le _) (Nat.zero_le _) rfl rfl (Nat.le_of_ble_eq_true rfl) dX9_withdraw_7 (g_sameS ?_)
  refine g_if_ne (tgt := 52) hF dX9_withdraw_10 (by decide) (fun c5 => ?_) (fun c5 => ?_)
  · replace h := gif_t c5 h
    exact gG_sub [] rfl (t_X9_withdraw_52 hF hn hd  h hR)
  · replace h := gif_n c5 h
    refine g_aload_n hF 0 rfl rfl dX9_withdraw_13 ?_
    refine g_iload_n hF 2 rfl rfl dX9_withdraw_14 ?_
    obtain ⟨x6, h6, h⟩ := gbnd h
    refine g_callV hF my_X9_noName kw_1372 kw_1374 kw_94 gC_9.1 (by decide) q0 (c_X9_noName (d := d - 1) (by omega) q0 h6) (by omega) (Nat.zero_le _) (Nat.zero_le _) rfl rfl (Nat.le_of_ble_eq_true rfl) dX9_withdraw_15 (g_sameS ?_)
    refine g_if_ne (tgt := 52) hF dX9_withdraw_18 (by decide) (fun c7 => ?_) (fun c7 => ?_)
    · replace h := gif_t c7 h
      exact gG_sub [] rfl (t_X9_withdraw_52 hF hn hd  h hR)
    · replace h := gif_n c7 h
      refine g_aload_n hF 0 rfl rfl dX9_withdraw_21 ?_
      refine g_aload_n hF 0 rfl rfl dX9_withdraw_22 ?_
      obtain ⟨b8, h8, h⟩ := gbnd h
      obtain ⟨g8, l8, q_b8⟩ := ldr_sp h8
      refine g_get_r hF g8 fl_RX9_17 q0 dX9_withdraw_23 ?_
      refine g_iload_n hF 1 rfl rfl dX9_withdraw_26 ?_
      obtain ⟨x9, h9, h⟩ := gbnd h
      refine g_callS hF my_X9_at kw_1244 kw_1245 (c_X9_at (d := d - 1) (by omega)  h9) (by omega) (Nat.zero_le _) (Nat.zero_le _) rfl rfl (Nat.le_of_ble_eq_true rfl) dX9_withdraw_27 (g_sameS ?_)
      refine g_bipush (v := (12 : Int32)) hF rfl dX9_withdraw_30 ?_
      refine g_iadd hF dX9_withdraw_32 ?_
      refine g_iload_n hF 2 rfl rfl dX9_withdraw_33 ?_
      refine g_iadd hF dX9_withdraw_34 ?_
      obtain ⟨v10, h10, h⟩ := gbnd h
      obtain ⟨i10h, e10v⟩ := ald_sp q_b8 h10
      refine g_iald hF q_b8 i10h dX9_withdraw_35 ?_
      rw [← e10v]
      refine g_iconst (v := (-1 : Int32)) hF rfl dX9_withdraw_36 ?_
      refine g_icmp_ne (tgt := 44) hF dX9_withdraw_37 (by decide) (fun c11 => ?_) (fun c11 => ?_)
      · replace h := gif_t c11 h
        refine g_iconst (v := (0 : Int32)) hF rfl dX9_withdraw_44 ?_
        exact gG_sub [0, 1, 2] rfl (t_X9_withdraw_45 hF hn hd q0 q0 h hR)
      · replace h := gif_n c11 h
        refine g_iconst (v := (1 : Int32)) hF rfl dX9_withdraw_40 ?_
        refine g_goto (tgt := 45) hF dX9_withdraw_41 (by decide) ?_
        exact gG_sub [0, 1, 2] rfl (t_X9_withdraw_45 hF hn hd q0 q0 h hR)
theorem c_X9_withdraw {d : Nat} {T : gT} {M : gM} {m_a0 : Nat} {a0 : Nat} {i1 : Int32} {i2 : Int32} {r : Int32 × gM} (hd : 8 ≤ d) (q0 : T[a0]? = some (9, m_a0)) (h : f_X9_withdraw T M a0 i1 i2 = some (r)) : gRet d yX9_withdraw cX9_withdraw 3 (some .int) 0 0 [.ref a0, .int i1, .int i2] T M (gSame T (some (.int r.1)) r.2) := by
  refine gRet_of (own := RX9) (by decide) rfl (Nat.le_of_ble_eq_true rfl) (fun Z ad0 hn h0 hF => ?_)
  exact t_X9_withdraw hF hn hd q0 h ⟨rfl, rfl, rfl, rfl⟩
theorem t_X9_setTrust_30 {Z : gZ} {d mc ms : Nat} {Acc : Option Value → (Nat → Nat) → gT → gM → Prop} {AccX : Nat → (Nat → Nat) → gT → gM → Prop} {ad : Nat → Nat} {T : gT} {M : gM} {m_a0 m_b0 : Nat} {a0 : Nat} {i1 : Int32} {i2 : Int32} {b0 : Nat} {k1 : Int32} {o : Int32 × gM} (hF : gFix Z cX9_setTrust RX9 "setTrust" (some .int) d mc ms Acc AccX) (hn : Z.2.2.2.2.2.1 = 4) (hd : 3 ≤ d) (q0 : T[a0]? = some (9, m_a0)) (p0 : T[b0]? = some (9, m_b0)) (h : f_X9_setTrust_30 T M a0 i1 i2 b0 k1 = some o) (hR : Acc (some (.int o.1)) ad T o.2) : gG Z ad T M 0 0 30 [(0, .ref a0), (1, .int i1), (2, .int i2)] [.int k1, .ref b0] := by
  unfold f_X9_setTrust_30 at h
  refine g_iconst (v := (2 : Int32)) hF rfl dX9_setTrust_30 ?_
  obtain ⟨x1, h1, h⟩ := gbnd h
  refine g_callV hF my_X9_fails kw_1186 kw_1188 kw_64 gC_9.1 (by decide) p0 (c_X9_fails (d := d - 1) (by omega) p0 h1) (by omega) (Nat.zero_le _) (Nat.zero_le _) rfl rfl (Nat.le_of_ble_eq_true rfl) dX9_setTrust_31 (g_sameS ?_)
  refine g_if_eq (tgt := 39) hF dX9_setTrust_34 (by decide) (fun c2 => ?_) (fun c2 => ?_)
  · replace h := gif_t c2 h
    refine g_aload_n hF 0 rfl rfl dX9_setTrust_39 ?_
    obtain ⟨x3, h3, h⟩ := gbnd h
    refine g_callV hF my_X9_remember kw_1304 kw_1306 kw_86 gC_9.1 (by decide) q0 (c_X9_remember (d := d - 1) (by omega) q0 h3) (by omega) (Nat.zero_le _) (Nat.zero_le _) rfl rfl (Nat.le_of_ble_eq_true rfl) dX9_setTrust_40 (g_sameN ?_)
    refine g_aload_n hF 0 rfl rfl dX9_setTrust_43 ?_
    obtain ⟨b4, h4, h⟩ := gbnd h
    obtain ⟨g4, l4, q_b4⟩ := ldr_sp h4
    refine g_get_r hF g4 fl_RX9_17 q0 dX9_setTrust_44 ?_
    refine g_iload_n hF 1 rfl rfl dX9_setTrust_47 ?_
    obtain ⟨x5, h5, h⟩ := gbnd h
    refine g_callS hF my_X9_at kw_1244 kw_1245 (c_X9_at (d := d - 1) (by omega)  h5) (by omega) (Nat.zero_le _) (Nat.zero_le _) rfl rfl (Nat.le_of_ble_eq_true rfl) dX9_setTrust_48 (g_sameS ?_)
    refine g_iconst (v := (0 : Int32)) hF rfl dX9_setTrust_51 ?_
    refine g_iadd hF dX9_setTrust_52 ?_
    obtain ⟨v6, h6, h⟩ := gbnd h
    obtain ⟨i6h, e6v⟩ := ald_sp q_b4 h6
    refine g_iald hF q_b4 i6h dX9_setTrust_53 ?_
    rw [← e6v]
    refine g_istore_n (ls' := [(3, .int v6), (0, .ref a0), (1, .int i1), (2, .int i2)]) hF rfl (by rw [hn]; decide) rfl dX9_setTrust_54 ?_
    refine g_aload_n hF 1 rfl rfl dX9_setTrust_55 ?_
    obtain ⟨b7, h7, h⟩ := gbnd h
    obtain ⟨g7, l7, q_b7⟩ := ldr_sp h7
    refine g_get_r hF g7 fl_RX9_17 q0 dX9_setTrust_56 ?_
    refine g_iload_n hF 2 rfl rfl dX9_setTrust_59 ?_
    obtain ⟨x8, h8, h⟩ := gbnd h
    refine g_callS hF my_X9_at kw_1244 kw_1245 (c_X9_at (d := d - 1) (by omega)  h8) (by omega) (Nat.zero_le _) (Nat.zero_le _) rfl rfl (Nat.le_of_ble_eq_true rfl) dX9_setTrust_60 (g_sameS ?_)
    refine g_iconst (v := (0 : Int32)) hF rfl dX9_setTrust_63 ?_
    refine g_iadd hF dX9_setTrust_64 ?_
    refine g_iload_n hF 3 rfl rfl dX9_setTrust_65 ?_
    obtain ⟨M9, h9, h⟩ := gbnd h
    obtain ⟨i9h, e9v⟩ := ast_sp q_b7 h9
    refine g_iast hF q_b7 i9h dX9_setTrust_66 ?_
    rw [← e9v]
    refine g_iload_n hF 0 rfl rfl dX9_setTrust_67 ?_
    cases h
    exact g_ret_i hF rfl rfl dX9_setTrust_68 hR (Nat.zero_le _) (Nat.zero_le _)
  · replace h := gif_f c2 h
    refine g_iconst (v := (0 : Int32)) hF rfl dX9_setTrust_37 ?_
    cases h
    exact g_ret_i hF rfl rfl dX9_setTrust_38 hR (Nat.zero_le _) (Nat.zero_le _)
theorem t_X9_setTrust {Z : gZ} {d mc ms : Nat} {Acc : Option Value → (Nat → Nat) → gT → gM → Prop} {AccX : Nat → (Nat → Nat) → gT → gM → Prop} {ad : Nat → Nat} {T : gT} {M : gM} {m_a0 : Nat} {a0 : Nat} {i1 : Int32} {i2 : Int32} {o : Int32 × gM} (hF : gFix Z cX9_setTrust RX9 "setTrust" (some .int) d mc ms Acc AccX) (hn : Z.2.2.2.2.2.1 = 4) (hd : 3 ≤ d) (q0 : T[a0]? = some (9, m_a0)) (h : f_X9_setTrust T M a0 i1 i2 = some o) (hR : Acc (some (.int o.1)) ad T o.2) : gG Z ad T M 0 0 0 [(0, .ref a0), (1, .int i1), (2, .int i2)] [] := by
  unfold f_X9_setTrust at h
  refine g_aload_n hF 0 rfl rfl dX9_setTrust_0 ?_
  refine g_iconst (v := (0 : Int32)) hF rfl dX9_setTrust_1 ?_
  refine g_put_i hF rfl rfl fl_RX9_59 q0 dX9_setTrust_2 ?_
  refine g_aload_n hF 0 rfl rfl dX9_setTrust_5 ?_
  refine g_iload_n hF 1 rfl rfl dX9_setTrust_6 ?_
  obtain ⟨x10, h10, h⟩ := gbnd h
  refine g_callV hF my_X9_noLibrary kw_1331 kw_1333 kw_87 gC_9.1 (by decide) q0 (c_X9_noLibrary (d := d - 1) (by omega) q0 h10) (by omega) (Nat.zero_le _) (Nat.zero_le _) rfl rfl (Nat.le_of_ble_eq_true rfl) dX9_setTrust_7 (g_sameS ?_)
  refine g_if_ne (tgt := 37) hF dX9_setTrust_10 (by decide) (fun c11 => ?_) (fun c11 => ?_)
  · replace h := gif_t c11 h
    refine g_iconst (v := (0 : Int32)) hF rfl dX9_setTrust_37 ?_
    cases h
    exact g_ret_i hF rfl rfl dX9_setTrust_38 hR (Nat.zero_le _) (Nat.zero_le _)
  · replace h := gif_n c11 h
    refine g_aload_n hF 0 rfl rfl dX9_setTrust_13 ?_
    refine g_iload_n hF 2 rfl rfl dX9_setTrust_14 ?_
    refine g_iconst (v := (0 : Int32)) hF rfl dX9_setTrust_15 ?_
    refine g_sipush (v := (999 : Int32)) hF rfl dX9_setTrust_16 ?_
    obtain ⟨x12, h12, h⟩ := gbnd h
    refine g_callS hF my_X9_in kw_1183 kw_1184 (c_X9_in (d := d - 1) (by omega)  h12) (by omega) (Nat.zero_le _) (Nat.zero_le _) rfl rfl (Nat.le_of_ble_eq_true rfl) dX9_setTrust_19 (g_sameS ?_)
    refine g_if_ne (tgt := 29) hF dX9_setTrust_22 (by decide) (fun c13 => ?_) (fun c13 => ?_)
    · replace h := gif_t c13 h
      refine g_iconst (v := (0 : Int32)) hF rfl dX9_setTrust_29 ?_
      exact gG_sub [0, 1, 2] rfl (t_X9_setTrust_30 hF hn hd q0 q0 h hR)
    · replace h := gif_n c13 h
      refine g_iconst (v := (1 : Int32)) hF rfl dX9_setTrust_25 ?_
      refine g_goto (tgt := 30) hF dX9_setTrust_26 (by decide) ?_
      exact gG_sub [0, 1, 2] rfl (t_X9_setTrust_30 hF hn hd q0 q0 h hR)
theorem c_X9_setTrust {d : Nat} {T : gT} {M : gM} {m_a0 : Nat} {a0 : Nat} {i1 : Int32} {i2 : Int32} {r : Int32 × gM} (hd : 3 ≤ d) (q0 : T[a0]? = some (9, m_a0)) (h : f_X9_setTrust T M a0 i1 i2 = some (r)) : gRet d yX9_setTrust cX9_setTrust 4 (some .int) 0 0 [.ref a0, .int i1, .int i2] T M (gSame T (some (.int r.1)) r.2) := by
  refine gRet_of (own := RX9) (by decide) rfl (Nat.le_of_ble_eq_true rfl) (fun Z ad0 hn h0 hF => ?_)
  exact t_X9_setTrust hF hn hd q0 h ⟨rfl, rfl, rfl, rfl⟩
