theorem t_X2_keep {Z : gZ} {d mc ms : Nat} {Acc : Option Value → (Nat → Nat) → gT → gM → Prop} {AccX : Nat → (Nat → Nat) → gT → gM → Prop} {ad : Nat → Nat} {T : gT} {M : gM} {m_a0 m_a1 : Nat} {a0 : Nat} {a1 : Nat} {o : gM} (hF : gFix Z cX2_keep RX2 "keep" none d mc ms Acc AccX) (hn : Z.2.2.2.2.2.1 = 2) (hd : 3 ≤ d) (q0 : T[a0]? = some (2, m_a0)) (q1 : T[a1]? = some (0, m_a1)) (h : f_X2_keep T M a0 a1 = some o) (hR : Acc none ad T o) : gG Z ad T M 0 0 0 [(0, .ref a0), (1, .ref a1)] [] := by
  unfold f_X2_keep at h
  refine g_aload_n hF 0 rfl rfl dX2_keep_0 ?_
  obtain ⟨b1, h1, h⟩ := gbnd h
  obtain ⟨g1, l1, q_b1⟩ := ldr_sp h1
  refine g_get_r hF g1 fl_RX2_11 q0 dX2_keep_1 ?_
  refine g_aload_n hF 0 rfl rfl dX2_keep_4 ?_
  refine g_get_i hF fl_RX2_17 q0 dX2_keep_5 ?_
  obtain ⟨b2, h2, h⟩ := gbnd h
  obtain ⟨i2h, g2, l2, q_b2⟩ := aldr_sp q_b1 h2
  refine g_aald hF q_b1 (Or.inl ⟨rfl, rfl⟩) i2h g2 dX2_keep_8 ?_
  refine g_aload_n hF 1 rfl rfl dX2_keep_9 ?_
  obtain ⟨x3, h3, h⟩ := gbnd h
  refine g_callVN hF my_X0_copyFrom kn_390 kw_392 kw_1 gC_0.1 (by decide) q_b2 (c_X0_copyFrom (d := d - 1) (by omega) q_b2 q1 h3) (by omega) (Nat.zero_le _) (Nat.zero_le _) rfl rfl (Nat.le_of_ble_eq_true rfl) dX2_keep_10 (g_sameN ?_)
  refine g_aload_n hF 0 rfl rfl dX2_keep_13 ?_
  refine g_aload_n hF 0 rfl rfl dX2_keep_14 ?_
  refine g_get_i hF fl_RX2_17 q0 dX2_keep_15 ?_
  refine g_iconst (v := (1 : Int32)) hF rfl dX2_keep_18 ?_
  refine g_iadd hF dX2_keep_19 ?_
  refine g_bipush (v := (8 : Int32)) hF rfl dX2_keep_20 ?_
  refine g_irem hF (by decide) dX2_keep_22 ?_
  refine g_put_i hF rfl rfl fl_RX2_17 q0 dX2_keep_23 ?_
  refine g_aload_n hF 0 rfl rfl dX2_keep_26 ?_
  refine g_get_i hF fl_RX2_21 q0 dX2_keep_27 ?_
  refine g_bipush (v := (8 : Int32)) hF rfl dX2_keep_30 ?_
  refine g_icmp_ge (tgt := 45) hF dX2_keep_32 (by decide) (fun c4 => ?_) (fun c4 => ?_)
  · replace h := gif_t c4 h
    cases h
    exact g_ret_v hF rfl dX2_keep_45 hR (Nat.zero_le _) (Nat.zero_le _)
  · replace h := gif_f c4 h
    refine g_aload_n hF 0 rfl rfl dX2_keep_35 ?_
    refine g_dup hF rfl dX2_keep_36 ?_
    refine g_get_i hF fl_RX2_21 q0 dX2_keep_37 ?_
    refine g_iconst (v := (1 : Int32)) hF rfl dX2_keep_40 ?_
    refine g_iadd hF dX2_keep_41 ?_
    refine g_put_i hF rfl rfl fl_RX2_21 q0 dX2_keep_42 ?_
    cases h
    exact g_ret_v hF rfl dX2_keep_45 hR (Nat.zero_le _) (Nat.zero_le _)
theorem c_X2_keep {d : Nat} {T : gT} {M : gM} {m_a0 m_a1 : Nat} {a0 : Nat} {a1 : Nat} {r : gM} (hd : 3 ≤ d) (q0 : T[a0]? = some (2, m_a0)) (q1 : T[a1]? = some (0, m_a1)) (h : f_X2_keep T M a0 a1 = some (r)) : gRet d yX2_keep cX2_keep 2 none 0 0 [.ref a0, .ref a1] T M (gSame T none r) := by
  refine gRet_of (own := RX2) (by decide) rfl (Nat.le_of_ble_eq_true rfl) (fun Z ad0 hn h0 hF => ?_)
  exact t_X2_keep hF hn hd q0 q1 h ⟨rfl, rfl, rfl, rfl⟩
theorem t_X2_bringBack {Z : gZ} {d mc ms : Nat} {Acc : Option Value → (Nat → Nat) → gT → gM → Prop} {AccX : Nat → (Nat → Nat) → gT → gM → Prop} {ad : Nat → Nat} {T : gT} {M : gM} {m_a0 m_a1 : Nat} {a0 : Nat} {a1 : Nat} {o : Int32 × gM} (hF : gFix Z cX2_bringBack RX2 "bringBack" (some .boolean) d mc ms Acc AccX) (hn : Z.2.2.2.2.2.1 = 2) (hd : 3 ≤ d) (q0 : T[a0]? = some (2, m_a0)) (q1 : T[a1]? = some (0, m_a1)) (h : f_X2_bringBack T M a0 a1 = some o) (hR : Acc (some (.int o.1)) ad T o.2) : gG Z ad T M 0 0 0 [(0, .ref a0), (1, .ref a1)] [] := by
  unfold f_X2_bringBack at h
  refine g_aload_n hF 0 rfl rfl dX2_bringBack_0 ?_
  refine g_get_i hF fl_RX2_21 q0 dX2_bringBack_1 ?_
  refine g_if_ne (tgt := 9) hF dX2_bringBack_4 (by decide) (fun c1 => ?_) (fun c1 => ?_)
  · replace h := gif_t c1 h
    refine g_aload_n hF 0 rfl rfl dX2_bringBack_9 ?_
    refine g_dup hF rfl dX2_bringBack_10 ?_
    refine g_get_i hF fl_RX2_21 q0 dX2_bringBack_11 ?_
    refine g_iconst (v := (1 : Int32)) hF rfl dX2_bringBack_14 ?_
    refine g_isub hF dX2_bringBack_15 ?_
    refine g_put_i hF rfl rfl fl_RX2_21 q0 dX2_bringBack_16 ?_
    refine g_aload_n hF 0 rfl rfl dX2_bringBack_19 ?_
    refine g_aload_n hF 0 rfl rfl dX2_bringBack_20 ?_
    refine g_get_i hF fl_RX2_17 q0 dX2_bringBack_21 ?_
    refine g_bipush (v := (8 : Int32)) hF rfl dX2_bringBack_24 ?_
    refine g_iadd hF dX2_bringBack_26 ?_
    refine g_iconst (v := (1 : Int32)) hF rfl dX2_bringBack_27 ?_
    refine g_isub hF dX2_bringBack_28 ?_
    refine g_bipush (v := (8 : Int32)) hF rfl dX2_bringBack_29 ?_
    refine g_irem hF (by decide) dX2_bringBack_31 ?_
    refine g_put_i hF rfl rfl fl_RX2_17 q0 dX2_bringBack_32 ?_
    refine g_aload_n hF 1 rfl rfl dX2_bringBack_35 ?_
    refine g_aload_n hF 0 rfl rfl dX2_bringBack_36 ?_
    obtain ⟨b2, h2, h⟩ := gbnd h
    obtain ⟨g2, l2, q_b2⟩ := ldr_sp h2
    refine g_get_r hF g2 fl_RX2_11 q0 dX2_bringBack_37 ?_
    refine g_aload_n hF 0 rfl rfl dX2_bringBack_40 ?_
    refine g_get_i hF fl_RX2_17 q0 dX2_bringBack_41 ?_
    obtain ⟨b3, h3, h⟩ := gbnd h
    obtain ⟨i3h, g3, l3, q_b3⟩ := aldr_sp q_b2 h3
    refine g_aald hF q_b2 (Or.inl ⟨rfl, rfl⟩) i3h g3 dX2_bringBack_44 ?_
    obtain ⟨x4, h4, h⟩ := gbnd h
    refine g_callVN hF my_X0_copyFrom kn_390 kw_392 kw_1 gC_0.1 (by decide) q1 (c_X0_copyFrom (d := d - 1) (by omega) q1 q_b3 h4) (by omega) (Nat.zero_le _) (Nat.zero_le _) rfl rfl (Nat.le_of_ble_eq_true rfl) dX2_bringBack_45 (g_sameN ?_)
    refine g_iconst (v := (1 : Int32)) hF rfl dX2_bringBack_48 ?_
    cases h
    exact g_ret_i hF rfl rfl dX2_bringBack_49 hR (Nat.zero_le _) (Nat.zero_le _)
  · replace h := gif_n c1 h
    refine g_iconst (v := (0 : Int32)) hF rfl dX2_bringBack_7 ?_
    cases h
    exact g_ret_i hF rfl rfl dX2_bringBack_8 hR (Nat.zero_le _) (Nat.zero_le _)
theorem c_X2_bringBack {d : Nat} {T : gT} {M : gM} {m_a0 m_a1 : Nat} {a0 : Nat} {a1 : Nat} {r : Int32 × gM} (hd : 3 ≤ d) (q0 : T[a0]? = some (2, m_a0)) (q1 : T[a1]? = some (0, m_a1)) (h : f_X2_bringBack T M a0 a1 = some (r)) : gRet d yX2_bringBack cX2_bringBack 2 (some .boolean) 0 0 [.ref a0, .ref a1] T M (gSame T (some (.int r.1)) r.2) := by
  refine gRet_of (own := RX2) (by decide) rfl (Nat.le_of_ble_eq_true rfl) (fun Z ad0 hn h0 hF => ?_)
  exact t_X2_bringBack hF hn hd q0 q1 h ⟨rfl, rfl, rfl, rfl⟩
theorem t_J7_fill_53178_B5 {Z : gZ} {d mc ms : Nat} {Acc : Option Value → (Nat → Nat) → gT → gM → Prop} {AccX : Nat → (Nat → Nat) → gT → gM → Prop} {ad : Nat → Nat} {T : gT} {M : gM} {m_a0 : Nat} {a0 : Nat} {i1 : Int32} {i2 : Int32} {i3 : Int32} {o : (gM) ⊕ (Int32 × gM)} (hF : gFix Z cJ7_fill_53178 RJ7 "fill" none d mc ms Acc AccX) (hn : Z.2.2.2.2.2.1 = 4) (hd : 1 ≤ d) (q0 : T[a0]? = some (11, m_a0)) (h : f_J7_fill_53178_B5 T M a0 i1 i2 i3 = some o) (hE : ∀ e9, o = .inl e9 → gG Z ad T e9 0 0 20 [] []) (hN : ∀ n9, o = .inr n9 → gG Z ad T n9.2 0 0 5 [(0, .ref a0), (1, .int i1), (2, .int n9.1), (3, .int i3)] []) : gG Z ad T M 0 0 5 [(0, .ref a0), (1, .int i1), (2, .int i2), (3, .int i3)] [] := by
  unfold f_J7_fill_53178_B5 at h
  refine g_iload_n hF 2 rfl rfl dJ7_fill_53178_5 ?_
  refine g_iload_n hF 3 rfl rfl dJ7_fill_53178_6 ?_
  refine g_icmp_ge (tgt := 20) hF dJ7_fill_53178_7 (by decide) (fun c1 => ?_) (fun c1 => ?_)
  · replace h := gif_t c1 h
    exact gG_sub [] rfl (hE _ (Option.some.inj h).symm)
  · replace h := gif_f c1 h
    refine g_aload_n hF 0 rfl rfl dJ7_fill_53178_10 ?_
    refine g_iload_n hF 2 rfl rfl dJ7_fill_53178_11 ?_
    refine g_iload_n hF 1 rfl rfl dJ7_fill_53178_12 ?_
    obtain ⟨M2, h2, h⟩ := gbnd h
    obtain ⟨i2h, e2v⟩ := ast_sp q0 h2
    refine g_iast hF q0 i2h dJ7_fill_53178_13 ?_
    rw [← e2v]
    refine g_iinc (n := 1) (v := (i2 + (1 : Int32))) (ls' := [(2, .int (i2 + (1 : Int32))), (0, .ref a0), (1, .int i1), (3, .int i3)]) hF 2 rfl rfl (by rw [hn]; decide) rfl dJ7_fill_53178_14 ?_
    refine g_goto (tgt := 5) hF dJ7_fill_53178_17 (by decide) ?_
    exact gG_sub [1, 2, 0, 3] rfl (hN _ (Option.some.inj h).symm)
theorem t_J7_fill_53178_L5 {Z : gZ} {d mc ms : Nat} {Acc : Option Value → (Nat → Nat) → gT → gM → Prop} {AccX : Nat → (Nat → Nat) → gT → gM → Prop} {ad : Nat → Nat} {T : gT} {M : gM} {m_a0 : Nat} {a0 : Nat} {i1 : Int32} {i2 : Int32} {i3 : Int32} {o : gM} (hF : gFix Z cJ7_fill_53178 RJ7 "fill" none d mc ms Acc AccX) (hn : Z.2.2.2.2.2.1 = 4) (hd : 1 ≤ d) (q0 : T[a0]? = some (11, m_a0)) (h : gloop (fun x => f_J7_fill_53178_B5 T x.2 a0 i1 x.1 i3) gFU (i2, M) = some o) (hE : gG Z ad T o 0 0 20 [] []) : gG Z ad T M 0 0 5 [(0, .ref a0), (1, .int i1), (2, .int i2), (3, .int i3)] [] := by
  refine gloop_ind (P := fun x0 : Int32 × gM => gG Z ad T x0.2 0 0 5 [(0, .ref a0), (1, .int i1), (2, .int x0.1), (3, .int i3)] []) (e := o) (fun x0 y hy hl hr => ?_) gFU (i2, M) h
  exact t_J7_fill_53178_B5 hF hn hd q0 hy (fun e9 q9 => by rw [hl _ q9]; exact hE) (fun n9 q9 => hr n9 q9)
theorem t_J7_fill_53178 {Z : gZ} {d mc ms : Nat} {Acc : Option Value → (Nat → Nat) → gT → gM → Prop} {AccX : Nat → (Nat → Nat) → gT → gM → Prop} {ad : Nat → Nat} {T : gT} {M : gM} {m_a0 : Nat} {a0 : Nat} {i1 : Int32} {o : gM} (hF : gFix Z cJ7_fill_53178 RJ7 "fill" none d mc ms Acc AccX) (hn : Z.2.2.2.2.2.1 = 4) (hd : 1 ≤ d) (q0 : T[a0]? = some (11, m_a0)) (h : f_J7_fill_53178 T M a0 i1 = some o) (hR : Acc none ad T o) : gG Z ad T M 0 0 0 [(0, .ref a0), (1, .int i1)] [] := by
  unfold f_J7_fill_53178 at h
  refine g_iconst (v := (0 : Int32)) hF rfl dJ7_fill_53178_0 ?_
  refine g_istore_n (ls' := [(2, .int (0 : Int32)), (0, .ref a0), (1, .int i1)]) hF rfl (by rw [hn]; decide) rfl dJ7_fill_53178_1 ?_
  refine g_aload_n hF 1 rfl rfl dJ7_fill_53178_2 ?_
  refine g_alenA hF q0 (by decide) dJ7_fill_53178_3 ?_
  refine g_istore_n (ls' := [(3, .int (Int32.ofNat (alen T a0))), (2, .int (0 : Int32)), (0, .ref a0), (1, .int i1)]) hF rfl (by rw [hn]; decide) rfl dJ7_fill_53178_4 ?_
  obtain ⟨x3, h3, h⟩ := gbnd h
  refine gG_sub [2, 3, 1, 0] rfl (t_J7_fill_53178_L5 hF hn hd q0 h3 ?_)
  cases h
  exact g_ret_v hF rfl dJ7_fill_53178_20 hR (Nat.zero_le _) (Nat.zero_le _)
theorem c_J7_fill_53178 {d : Nat} {T : gT} {M : gM} {m_a0 : Nat} {a0 : Nat} {i1 : Int32} {r : gM} (hd : 1 ≤ d) (q0 : T[a0]? = some (11, m_a0)) (h : f_J7_fill_53178 T M a0 i1 = some (r)) : gRet d yJ7_fill_53178 cJ7_fill_53178 4 none 0 0 [.ref a0, .int i1] T M (gSame T none r) := by
  refine gRet_of (own := RJ7) (by decide) rfl (Nat.le_of_ble_eq_true rfl) (fun Z ad0 hn h0 hF => ?_)
  exact t_J7_fill_53178 hF hn hd q0 h ⟨rfl, rfl, rfl, rfl⟩
theorem t_X3_startAs {Z : gZ} {d mc ms : Nat} {Acc : Option Value → (Nat → Nat) → gT → gM → Prop} {AccX : Nat → (Nat → Nat) → gT → gM → Prop} {ad : Nat → Nat} {T : gT} {M : gM} {m_a0 : Nat} {a0 : Nat} {i1 : Int32} {i2 : Int32} {o : gM} (hF : gFix Z cX3_startAs RX3 "startAs" none d mc ms Acc AccX) (hn : Z.2.2.2.2.2.1 = 3) (hd : 2 ≤ d) (q0 : T[a0]? = some (3, m_a0)) (h : f_X3_startAs T M a0 i1 i2 = some o) (hR : Acc none ad T o) : gG Z ad T M 0 0 0 [(0, .ref a0), (1, .int i1), (2, .int i2)] [] := by
  unfold f_X3_startAs at h
  refine g_aload_n hF 0 rfl rfl dX3_startAs_0 ?_
  refine g_iload_n hF 1 rfl rfl dX3_startAs_1 ?_
  refine g_put_i hF rfl rfl fl_RX3_9 q0 dX3_startAs_2 ?_
  refine g_aload_n hF 0 rfl rfl dX3_startAs_5 ?_
  refine g_iconst (v := (0 : Int32)) hF rfl dX3_startAs_6 ?_
  refine g_put_i hF rfl rfl fl_RX3_15 q0 dX3_startAs_7 ?_
  refine g_aload_n hF 0 rfl rfl dX3_startAs_10 ?_
  refine g_iload_n hF 2 rfl rfl dX3_startAs_11 ?_
  refine g_put_i hF rfl rfl fl_RX3_19 q0 dX3_startAs_12 ?_
  refine g_aload_n hF 0 rfl rfl dX3_startAs_15 ?_
  obtain ⟨b1, h1, h⟩ := gbnd h
  obtain ⟨g1, l1, q_b1⟩ := ldr_sp h1
  refine g_get_r hF g1 fl_RX3_22 q0 dX3_startAs_16 ?_
  refine g_iconst (v := (-1 : Int32)) hF rfl dX3_startAs_19 ?_
  obtain ⟨x2, h2, h⟩ := gbnd h
  refine g_callS hF my_J7_fill_53178 kw_860 kw_861 (c_J7_fill_53178 (d := d - 1) (by omega) q_b1 h2) (by omega) (Nat.zero_le _) (Nat.zero_le _) rfl rfl (Nat.le_of_ble_eq_true rfl) dX3_startAs_20 (g_sameN ?_)
  refine g_aload_n hF 0 rfl rfl dX3_startAs_23 ?_
  refine g_iconst (v := (0 : Int32)) hF rfl dX3_startAs_24 ?_
  refine g_put_i hF rfl rfl fl_RX3_29 q0 dX3_startAs_25 ?_
  cases h
  exact g_ret_v hF rfl dX3_startAs_28 hR (Nat.zero_le _) (Nat.zero_le _)
theorem c_X3_startAs {d : Nat} {T : gT} {M : gM} {m_a0 : Nat} {a0 : Nat} {i1 : Int32} {i2 : Int32} {r : gM} (hd : 2 ≤ d) (q0 : T[a0]? = some (3, m_a0)) (h : f_X3_startAs T M a0 i1 i2 = some (r)) : gRet d yX3_startAs cX3_startAs 3 none 0 0 [.ref a0, .int i1, .int i2] T M (gSame T none r) := by
  refine gRet_of (own := RX3) (by decide) rfl (Nat.le_of_ble_eq_true rfl) (fun Z ad0 hn h0 hF => ?_)
  exact t_X3_startAs hF hn hd q0 h ⟨rfl, rfl, rfl, rfl⟩
theorem t_X3_addPreference {Z : gZ} {d mc ms : Nat} {Acc : Option Value → (Nat → Nat) → gT → gM → Prop} {AccX : Nat → (Nat → Nat) → gT → gM → Prop} {ad : Nat → Nat} {T : gT} {M : gM} {m_a0 : Nat} {a0 : Nat} {i1 : Int32} {o : gM} (hF : gFix Z cX3_addPreference RX3 "addPreference" none d mc ms Acc AccX) (hn : Z.2.2.2.2.2.1 = 2) (hd : 1 ≤ d) (q0 : T[a0]? = some (3, m_a0)) (h : f_X3_addPreference T M a0 i1 = some o) (hR : Acc none ad T o) : gG Z ad T M 0 0 0 [(0, .ref a0), (1, .int i1)] [] := by
  unfold f_X3_addPreference at h
  refine g_aload_n hF 0 rfl rfl dX3_addPreference_0 ?_
  refine g_get_i hF fl_RX3_29 q0 dX3_addPreference_1 ?_
  refine g_bipush (v := (8 : Int32)) hF rfl dX3_addPreference_4 ?_
  refine g_icmp_ge (tgt := 29) hF dX3_addPreference_6 (by decide) (fun c1 => ?_) (fun c1 => ?_)
  · replace h := gif_t c1 h
    cases h
    exact g_ret_v hF rfl dX3_addPreference_29 hR (Nat.zero_le _) (Nat.zero_le _)
  · replace h := gif_f c1 h
    refine g_aload_n hF 0 rfl rfl dX3_addPreference_9 ?_
    obtain ⟨b2, h2, h⟩ := gbnd h
    obtain ⟨g2, l2, q_b2⟩ := ldr_sp h2
    refine g_get_r hF g2 fl_RX3_26 q0 dX3_addPreference_10 ?_
    refine g_aload_n hF 0 rfl rfl dX3_addPreference_13 ?_
    refine g_get_i hF fl_RX3_29 q0 dX3_addPreference_14 ?_
    refine g_iload_n hF 1 rfl rfl dX3_addPreference_17 ?_
    obtain ⟨M3, h3, h⟩ := gbnd h
    obtain ⟨i3h, e3v⟩ := ast_sp q_b2 h3
    refine g_iast hF q_b2 i3h dX3_addPreference_18 ?_
    rw [← e3v]
    refine g_aload_n hF 0 rfl rfl dX3_addPreference_19 ?_
    refine g_dup hF rfl dX3_addPreference_20 ?_
    refine g_get_i hF fl_RX3_29 q0 dX3_addPreference_21 ?_
    refine g_iconst (v := (1 : Int32)) hF rfl dX3_addPreference_24 ?_
    refine g_iadd hF dX3_addPreference_25 ?_
    refine g_put_i hF rfl rfl fl_RX3_29 q0 dX3_addPreference_26 ?_
    cases h
    exact g_ret_v hF rfl dX3_addPreference_29 hR (Nat.zero_le _) (Nat.zero_le _)
theorem c_X3_addPreference {d : Nat} {T : gT} {M : gM} {m_a0 : Nat} {a0 : Nat} {i1 : Int32} {r : gM} (hd : 1 ≤ d) (q0 : T[a0]? = some (3, m_a0)) (h : f_X3_addPreference T M a0 i1 = some (r)) : gRet d yX3_addPreference cX3_addPreference 2 none 0 0 [.ref a0, .int i1] T M (gSame T none r) := by
  refine gRet_of (own := RX3) (by decide) rfl (Nat.le_of_ble_eq_true rfl) (fun Z ad0 hn h0 hF => ?_)
  exact t_X3_addPreference hF hn hd q0 h ⟨rfl, rfl, rfl, rfl⟩
theorem t_X4_init {Z : gZ} {d mc ms : Nat} {Acc : Option Value → (Nat → Nat) → gT → gM → Prop} {AccX : Nat → (Nat → Nat) → gT → gM → Prop} {ad : Nat → Nat} {T : gT} {M : gM} {m_a0 : Nat} {a0 : Nat} {o : gT × gM} (hF : gFix Z cX4_init RX4 "<init>" none d mc ms Acc AccX) (hn : Z.2.2.2.2.2.1 = 1) (hd : 1 ≤ d) (hmc : 1 ≤ mc) (hms : 96 ≤ ms) (q0 : T[a0]? = some (4, m_a0)) (h : f_X4_init T M a0 = some o) (hR : ∀ ad1 : Nat → Nat, gExt T o.1 → (∀ a : Nat, a < T.length → ad1 a = ad a) → Acc none ad1 o.1 o.2) : gG Z ad T M 0 0 0 [(0, .ref a0)] [] := by
  unfold f_X4_init at h
  refine g_aload_n hF 0 rfl rfl dX4_init_0 ?_
  refine g_obj hF kw_314 kw_102 kw_103 (by omega) (Nat.le_of_ble_eq_true rfl) dX4_init_1 ?_
  refine g_aload_n hF 0 rfl rfl dX4_init_4 ?_
  refine g_bipush (v := (96 : Int32)) hF rfl dX4_init_5 ?_
  obtain ⟨x2, h2, h⟩ := gbnd h
  have g2 : gnew T M (11, 96) = some (x2.1, x2.2.1, x2.2.2) := h2
  refine g_newa_int (N := 96) hF (by decide) (by decide) (by decide) kw_167 g2 (gnew_lt g2) (gFr_r (gT_ne q0) gFr_0) (gFr_r (gT_ne q0) gFr_0) (by omega) (by omega) dX4_init_7 (fun ad2 z2 => ?_)
  have X2 := gExt.tr gExt.rf (gnew_ext g2)
  have W2 := gad_new g2 z2 gExt.rf (fun _ _ => rfl)
  have q_3 := gnew_ext g2 _ _ q0
  have q_y2 := gnew_at g2
  refine g_putF_r hF (fun _ => rfl) (fun _ => rfl) (gT_lt q_y2) rfl (fun R9 T9 N9 t9 q9 => by rw [g_own4 q9]; rfl) fl_RX4_9 q_3 dX4_init_9 ?_
  refine g_aload_n hF 0 rfl rfl dX4_init_12 ?_
  refine g_iconst (v := (-1 : Int32)) hF rfl dX4_init_13 ?_
  refine g_put_i hF rfl rfl fl_RX4_15 q_3 dX4_init_14 ?_
  refine g_aload_n hF 0 rfl rfl dX4_init_17 ?_
  refine g_iconst (v := (0 : Int32)) hF rfl dX4_init_18 ?_
  refine g_put_i hF rfl rfl fl_RX4_19 q_3 dX4_init_19 ?_
  cases h
  exact g_ret_v hF rfl dX4_init_22 (hR ad2 X2 W2) (by omega) (by omega)
theorem c_X4_init {d : Nat} {T : gT} {M : gM} {m_a0 : Nat} {a0 : Nat} {r : gT × gM} (hd : 1 ≤ d) (q0 : T[a0]? = some (4, m_a0)) (h : f_X4_init T M a0 = some (r)) : gRet d yX4_init cX4_init 1 none 1 96 [.ref a0] T M (gMade T none r.1 r.2) := by
  refine gRet_of (own := RX4) (by decide) rfl (Nat.le_of_ble_eq_true rfl) (fun Z ad0 hn h0 hF => ?_)
  exact t_X4_init hF hn hd (Nat.le_refl _) (Nat.le_refl _) q0 h (fun ad1 x1 y1 => ⟨rfl, rfl, rfl, x1, y1⟩)
theorem t_X4_follow_B29 {Z : gZ} {d mc ms : Nat} {Acc : Option Value → (Nat → Nat) → gT → gM → Prop} {AccX : Nat → (Nat → Nat) → gT → gM → Prop} {ad : Nat → Nat} {T : gT} {M : gM} {m_a0 m_a1 m_a2 : Nat} {a0 : Nat} {a1 : Nat} {a2 : Nat} {i5 : Int32} {i6 : Int32} {i7 : Int32} {o : (gM) ⊕ (Int32 × Int32 × Int32 × gM)} (hF : gFix Z cX4_follow RX4 "follow" none d mc ms Acc AccX) (hn : Z.2.2.2.2.2.1 = 11) (hd : 2 ≤ d) (q0 : T[a0]? = some (4, m_a0)) (q1 : T[a1]? = some (0, m_a1)) (q2 : T[a2]? = some (1, m_a2)) (h : f_X4_follow_B29 T M a0 a1 a2 i5 i6 i7 = some o) (hR : ∀ r9, o = .inl r9 → Acc none ad T r9) (hN : ∀ n9, o = .inr n9 → gG Z ad T n9.2.2.2 0 0 29 [(0, .ref a0), (1, .ref a1), (2, .ref a2), (5, .int n9.1), (6, .int n9.2.1), (7, .int n9.2.2.1)] []) : gG Z ad T M 0 0 29 [(0, .ref a0), (1, .ref a1), (2, .ref a2), (5, .int i5), (6, .int i6), (7, .int i7)] [] := by
  unfold f_X4_follow_B29 at h
  refine g_iload hF 5 rfl dX4_follow_29 ?_
  refine g_bipush (v := (96 : Int32)) hF rfl dX4_follow_31 ?_
  refine g_icmp_ge (tgt := 141) hF dX4_follow_33 (by decide) (fun c1 => ?_) (fun c1 => ?_)
  · replace h := gif_t c1 h
    cases h
    exact g_ret_v hF rfl dX4_follow_141 (hR _ rfl) (Nat.zero_le _) (Nat.zero_le _)
  · replace h := gif_f c1 h
    refine g_iload hF 3 rfl dX4_follow_36 ?_
    refine g_iload hF 4 rfl dX4_follow_38 ?_
    obtain ⟨x2, h2, h⟩ := gbnd h
    refine g_callSN hF my_X8_cellOf kn_998 kw_461 (c_X8_cellOf (d := d - 1) (by omega)  h2) (by omega) (Nat.zero_le _) (Nat.zero_le _) rfl rfl (Nat.le_of_ble_eq_true rfl) dX4_follow_40 (g_sameS ?_)
    refine g_istore (ls' := [(8, .int x2), (0, .ref a0), (1, .ref a1), (2, .ref a2), (5, .int i5), (6, .int i6), (7, .int i7)]) hF (by rw [hn]; decide) rfl dX4_follow_43 ?_
    refine g_aload_n hF 1 rfl rfl dX4_follow_45 ?_
    obtain ⟨b3, h3, h⟩ := gbnd h
    obtain ⟨g3, l3, q_b3⟩ := ldr_sp h3
    refine g_get_r hF g3 fl_RX4_9 q0 dX4_follow_46 ?_
    refine g_iload hF 0 rfl dX4_follow_49 ?_
    obtain ⟨v4, h4, h⟩ := gbnd h
    obtain ⟨i4h, e4v⟩ := ald_sp q_b3 h4
    refine g_iald hF q_b3 i4h dX4_follow_51 ?_
    rw [← e4v]
    refine g_if_eq (tgt := 56) hF dX4_follow_52 (by decide) (fun c5 => ?_) (fun c5 => ?_)
    · replace h := gif_t c5 h
      refine g_aload_n hF 1 rfl rfl dX4_follow_56 ?_
      obtain ⟨b6, h6, h⟩ := gbnd h
      obtain ⟨g6, l6, q_b6⟩ := ldr_sp h6
      refine g_get_r hF g6 fl_RX4_9 q0 dX4_follow_57 ?_
      refine g_iload hF 0 rfl dX4_follow_60 ?_
      refine g_iconst (v := (1 : Int32)) hF rfl dX4_follow_62 ?_
      obtain ⟨M7, h7, h⟩ := gbnd h
      obtain ⟨i7h, e7v⟩ := ast_sp q_b6 h7
      refine g_iast hF q_b6 i7h dX4_follow_63 ?_
      rw [← e7v]
      refine g_aload_n hF 3 rfl rfl dX4_follow_64 ?_
      obtain ⟨b8, h8, h⟩ := gbnd h
      obtain ⟨g8, l8, q_b8⟩ := ldr_sp h8
      refine g_get_rN hF g8 fn_RX4_32 q2 dX4_follow_65 ?_
      refine g_iload hF 0 rfl dX4_follow_68 ?_
      obtain ⟨v9, h9, h⟩ := gbnd h
      obtain ⟨i9h, e9v⟩ := ald_sp q_b8 h9
      refine g_iald hF q_b8 i9h dX4_follow_70 ?_
      rw [← e9v]
      refine g_istore (ls' := [(9, .int v9), (8, .int x2), (0, .ref a0), (1, .ref a1), (2, .ref a2), (5, .int i5), (6, .int i6), (7, .int i7)]) hF (by rw [hn]; decide) rfl dX4_follow_71 ?_
      refine g_iload hF 0 rfl dX4_follow_73 ?_
      refine g_iconst (v := (-1 : Int32)) hF rfl dX4_follow_75 ?_
      refine g_icmp_ne (tgt := 85) hF dX4_follow_76 (by decide) (fun c10 => ?_) (fun c10 => ?_)
      · replace h := gif_t c10 h
        refine g_aload_n hF 2 rfl rfl dX4_follow_85 ?_
        refine g_dup hF rfl dX4_follow_86 ?_
        refine g_get_i hF fl_RX4_19 q0 dX4_follow_87 ?_
        refine g_iconst (v := (1 : Int32)) hF rfl dX4_follow_90 ?_
        refine g_iadd hF dX4_follow_91 ?_
        refine g_put_i hF rfl rfl fl_RX4_19 q0 dX4_follow_92 ?_
        refine g_aload_n hF 3 rfl rfl dX4_follow_95 ?_
        obtain ⟨b11, h11, h⟩ := gbnd h
        obtain ⟨g11, l11, q_b11⟩ := ldr_sp h11
        refine g_get_rN hF g11 fn_RX4_37 q1 dX4_follow_96 ?_
        refine g_iload hF 0 rfl dX4_follow_99 ?_
        obtain ⟨b12, h12, h⟩ := gbnd h
        obtain ⟨i12h, g12, l12, q_b12⟩ := aldr_sp q_b11 h12
        refine g_aald hF q_b11 (Or.inr (Or.inl ⟨rfl, rfl⟩)) i12h g12 dX4_follow_101 ?_
        obtain ⟨b13, h13, h⟩ := gbnd h
        obtain ⟨g13, l13, q_b13⟩ := ldr_sp h13
        refine g_get_rN hF g13 fn_RX4_43 q_b12 dX4_follow_102 ?_
        refine g_iload hF 6 rfl dX4_follow_105 ?_
        obtain ⟨v14, h14, h⟩ := gbnd h
        obtain ⟨i14h, e14v⟩ := ald_sp q_b13 h14
        refine g_iald hF q_b13 i14h dX4_follow_107 ?_
        rw [← e14v]
        refine g_istore (ls' := [(10, .int v14), (9, .int v9), (8, .int x2), (0, .ref a0), (1, .ref a1), (2, .ref a2), (5, .int i5), (6, .int i6), (7, .int i7)]) hF (by rw [hn]; decide) rfl dX4_follow_108 ?_
        refine g_iload hF 0 rfl dX4_follow_110 ?_
        refine g_bipush (v := (-2 : Int32)) hF rfl dX4_follow_112 ?_
        refine g_icmp_le (tgt := 124) hF dX4_follow_114 (by decide) (fun c15 => ?_) (fun c15 => ?_)
        · replace h := gif_t c15 h
          refine g_iload hF 1 rfl dX4_follow_124 ?_
          refine g_istore (ls' := [(5, .int v9), (10, .int v14), (9, .int v9), (8, .int x2), (0, .ref a0), (1, .ref a1), (2, .ref a2), (6, .int i6), (7, .int i7)]) hF (by rw [hn]; decide) rfl dX4_follow_126 ?_
          refine g_bipush (v := (-2 : Int32)) hF rfl dX4_follow_128 ?_
          refine g_iload hF 1 rfl dX4_follow_130 ?_
          refine g_isub hF dX4_follow_132 ?_
          refine g_istore (ls' := [(6, .int ((-2 : Int32) - v14)), (5, .int v9), (10, .int v14), (9, .int v9), (8, .int x2), (0, .ref a0), (1, .ref a1), (2, .ref a2), (7, .int i7)]) hF (by rw [hn]; decide) rfl dX4_follow_133 ?_
          refine g_iinc (n := 1) (v := (i7 + (1 : Int32))) (ls' := [(7, .int (i7 + (1 : Int32))), (6, .int ((-2 : Int32) - v14)), (5, .int v9), (10, .int v14), (9, .int v9), (8, .int x2), (0, .ref a0), (1, .ref a1), (2, .ref a2)]) hF 8 rfl rfl (by rw [hn]; decide) rfl dX4_follow_135 ?_
          refine g_goto (tgt := 29) hF dX4_follow_138 (by decide) ?_
          exact gG_sub [6, 7, 8, 2, 1, 0] rfl (hN _ (Option.some.inj h).symm)
        · replace h := gif_f c15 h
          refine g_aload_n hF 3 rfl rfl dX4_follow_117 ?_
          refine g_iload hF 0 rfl dX4_follow_118 ?_
          refine g_put_i hF rfl rfl fl_RX4_15 q0 dX4_follow_120 ?_
          cases h
          exact g_ret_v hF rfl dX4_follow_123 (hR _ rfl) (Nat.zero_le _) (Nat.zero_le _)
      · replace h := gif_n c10 h
        refine g_aload_n hF 2 rfl rfl dX4_follow_79 ?_
        refine g_iconst (v := (-1 : Int32)) hF rfl dX4_follow_80 ?_
        refine g_put_i hF rfl rfl fl_RX4_15 q0 dX4_follow_81 ?_
        cases h
        exact g_ret_v hF rfl dX4_follow_84 (hR _ rfl) (Nat.zero_le _) (Nat.zero_le _)
    · replace h := gif_f c5 h
      cases h
      exact g_ret_v hF rfl dX4_follow_55 (hR _ rfl) (Nat.zero_le _) (Nat.zero_le _)
theorem t_X4_follow_L29 {Z : gZ} {d mc ms : Nat} {Acc : Option Value → (Nat → Nat) → gT → gM → Prop} {AccX : Nat → (Nat → Nat) → gT → gM → Prop} {ad : Nat → Nat} {T : gT} {M : gM} {m_a0 m_a1 m_a2 : Nat} {a0 : Nat} {a1 : Nat} {a2 : Nat} {i5 : Int32} {i6 : Int32} {i7 : Int32} {o : gM} (hF : gFix Z cX4_follow RX4 "follow" none d mc ms Acc AccX) (hn : Z.2.2.2.2.2.1 = 11) (hd : 2 ≤ d) (q0 : T[a0]? = some (4, m_a0)) (q1 : T[a1]? = some (0, m_a1)) (q2 : T[a2]? = some (1, m_a2)) (h : gloop (fun x => f_X4_follow_B29 T x.2.2.2 a0 a1 a2 x.1 x.2.1 x.2.2.1) gFU (i5, i6, i7, M) = some o) (hR : Acc none ad T o) : gG Z ad T M 0 0 29 [(0, .ref a0), (1, .ref a1), (2, .ref a2), (5, .int i5), (6, .int i6), (7, .int i7)] [] := by
  refine gloop_ind (P := fun x0 : Int32 × Int32 × Int32 × gM => gG Z ad T x0.2.2.2 0 0 29 [(0, .ref a0), (1, .ref a1), (2, .ref a2), (5, .int x0.1), (6, .int x0.2.1), (7, .int x0.2.2.1)] []) (e := o) (fun x0 y hy hl hr => ?_) gFU (i5, i6, i7, M) h
  exact t_X4_follow_B29 hF hn hd q0 q1 q2 hy (fun r9 q9 => by rw [hl _ q9]; exact hR) (fun n9 q9 => hr n9 q9)
theorem t_X4_follow {Z : gZ} {d mc ms : Nat} {Acc : Option Value → (Nat → Nat) → gT → gM → Prop} {AccX : Nat → (Nat → Nat) → gT → gM → Prop} {ad : Nat → Nat} {T : gT} {M : gM} {m_a0 m_a1 m_a2 : Nat} {a0 : Nat} {a1 : Nat} {a2 : Nat} {i3 : Int32} {i4 : Int32} {o : gM} (hF : gFix Z cX4_follow RX4 "follow" none d mc ms Acc AccX) (hn : Z.2.2.2.2.2.1 = 11) (hd : 2 ≤ d) (q0 : T[a0]? = some (4, m_a0)) (q1 : T[a1]? = some (0, m_a1)) (q2 : T[a2]? = some (1, m_a2)) (h : f_X4_follow T M a0 a1 a2 i3 i4 = some o) (hR : Acc none ad T o) : gG Z ad T M 0 0 0 [(0, .ref a0), (1, .ref a1), (2, .ref a2), (3, .int i3), (4, .int i4)] [] := by
  unfold f_X4_follow at h
  refine g_aload_n hF 0 rfl rfl dX4_follow_0 ?_
  obtain ⟨b16, h16, h⟩ := gbnd h
  obtain ⟨g16, l16, q_b16⟩ := ldr_sp h16
  refine g_get_r hF g16 fl_RX4_9 q0 dX4_follow_1 ?_
  refine g_iconst (v := (0 : Int32)) hF rfl dX4_follow_4 ?_
  obtain ⟨x17, h17, h⟩ := gbnd h
  refine g_callS hF my_J7_fill_53178 kw_997 kw_861 (c_J7_fill_53178 (d := d - 1) (by omega) q_b16 h17) (by omega) (Nat.zero_le _) (Nat.zero_le _) rfl rfl (Nat.le_of_ble_eq_true rfl) dX4_follow_5 (g_sameN ?_)
  refine g_aload_n hF 0 rfl rfl dX4_follow_8 ?_
  refine g_bipush (v := (-2 : Int32)) hF rfl dX4_follow_9 ?_
  refine g_put_i hF rfl rfl fl_RX4_15 q0 dX4_follow_11 ?_
  refine g_aload_n hF 0 rfl rfl dX4_follow_14 ?_
  refine g_iconst (v := (0 : Int32)) hF rfl dX4_follow_15 ?_
  refine g_put_i hF rfl rfl fl_RX4_19 q0 dX4_follow_16 ?_
  refine g_iload_n hF 3 rfl rfl dX4_follow_19 ?_
  refine g_istore (ls' := [(5, .int i3), (0, .ref a0), (1, .ref a1), (2, .ref a2), (3, .int i3), (4, .int i4)]) hF (by rw [hn]; decide) rfl dX4_follow_20 ?_
  refine g_iload hF 5 rfl dX4_follow_22 ?_
  refine g_istore (ls' := [(6, .int i4), (5, .int i3), (0, .ref a0), (1, .ref a1), (2, .ref a2), (3, .int i3), (4, .int i4)]) hF (by rw [hn]; decide) rfl dX4_follow_24 ?_
  refine g_iconst (v := (0 : Int32)) hF rfl dX4_follow_26 ?_
  refine g_istore (ls' := [(7, .int (0 : Int32)), (6, .int i4), (5, .int i3), (0, .ref a0), (1, .ref a1), (2, .ref a2), (3, .int i3), (4, .int i4)]) hF (by rw [hn]; decide) rfl dX4_follow_27 ?_
  obtain ⟨x18, h18, h⟩ := gbnd h
  cases h
  exact gG_sub [3, 4, 5, 2, 1, 0] rfl (t_X4_follow_L29 hF hn hd q0 q1 q2 h18 hR)
theorem c_X4_follow {d : Nat} {T : gT} {M : gM} {m_a0 m_a1 m_a2 : Nat} {a0 : Nat} {a1 : Nat} {a2 : Nat} {i3 : Int32} {i4 : Int32} {r : gM} (hd : 2 ≤ d) (q0 : T[a0]? = some (4, m_a0)) (q1 : T[a1]? = some (0, m_a1)) (q2 : T[a2]? = some (1, m_a2)) (h : f_X4_follow T M a0 a1 a2 i3 i4 = some (r)) : gRet d yX4_follow cX4_follow 11 none 0 0 [.ref a0, .ref a1, .ref a2, .int i3, .int i4] T M (gSame T none r) := by
  refine gRet_of (own := RX4) (by decide) rfl (Nat.le_of_ble_eq_true rfl) (fun Z ad0 hn h0 hF => ?_)
  exact t_X4_follow hF hn hd q0 q1 q2 h ⟨rfl, rfl, rfl, rfl⟩
theorem t_X6_init {Z : gZ} {d mc ms : Nat} {Acc : Option Value → (Nat → Nat) → gT → gM → Prop} {AccX : Nat → (Nat → Nat) → gT → gM → Prop} {ad : Nat → Nat} {T : gT} {M : gM} {m_a0 : Nat} {a0 : Nat} {o : gT × gM} (hF : gFix Z cX6_init RX6 "<init>" none d mc ms Acc AccX) (hn : Z.2.2.2.2.2.1 = 1) (hd : 1 ≤ d) (hmc : 1 ≤ mc) (hms : 800 ≤ ms) (q0 : T[a0]? = some (6, m_a0)) (h : f_X6_init T M a0 = some o) (hR : ∀ ad1 : Nat → Nat, gExt T o.1 → (∀ a : Nat, a < T.length → ad1 a = ad a) → Acc none ad1 o.1 o.2) : gG Z ad T M 0 0 0 [(0, .ref a0)] [] := by
  unfold f_X6_init at h
  refine g_aload_n hF 0 rfl rfl dX6_init_0 ?_
  refine g_obj hF kw_115 kw_102 kw_103 (by omega) (Nat.le_of_ble_eq_true rfl) dX6_init_1 ?_
  refine g_aload_n hF 0 rfl rfl dX6_init_4 ?_
  refine g_sipush (v := (800 : Int32)) hF rfl dX6_init_5 ?_
  obtain ⟨x2, h2, h⟩ := gbnd h
  have g2 : gnew T M (10, 800) = some (x2.1, x2.2.1, x2.2.2) := h2
  refine g_newa_byte (N := 800) hF (by decide) (by decide) (by decide) kw_145 g2 (gnew_lt g2) (gFr_r (gT_ne q0) gFr_0) (gFr_r (gT_ne q0) gFr_0) (by omega) (by omega) dX6_init_8 (fun ad2 z2 => ?_)
  have X2 := gExt.tr gExt.rf (gnew_ext g2)
  have W2 := gad_new g2 z2 gExt.rf (fun _ _ => rfl)
  have q_3 := gnew_ext g2 _ _ q0
  have q_y2 := gnew_at g2
  refine g_putF_r hF (fun _ => rfl) (fun _ => rfl) (gT_lt q_y2) rfl (fun R9 T9 N9 t9 q9 => by rw [g_own6 q9]; rfl) fl_RX6_9 q_3 dX6_init_10 ?_
  refine g_aload_n hF 0 rfl rfl dX6_init_13 ?_
  refine g_iconst (v := (0 : Int32)) hF rfl dX6_init_14 ?_
  refine g_put_i hF rfl rfl fl_RX6_15 q_3 dX6_init_15 ?_
  refine g_aload_n hF 0 rfl rfl dX6_init_18 ?_
  refine g_iconst (v := (0 : Int32)) hF rfl dX6_init_19 ?_
  refine g_put_i hF rfl rfl fl_RX6_19 q_3 dX6_init_20 ?_
  refine g_aload_n hF 0 rfl rfl dX6_init_23 ?_
  refine g_iconst (v := (0 : Int32)) hF rfl dX6_init_24 ?_
  refine g_put_i hF rfl rfl fl_RX6_22 q_3 dX6_init_25 ?_
  refine g_aload_n hF 0 rfl rfl dX6_init_28 ?_
  refine g_iconst (v := (0 : Int32)) hF rfl dX6_init_29 ?_
  refine g_put_i hF rfl rfl fl_RX6_25 q_3 dX6_init_30 ?_
  refine g_aload_n hF 0 rfl rfl dX6_init_33 ?_
  refine g_lconst (v := (0 : Int64)) hF rfl dX6_init_34 ?_
  refine g_put_l hF rfl rfl fl_RX6_28 q_3 dX6_init_35 ?_
  refine g_aload_n hF 0 rfl rfl dX6_init_38 ?_
  refine g_iconst (v := (0 : Int32)) hF rfl dX6_init_39 ?_
  refine g_put_i hF rfl rfl fl_RX6_32 q_3 dX6_init_40 ?_
  refine g_aload_n hF 0 rfl rfl dX6_init_43 ?_
  refine g_iconst (v := (0 : Int32)) hF rfl dX6_init_44 ?_
  refine g_put_i hF rfl rfl fl_RX6_35 q_3 dX6_init_45 ?_
  cases h
  exact g_ret_v hF rfl dX6_init_48 (hR ad2 X2 W2) (by omega) (by omega)
theorem c_X6_init {d : Nat} {T : gT} {M : gM} {m_a0 : Nat} {a0 : Nat} {r : gT × gM} (hd : 1 ≤ d) (q0 : T[a0]? = some (6, m_a0)) (h : f_X6_init T M a0 = some (r)) : gRet d yX6_init cX6_init 1 none 1 800 [.ref a0] T M (gMade T none r.1 r.2) := by
  refine gRet_of (own := RX6) (by decide) rfl (Nat.le_of_ble_eq_true rfl) (fun Z ad0 hn h0 hF => ?_)
  exact t_X6_init hF hn hd (Nat.le_refl _) (Nat.le_refl _) q0 h (fun ad1 x1 y1 => ⟨rfl, rfl, rfl, x1, y1⟩)
theorem t_X5_init {Z : gZ} {d mc ms : Nat} {Acc : Option Value → (Nat → Nat) → gT → gM → Prop} {AccX : Nat → (Nat → Nat) → gT → gM → Prop} {ad : Nat → Nat} {T : gT} {M : gM} {m_a0 : Nat} {a0 : Nat} {o : gT × gM} (hF : gFix Z cX5_init RX5 "<init>" none d mc ms Acc AccX) (hn : Z.2.2.2.2.2.1 = 1) (hd : 3 ≤ d) (hmc : 34 ≤ mc) (hms : 1863 ≤ ms) (q0 : T[a0]? = some (5, m_a0)) (h : f_X5_init T M a0 = some o) (hR : ∀ ad1 : Nat → Nat, gExt T o.1 → (∀ a : Nat, a < T.length → ad1 a = ad a) → Acc none ad1 o.1 o.2) : gG Z ad T M 0 0 0 [(0, .ref a0)] [] := by
  unfold f_X5_init at h
  refine g_aload_n hF 0 rfl rfl dX5_init_0 ?_
  refine g_obj hF kw_109 kw_102 kw_103 (by omega) (Nat.le_of_ble_eq_true rfl) dX5_init_1 ?_
  refine g_aload_n hF 0 rfl rfl dX5_init_4 ?_
  obtain ⟨x2, h2, h⟩ := gbnd h
  have g2 : gnew T M (6, 0) = some (x2.1, x2.2.1, x2.2.2) := h2
  refine g_new hF gC_6 gDf_6 kw_110 kw_111 kw_67 g2 (gnew_lt g2) (gFr_r (gT_ne q0) gFr_0) (gFr_r (gT_ne q0) gFr_0) (by omega) (by omega) dX5_init_5 (fun ad2 z2 => ?_)
  have X2 := gExt.tr gExt.rf (gnew_ext g2)
  have W2 := gad_new g2 z2 gExt.rf (fun _ _ => rfl)
  have q_3 := gnew_ext g2 _ _ q0
  have q_y2 := gnew_at g2
  refine g_dup hF rfl dX5_init_8 ?_
  obtain ⟨x4, h4, h⟩ := gbnd h
  refine g_callIN hF my_X6_init kn_112 kw_113 rfl gC_6.1 (by decide) q_y2 (c_X6_init (d := d - 1) (by omega) q_y2 h4) (by omega) (by omega) (by omega) rfl rfl (Nat.le_of_ble_eq_true rfl) dX5_init_9 (g_madeN (gOld_r (gT_lt q_3) gOld_0) (gOld_r (gT_lt q_y2) (gOld_r (gT_lt q_3) gOld_0)) (fun ad4 e4 y4 => ?_))
  have X4 := gExt.tr X2 e4
  have W4 := gad_call y4 X2 W2
  have q_5 := e4 _ _ q_3
  have q_6 := e4 _ _ q_y2
  refine g_putF_r hF (fun _ => rfl) (fun _ => rfl) (gT_lt q_6) rfl (fun R9 T9 N9 t9 q9 => by rw [g_own5 q9]; rfl) fl_RX5_12 q_5 dX5_init_12 ?_
  refine g_aload_n hF 0 rfl rfl dX5_init_15 ?_
  obtain ⟨x7, h7, h⟩ := gbnd h
  have g7 : gnew x4.1 (sr x4.2 a0 0 (some x2.1)) (0, 0) = some (x7.1, x7.2.1, x7.2.2) := h7
  refine g_new hF gC_0 gDf_0 kw_146 kw_147 kw_68 g7 (gnew_lt g7) (gFr_r (gT_ne q_5) gFr_0) (gFr_r (gT_ne q_5) gFr_0) (by omega) (by omega) dX5_init_16 (fun ad7 z7 => ?_)
  have X7 := gExt.tr X4 (gnew_ext g7)
  have W7 := gad_new g7 z7 X4 W4
  have q_8 := gnew_ext g7 _ _ q_5
  have q_y7 := gnew_at g7
  refine g_dup hF rfl dX5_init_19 ?_
  obtain ⟨x9, h9, h⟩ := gbnd h
  refine g_callIN hF my_X0_init kn_148 kw_149 rfl gC_0.1 (by decide) q_y7 (c_X0_init (d := d - 1) (by omega) q_y7 h9) (by omega) (by omega) (by omega) rfl rfl (Nat.le_of_ble_eq_true rfl) dX5_init_20 (g_madeN (gOld_r (gT_lt q_8) gOld_0) (gOld_r (gT_lt q_y7) (gOld_r (gT_lt q_8) gOld_0)) (fun ad9 e9 y9 => ?_))
  have X9 := gExt.tr X7 e9
  have W9 := gad_call y9 X7 W7
  have q_10 := e9 _ _ q_8
  have q_11 := e9 _ _ q_y7
  refine g_putF_r hF (fun _ => rfl) (fun _ => rfl) (gT_lt q_11) rfl (fun R9 T9 N9 t9 q9 => by rw [g_own5 q9]; rfl) fl_RX5_21 q_10 dX5_init_23 ?_
  refine g_aload_n hF 0 rfl rfl dX5_init_26 ?_
  refine g_bipush (v := (8 : Int32)) hF rfl dX5_init_27 ?_
  obtain ⟨x12, h12, h⟩ := gbnd h
  have g12 : gnew x9.1 (sr x9.2 a0 1 (some x7.1)) (12, 8) = some (x12.1, x12.2.1, x12.2.2) := h12
  refine g_newa_long (N := 8) hF (by decide) (by decide) (by decide) kw_273 g12 (gnew_lt g12) (gFr_r (gT_ne q_10) gFr_0) (gFr_r (gT_ne q_10) gFr_0) (by omega) (by omega) dX5_init_29 (fun ad12 z12 => ?_)
  have X12 := gExt.tr X9 (gnew_ext g12)
  have W12 := gad_new g12 z12 X9 W9
  have q_13 := gnew_ext g12 _ _ q_10
  have q_y12 := gnew_at g12
  refine g_putF_r hF (fun _ => rfl) (fun _ => rfl) (gT_lt q_y12) rfl (fun R9 T9 N9 t9 q9 => by rw [g_own5 q9]; rfl) fl_RX5_25 q_13 dX5_init_31 ?_
  refine g_aload_n hF 0 rfl rfl dX5_init_34 ?_
  refine g_bipush (v := (12 : Int32)) hF rfl dX5_init_35 ?_
  obtain ⟨x14, h14, h⟩ := gbnd h
  have g14 : gnew x12.2.1 (sr x12.2.2 a0 2 (some x12.1)) (12, 12) = some (x14.1, x14.2.1, x14.2.2) := h14
  refine g_newa_long (N := 12) hF (by decide) (by decide) (by decide) kw_273 g14 (gnew_lt g14) (gFr_r (gT_ne q_13) gFr_0) (gFr_r (gT_ne q_13) gFr_0) (by omega) (by omega) dX5_init_37 (fun ad14 z14 => ?_)
  have X14 := gExt.tr X12 (gnew_ext g14)
  have W14 := gad_new g14 z14 X12 W12
  have q_15 := gnew_ext g14 _ _ q_13
  have q_y14 := gnew_at g14
  refine g_putF_r hF (fun _ => rfl) (fun _ => rfl) (gT_lt q_y14) rfl (fun R9 T9 N9 t9 q9 => by rw [g_own5 q9]; rfl) fl_RX5_29 q_15 dX5_init_39 ?_
  refine g_aload_n hF 0 rfl rfl dX5_init_42 ?_
  refine g_sipush (v := (800 : Int32)) hF rfl dX5_init_43 ?_
  obtain ⟨x16, h16, h⟩ := gbnd h
  have g16 : gnew x14.2.1 (sr x14.2.2 a0 3 (some x14.1)) (11, 800) = some (x16.1, x16.2.1, x16.2.2) := h16
  refine g_newa_int (N := 800) hF (by decide) (by decide) (by decide) kw_167 g16 (gnew_lt g16) (gFr_r (gT_ne q_15) gFr_0) (gFr_r (gT_ne q_15) gFr_0) (by omega) (by omega) dX5_init_46 (fun ad16 z16 => ?_)
  have X16 := gExt.tr X14 (gnew_ext g16)
  have W16 := gad_new g16 z16 X14 W14
  have q_17 := gnew_ext g16 _ _ q_15
  have q_y16 := gnew_at g16
  refine g_putF_r hF (fun _ => rfl) (fun _ => rfl) (gT_lt q_y16) rfl (fun R9 T9 N9 t9 q9 => by rw [g_own5 q9]; rfl) fl_RX5_32 q_17 dX5_init_48 ?_
  refine g_aload_n hF 0 rfl rfl dX5_init_51 ?_
  refine g_iconst (v := (0 : Int32)) hF rfl dX5_init_52 ?_
  refine g_put_i hF rfl rfl fl_RX5_36 q_17 dX5_init_53 ?_
  refine g_aload_n hF 0 rfl rfl dX5_init_56 ?_
  refine g_iconst (v := (0 : Int32)) hF rfl dX5_init_57 ?_
  refine g_put_i hF rfl rfl fl_RX5_40 q_17 dX5_init_58 ?_
  refine g_aload_n hF 0 rfl rfl dX5_init_61 ?_
  refine g_iconst (v := (0 : Int32)) hF rfl dX5_init_62 ?_
  refine g_put_i hF rfl rfl fl_RX5_44 q_17 dX5_init_63 ?_
  refine g_aload_n hF 0 rfl rfl dX5_init_66 ?_
  refine g_iconst (v := (0 : Int32)) hF rfl dX5_init_67 ?_
  refine g_put_i hF rfl rfl fl_RX5_47 q_17 dX5_init_68 ?_
  refine g_aload_n hF 0 rfl rfl dX5_init_71 ?_
  refine g_iconst (v := (0 : Int32)) hF rfl dX5_init_72 ?_
  refine g_put_i hF rfl rfl fl_RX5_50 q_17 dX5_init_73 ?_
  refine g_aload_n hF 0 rfl rfl dX5_init_76 ?_
  refine g_iconst (v := (-1 : Int32)) hF rfl dX5_init_77 ?_
  refine g_put_i hF rfl rfl fl_RX5_53 q_17 dX5_init_78 ?_
  cases h
  exact g_ret_v hF rfl dX5_init_81 (hR ad16 X16 W16) (by omega) (by omega)
theorem c_X5_init {d : Nat} {T : gT} {M : gM} {m_a0 : Nat} {a0 : Nat} {r : gT × gM} (hd : 3 ≤ d) (q0 : T[a0]? = some (5, m_a0)) (h : f_X5_init T M a0 = some (r)) : gRet d yX5_init cX5_init 1 none 34 1863 [.ref a0] T M (gMade T none r.1 r.2) := by
  refine gRet_of (own := RX5) (by decide) rfl (Nat.le_of_ble_eq_true rfl) (fun Z ad0 hn h0 hF => ?_)
  exact t_X5_init hF hn hd (Nat.le_refl _) (Nat.le_refl _) q0 h (fun ad1 x1 y1 => ⟨rfl, rfl, rfl, x1, y1⟩)
theorem t_X5_addCode {Z : gZ} {d mc ms : Nat} {Acc : Option Value → (Nat → Nat) → gT → gM → Prop} {AccX : Nat → (Nat → Nat) → gT → gM → Prop} {ad : Nat → Nat} {T : gT} {M : gM} {m_a0 : Nat} {a0 : Nat} {i1 : Int32} {o : gM} (hF : gFix Z cX5_addCode RX5 "addCode" none d mc ms Acc AccX) (hn : Z.2.2.2.2.2.1 = 2) (hd : 1 ≤ d) (q0 : T[a0]? = some (5, m_a0)) (h : f_X5_addCode T M a0 i1 = some o) (hR : Acc none ad T o) : gG Z ad T M 0 0 0 [(0, .ref a0), (1, .int i1)] [] := by
  unfold f_X5_addCode at h
  refine g_aload_n hF 0 rfl rfl dX5_addCode_0 ?_
  refine g_get_i hF fl_RX5_36 q0 dX5_addCode_1 ?_
  refine g_sipush (v := (800 : Int32)) hF rfl dX5_addCode_4 ?_
  refine g_icmp_ge (tgt := 30) hF dX5_addCode_7 (by decide) (fun c1 => ?_) (fun c1 => ?_)
  · replace h := gif_t c1 h
    cases h
    exact g_ret_v hF rfl dX5_addCode_30 hR (Nat.zero_le _) (Nat.zero_le _)
  · replace h := gif_f c1 h
    refine g_aload_n hF 0 rfl rfl dX5_addCode_10 ?_
    obtain ⟨b2, h2, h⟩ := gbnd h
    obtain ⟨g2, l2, q_b2⟩ := ldr_sp h2
    refine g_get_r hF g2 fl_RX5_32 q0 dX5_addCode_11 ?_
    refine g_aload_n hF 0 rfl rfl dX5_addCode_14 ?_
    refine g_get_i hF fl_RX5_36 q0 dX5_addCode_15 ?_
    refine g_iload_n hF 1 rfl rfl dX5_addCode_18 ?_
    obtain ⟨M3, h3, h⟩ := gbnd h
    obtain ⟨i3h, e3v⟩ := ast_sp q_b2 h3
    refine g_iast hF q_b2 i3h dX5_addCode_19 ?_
    rw [← e3v]
    refine g_aload_n hF 0 rfl rfl dX5_addCode_20 ?_
    refine g_dup hF rfl dX5_addCode_21 ?_
    refine g_get_i hF fl_RX5_36 q0 dX5_addCode_22 ?_
    refine g_iconst (v := (1 : Int32)) hF rfl dX5_addCode_25 ?_
    refine g_iadd hF dX5_addCode_26 ?_
    refine g_put_i hF rfl rfl fl_RX5_36 q0 dX5_addCode_27 ?_
    cases h
    exact g_ret_v hF rfl dX5_addCode_30 hR (Nat.zero_le _) (Nat.zero_le _)
theorem c_X5_addCode {d : Nat} {T : gT} {M : gM} {m_a0 : Nat} {a0 : Nat} {i1 : Int32} {r : gM} (hd : 1 ≤ d) (q0 : T[a0]? = some (5, m_a0)) (h : f_X5_addCode T M a0 i1 = some (r)) : gRet d yX5_addCode cX5_addCode 2 none 0 0 [.ref a0, .int i1] T M (gSame T none r) := by
  refine gRet_of (own := RX5) (by decide) rfl (Nat.le_of_ble_eq_true rfl) (fun Z ad0 hn h0 hF => ?_)
  exact t_X5_addCode hF hn hd q0 h ⟨rfl, rfl, rfl, rfl⟩
theorem t_X6_runOf_B5 {Z : gZ} {d mc ms : Nat} {Acc : Option Value → (Nat → Nat) → gT → gM → Prop} {AccX : Nat → (Nat → Nat) → gT → gM → Prop} {ad : Nat → Nat} {T : gT} {M : gM} {m_a0 : Nat} {a0 : Nat} {i1 : Int32} {i2 : Int32} {i3 : Int32} {o : (Int32) ⊕ (Int32)} (hF : gFix Z cX6_runOf RX6 "runOf" (some .int) d mc ms Acc AccX) (hn : Z.2.2.2.2.2.1 = 4) (hd : 1 ≤ d) (q0 : T[a0]? = some (6, m_a0)) (h : f_X6_runOf_B5 T M a0 i1 i2 i3 = some o) (hE : ∀ e9, o = .inl e9 → gG Z ad T M 0 0 39 [(0, .ref a0), (3, .int e9)] []) (hN : ∀ n9, o = .inr n9 → gG Z ad T M 0 0 5 [(0, .ref a0), (1, .int i1), (2, .int i2), (3, .int n9)] []) : gG Z ad T M 0 0 5 [(0, .ref a0), (1, .int i1), (2, .int i2), (3, .int i3)] [] := by
  unfold f_X6_runOf_B5 at h
  refine g_iload_n hF 3 rfl rfl dX6_runOf_5 ?_
  refine g_aload_n hF 0 rfl rfl dX6_runOf_6 ?_
  refine g_get_i hF fl_RX6_15 q0 dX6_runOf_7 ?_
  refine g_icmp_ge (tgt := 39) hF dX6_runOf_10 (by decide) (fun c1 => ?_) (fun c1 => ?_)
  · replace h := gif_t c1 h
    exact gG_sub [0, 3] rfl (hE _ (Option.some.inj h).symm)
  · replace h := gif_f c1 h
    refine g_aload_n hF 0 rfl rfl dX6_runOf_13 ?_
    obtain ⟨b2, h2, h⟩ := gbnd h
    obtain ⟨g2, l2, q_b2⟩ := ldr_sp h2
    refine g_get_r hF g2 fl_RX6_9 q0 dX6_runOf_14 ?_
    refine g_iload_n hF 3 rfl rfl dX6_runOf_17 ?_
    obtain ⟨v3, h3, h⟩ := gbnd h
    obtain ⟨i3h, e3v⟩ := ald_sp q_b2 h3
    refine g_bald hF q_b2 i3h dX6_runOf_18 ?_
    rw [← e3v]
    refine g_iload_n hF 1 rfl rfl dX6_runOf_19 ?_
    refine g_icmp_lt (tgt := 39) hF dX6_runOf_20 (by decide) (fun c4 => ?_) (fun c4 => ?_)
    · replace h := gif_t c4 h
      exact gG_sub [0, 3] rfl (hE _ (Option.some.inj h).symm)
    · replace h := gif_f c4 h
      refine g_aload_n hF 0 rfl rfl dX6_runOf_23 ?_
      obtain ⟨b5, h5, h⟩ := gbnd h
      obtain ⟨g5, l5, q_b5⟩ := ldr_sp h5
      refine g_get_r hF g5 fl_RX6_9 q0 dX6_runOf_24 ?_
      refine g_iload_n hF 3 rfl rfl dX6_runOf_27 ?_
      obtain ⟨v6, h6, h⟩ := gbnd h
      obtain ⟨i6h, e6v⟩ := ald_sp q_b5 h6
      refine g_bald hF q_b5 i6h dX6_runOf_28 ?_
      rw [← e6v]
      refine g_iload_n hF 2 rfl rfl dX6_runOf_29 ?_
      refine g_icmp_gt (tgt := 39) hF dX6_runOf_30 (by decide) (fun c7 => ?_) (fun c7 => ?_)
      · replace h := gif_t c7 h
        exact gG_sub [0, 3] rfl (hE _ (Option.some.inj h).symm)
      · replace h := gif_f c7 h
        refine g_iinc (n := 1) (v := (i3 + (1 : Int32))) (ls' := [(3, .int (i3 + (1 : Int32))), (0, .ref a0), (1, .int i1), (2, .int i2)]) hF 3 rfl rfl (by rw [hn]; decide) rfl dX6_runOf_33 ?_
        refine g_goto (tgt := 5) hF dX6_runOf_36 (by decide) ?_
        exact gG_sub [1, 2, 3, 0] rfl (hN _ (Option.some.inj h).symm)
theorem t_X6_runOf_L5 {Z : gZ} {d mc ms : Nat} {Acc : Option Value → (Nat → Nat) → gT → gM → Prop} {AccX : Nat → (Nat → Nat) → gT → gM → Prop} {ad : Nat → Nat} {T : gT} {M : gM} {m_a0 : Nat} {a0 : Nat} {i1 : Int32} {i2 : Int32} {i3 : Int32} {o : Int32} (hF : gFix Z cX6_runOf RX6 "runOf" (some .int) d mc ms Acc AccX) (hn : Z.2.2.2.2.2.1 = 4) (hd : 1 ≤ d) (q0 : T[a0]? = some (6, m_a0)) (h : gloop (fun x => f_X6_runOf_B5 T M a0 i1 i2 x) gFU i3 = some o) (hE : gG Z ad T M 0 0 39 [(0, .ref a0), (3, .int o)] []) : gG Z ad T M 0 0 5 [(0, .ref a0), (1, .int i1), (2, .int i2), (3, .int i3)] [] := by
  refine gloop_ind (P := fun x0 : Int32 => gG Z ad T M 0 0 5 [(0, .ref a0), (1, .int i1), (2, .int i2), (3, .int x0)] []) (e := o) (fun x0 y hy hl hr => ?_) gFU i3 h
  exact t_X6_runOf_B5 hF hn hd q0 hy (fun e9 q9 => by rw [hl _ q9]; exact hE) (fun n9 q9 => hr n9 q9)
theorem t_X6_runOf {Z : gZ} {d mc ms : Nat} {Acc : Option Value → (Nat → Nat) → gT → gM → Prop} {AccX : Nat → (Nat → Nat) → gT → gM → Prop} {ad : Nat → Nat} {T : gT} {M : gM} {m_a0 : Nat} {a0 : Nat} {i1 : Int32} {i2 : Int32} {o : Int32} (hF : gFix Z cX6_runOf RX6 "runOf" (some .int) d mc ms Acc AccX) (hn : Z.2.2.2.2.2.1 = 4) (hd : 1 ≤ d) (q0 : T[a0]? = some (6, m_a0)) (h : f_X6_runOf T M a0 i1 i2 = some o) (hR : Acc (some (.int o)) ad T M) : gG Z ad T M 0 0 0 [(0, .ref a0), (1, .int i1), (2, .int i2)] [] := by
  unfold f_X6_runOf at h
  refine g_aload_n hF 0 rfl rfl dX6_runOf_0 ?_
  refine g_get_i hF fl_RX6_19 q0 dX6_runOf_1 ?_
  refine g_istore_n (ls' := [(3, .int (gi M a0 2)), (0, .ref a0), (1, .int i1), (2, .int i2)]) hF rfl (by rw [hn]; decide) rfl dX6_runOf_4 ?_
  obtain ⟨x8, h8, h⟩ := gbnd h
  refine gG_sub [1, 2, 3, 0] rfl (t_X6_runOf_L5 hF hn hd q0 h8 ?_)
  refine g_iload_n hF 1 rfl rfl dX6_runOf_39 ?_
  refine g_aload_n hF 0 rfl rfl dX6_runOf_40 ?_
  refine g_get_i hF fl_RX6_19 q0 dX6_runOf_41 ?_
  refine g_isub hF dX6_runOf_44 ?_
  cases h
  exact g_ret_i hF rfl rfl dX6_runOf_45 hR (Nat.zero_le _) (Nat.zero_le _)
theorem c_X6_runOf {d : Nat} {T : gT} {M : gM} {m_a0 : Nat} {a0 : Nat} {i1 : Int32} {i2 : Int32} {r : Int32} (hd : 1 ≤ d) (q0 : T[a0]? = some (6, m_a0)) (h : f_X6_runOf T M a0 i1 i2 = some (r)) : gRet d yX6_runOf cX6_runOf 4 (some .int) 0 0 [.ref a0, .int i1, .int i2] T M (gSame T (some (.int r)) M) := by
  refine gRet_of (own := RX6) (by decide) rfl (Nat.le_of_ble_eq_true rfl) (fun Z ad0 hn h0 hF => ?_)
  exact t_X6_runOf hF hn hd q0 h ⟨rfl, rfl, rfl, rfl⟩
theorem t_X6_takeWord_B22 {Z : gZ} {d mc ms : Nat} {Acc : Option Value → (Nat → Nat) → gT → gM → Prop} {AccX : Nat → (Nat → Nat) → gT → gM → Prop} {ad : Nat → Nat} {T : gT} {M : gM} {m_a0 : Nat} {a0 : Nat} {i1 : Int32} {i2 : Int32} {o : (gM) ⊕ (Int32 × gM)} (hF : gFix Z cX6_takeWord RX6 "takeWord" none d mc ms Acc AccX) (hn : Z.2.2.2.2.2.1 = 3) (hd : 1 ≤ d) (q0 : T[a0]? = some (6, m_a0)) (h : f_X6_takeWord_B22 T M a0 i1 i2 = some o) (hE : ∀ e9, o = .inl e9 → gG Z ad T e9 0 0 76 [] []) (hN : ∀ n9, o = .inr n9 → gG Z ad T n9.2 0 0 22 [(0, .ref a0), (1, .int i1), (2, .int n9.1)] []) : gG Z ad T M 0 0 22 [(0, .ref a0), (1, .int i1), (2, .int i2)] [] := by
  unfold f_X6_takeWord_B22 at h
  refine g_iload_n hF 2 rfl rfl dX6_takeWord_22 ?_
  refine g_iload_n hF 1 rfl rfl dX6_takeWord_23 ?_
  refine g_icmp_ge (tgt := 76) hF dX6_takeWord_24 (by decide) (fun c1 => ?_) (fun c1 => ?_)
  · replace h := gif_t c1 h
    exact gG_sub [] rfl (hE _ (Option.some.inj h).symm)
  · replace h := gif_f c1 h
    refine g_aload_n hF 0 rfl rfl dX6_takeWord_27 ?_
    refine g_get_i hF fl_RX6_19 q0 dX6_takeWord_28 ?_
    refine g_aload_n hF 0 rfl rfl dX6_takeWord_31 ?_
    refine g_get_i hF fl_RX6_15 q0 dX6_takeWord_32 ?_
    refine g_icmp_ge (tgt := 76) hF dX6_takeWord_35 (by decide) (fun c2 => ?_) (fun c2 => ?_)
    · replace h := gif_t c2 h
      exact gG_sub [] rfl (hE _ (Option.some.inj h).symm)
    · replace h := gif_f c2 h
      refine g_aload_n hF 0 rfl rfl dX6_takeWord_38 ?_
      refine g_aload_n hF 0 rfl rfl dX6_takeWord_39 ?_
      refine g_get_l hF fl_RX6_28 q0 dX6_takeWord_40 ?_
      refine g_bipush (v := (8 : Int32)) hF rfl dX6_takeWord_43 ?_
      refine g_lshl hF dX6_takeWord_45 ?_
      refine g_aload_n hF 0 rfl rfl dX6_takeWord_46 ?_
      obtain ⟨b3, h3, h⟩ := gbnd h
      obtain ⟨g3, l3, q_b3⟩ := ldr_sp h3
      refine g_get_r hF g3 fl_RX6_9 q0 dX6_takeWord_47 ?_
      refine g_aload_n hF 0 rfl rfl dX6_takeWord_50 ?_
      refine g_get_i hF fl_RX6_19 q0 dX6_takeWord_51 ?_
      obtain ⟨v4, h4, h⟩ := gbnd h
      obtain ⟨i4h, e4v⟩ := ald_sp q_b3 h4
      refine g_bald hF q_b3 i4h dX6_takeWord_54 ?_
      rw [← e4v]
      refine g_i2l hF dX6_takeWord_55 ?_
      refine g_lor hF dX6_takeWord_56 ?_
      refine g_put_l hF rfl rfl fl_RX6_28 q0 dX6_takeWord_57 ?_
      refine g_aload_n hF 0 rfl rfl dX6_takeWord_60 ?_
      refine g_dup hF rfl dX6_takeWord_61 ?_
      refine g_get_i hF fl_RX6_19 q0 dX6_takeWord_62 ?_
      refine g_iconst (v := (1 : Int32)) hF rfl dX6_takeWord_65 ?_
      refine g_iadd hF dX6_takeWord_66 ?_
      refine g_put_i hF rfl rfl fl_RX6_19 q0 dX6_takeWord_67 ?_
      refine g_iinc (n := 1) (v := (i2 + (1 : Int32))) (ls' := [(2, .int (i2 + (1 : Int32))), (0, .ref a0), (1, .int i1)]) hF 2 rfl rfl (by rw [hn]; decide) rfl dX6_takeWord_70 ?_
      refine g_goto (tgt := 22) hF dX6_takeWord_73 (by decide) ?_
      exact gG_sub [1, 2, 0] rfl (hN _ (Option.some.inj h).symm)
theorem t_X6_takeWord_L22 {Z : gZ} {d mc ms : Nat} {Acc : Option Value → (Nat → Nat) → gT → gM → Prop} {AccX : Nat → (Nat → Nat) → gT → gM → Prop} {ad : Nat → Nat} {T : gT} {M : gM} {m_a0 : Nat} {a0 : Nat} {i1 : Int32} {i2 : Int32} {o : gM} (hF : gFix Z cX6_takeWord RX6 "takeWord" none d mc ms Acc AccX) (hn : Z.2.2.2.2.2.1 = 3) (hd : 1 ≤ d) (q0 : T[a0]? = some (6, m_a0)) (h : gloop (fun x => f_X6_takeWord_B22 T x.2 a0 i1 x.1) gFU (i2, M) = some o) (hE : gG Z ad T o 0 0 76 [] []) : gG Z ad T M 0 0 22 [(0, .ref a0), (1, .int i1), (2, .int i2)] [] := by
  refine gloop_ind (P := fun x0 : Int32 × gM => gG Z ad T x0.2 0 0 22 [(0, .ref a0), (1, .int i1), (2, .int x0.1)] []) (e := o) (fun x0 y hy hl hr => ?_) gFU (i2, M) h
  exact t_X6_takeWord_B22 hF hn hd q0 hy (fun e9 q9 => by rw [hl _ q9]; exact hE) (fun n9 q9 => hr n9 q9)
theorem t_X6_takeWord_12 {Z : gZ} {d mc ms : Nat} {Acc : Option Value → (Nat → Nat) → gT → gM → Prop} {AccX : Nat → (Nat → Nat) → gT → gM → Prop} {ad : Nat → Nat} {T : gT} {M : gM} {m_a0 m_b0 : Nat} {a0 : Nat} {i1 : Int32} {b0 : Nat} {k1 : Int32} {o : gM} (hF : gFix Z cX6_takeWord RX6 "takeWord" none d mc ms Acc AccX) (hn : Z.2.2.2.2.2.1 = 3) (hd : 1 ≤ d) (q0 : T[a0]? = some (6, m_a0)) (p0 : T[b0]? = some (6, m_b0)) (h : f_X6_takeWord_12 T M a0 i1 b0 k1 = some o) (hR : Acc none ad T o) : gG Z ad T M 0 0 12 [(0, .ref a0), (1, .int i1)] [.int k1, .ref b0] := by
  unfold f_X6_takeWord_12 at h
  refine g_put_i hF rfl rfl fl_RX6_22 p0 dX6_takeWord_12 ?_
  refine g_aload_n hF 0 rfl rfl dX6_takeWord_15 ?_
  refine g_lconst (v := (0 : Int64)) hF rfl dX6_takeWord_16 ?_
  refine g_put_l hF rfl rfl fl_RX6_28 q0 dX6_takeWord_17 ?_
  refine g_iconst (v := (0 : Int32)) hF rfl dX6_takeWord_20 ?_
  refine g_istore_n (ls' := [(2, .int (0 : Int32)), (0, .ref a0), (1, .int i1)]) hF rfl (by rw [hn]; decide) rfl dX6_takeWord_21 ?_
  obtain ⟨x5, h5, h⟩ := gbnd h
  refine gG_sub [1, 2, 0] rfl (t_X6_takeWord_L22 hF hn hd q0 h5 ?_)
  cases h
  exact g_ret_v hF rfl dX6_takeWord_76 hR (Nat.zero_le _) (Nat.zero_le _)
theorem t_X6_takeWord {Z : gZ} {d mc ms : Nat} {Acc : Option Value → (Nat → Nat) → gT → gM → Prop} {AccX : Nat → (Nat → Nat) → gT → gM → Prop} {ad : Nat → Nat} {T : gT} {M : gM} {m_a0 : Nat} {a0 : Nat} {i1 : Int32} {o : gM} (hF : gFix Z cX6_takeWord RX6 "takeWord" none d mc ms Acc AccX) (hn : Z.2.2.2.2.2.1 = 3) (hd : 1 ≤ d) (q0 : T[a0]? = some (6, m_a0)) (h : f_X6_takeWord T M a0 i1 = some o) (hR : Acc none ad T o) : gG Z ad T M 0 0 0 [(0, .ref a0), (1, .int i1)] [] := by
  unfold f_X6_takeWord at h
  refine g_aload_n hF 0 rfl rfl dX6_takeWord_0 ?_
  refine g_iload_n hF 1 rfl rfl dX6_takeWord_1 ?_
  refine g_bipush (v := (8 : Int32)) hF rfl dX6_takeWord_2 ?_
  refine g_icmp_gt (tgt := 11) hF dX6_takeWord_4 (by decide) (fun c6 => ?_) (fun c6 => ?_)
  · replace h := gif_t c6 h
    refine g_iconst (v := (4 : Int32)) hF rfl dX6_takeWord_11 ?_
    exact gG_sub [0, 1] rfl (t_X6_takeWord_12 hF hn hd q0 q0 h hR)
  · replace h := gif_f c6 h
    refine g_iconst (v := (1 : Int32)) hF rfl dX6_takeWord_7 ?_
    refine g_goto (tgt := 12) hF dX6_takeWord_8 (by decide) ?_
    exact gG_sub [0, 1] rfl (t_X6_takeWord_12 hF hn hd q0 q0 h hR)
theorem c_X6_takeWord {d : Nat} {T : gT} {M : gM} {m_a0 : Nat} {a0 : Nat} {i1 : Int32} {r : gM} (hd : 1 ≤ d) (q0 : T[a0]? = some (6, m_a0)) (h : f_X6_takeWord T M a0 i1 = some (r)) : gRet d yX6_takeWord cX6_takeWord 3 none 0 0 [.ref a0, .int i1] T M (gSame T none r) := by
  refine gRet_of (own := RX6) (by decide) rfl (Nat.le_of_ble_eq_true rfl) (fun Z ad0 hn h0 hF => ?_)
  exact t_X6_takeWord hF hn hd q0 h ⟨rfl, rfl, rfl, rfl⟩
