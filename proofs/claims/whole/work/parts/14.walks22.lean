theorem t_X9_setKeeps_42 {Z : gZ} {d mc ms : Nat} {Acc : Option Value → (Nat → Nat) → gT → gM → Prop} {AccX : Nat → (Nat → Nat) → gT → gM → Prop} {ad : Nat → Nat} {T : gT} {M : gM} {m_a0 m_b0 : Nat} {a0 : Nat} {b0 : Nat} {k1 : Int32} {k2 : Int32} {o : Int32 × gM} (hF : gFix Z cX9_setKeeps RX9 "setKeeps" (some .int) d mc ms Acc AccX) (hn : Z.2.2.2.2.2.1 = 3) (hd : 8 ≤ d) (q0 : T[a0]? = some (9, m_a0)) (p0 : T[b0]? = some (11, m_b0)) (h : f_X9_setKeeps_42 T M a0 b0 k1 k2 = some o) (hR : Acc (some (.int o.1)) ad T o.2) : gG Z ad T M 0 0 42 [(0, .ref a0)] [.int k2, .int k1, .ref b0] := by
  unfold f_X9_setKeeps_42 at h
  obtain ⟨M1, h1, h⟩ := gbnd h
  obtain ⟨i1h, e1v⟩ := ast_sp p0 h1
  refine g_iast hF p0 i1h dX9_setKeeps_42 ?_
  rw [← e1v]
  refine g_aload_n hF 0 rfl rfl dX9_setKeeps_43 ?_
  refine g_iconst (v := (-1 : Int32)) hF rfl dX9_setKeeps_44 ?_
  obtain ⟨x2, h2, h⟩ := gbnd h
  refine g_callV hF my_X9_changedBut kw_1448 kw_1450 kw_102 gC_9.1 (by decide) q0 (c_X9_changedBut (d := d - 1) (by omega) q0 h2) (by omega) (Nat.zero_le _) (Nat.zero_le _) rfl rfl (Nat.le_of_ble_eq_true rfl) dX9_setKeeps_45 (g_sameS ?_)
  cases h
  exact g_ret_i hF rfl rfl dX9_setKeeps_48 hR (Nat.zero_le _) (Nat.zero_le _)
theorem t_X9_setKeeps {Z : gZ} {d mc ms : Nat} {Acc : Option Value → (Nat → Nat) → gT → gM → Prop} {AccX : Nat → (Nat → Nat) → gT → gM → Prop} {ad : Nat → Nat} {T : gT} {M : gM} {m_a0 : Nat} {a0 : Nat} {i1 : Int32} {i2 : Int32} {o : Int32 × gM} (hF : gFix Z cX9_setKeeps RX9 "setKeeps" (some .int) d mc ms Acc AccX) (hn : Z.2.2.2.2.2.1 = 3) (hd : 8 ≤ d) (q0 : T[a0]? = some (9, m_a0)) (h : f_X9_setKeeps T M a0 i1 i2 = some o) (hR : Acc (some (.int o.1)) ad T o.2) : gG Z ad T M 0 0 0 [(0, .ref a0), (1, .int i1), (2, .int i2)] [] := by
  unfold f_X9_setKeeps at h
  refine g_aload_n hF 0 rfl rfl dX9_setKeeps_0 ?_
  refine g_iconst (v := (0 : Int32)) hF rfl dX9_setKeeps_1 ?_
  refine g_put_i hF rfl rfl fl_RX9_59 q0 dX9_setKeeps_2 ?_
  refine g_aload_n hF 0 rfl rfl dX9_setKeeps_5 ?_
  refine g_iload_n hF 1 rfl rfl dX9_setKeeps_6 ?_
  obtain ⟨x3, h3, h⟩ := gbnd h
  refine g_callV hF my_X9_noLibrary kw_1331 kw_1333 kw_87 gC_9.1 (by decide) q0 (c_X9_noLibrary (d := d - 1) (by omega) q0 h3) (by omega) (Nat.zero_le _) (Nat.zero_le _) rfl rfl (Nat.le_of_ble_eq_true rfl) dX9_setKeeps_7 (g_sameS ?_)
  refine g_if_eq (tgt := 15) hF dX9_setKeeps_10 (by decide) (fun c4 => ?_) (fun c4 => ?_)
  · replace h := gif_t c4 h
    refine g_aload_n hF 0 rfl rfl dX9_setKeeps_15 ?_
    obtain ⟨x5, h5, h⟩ := gbnd h
    refine g_callV hF my_X9_remember kw_1304 kw_1306 kw_86 gC_9.1 (by decide) q0 (c_X9_remember (d := d - 1) (by omega) q0 h5) (by omega) (Nat.zero_le _) (Nat.zero_le _) rfl rfl (Nat.le_of_ble_eq_true rfl) dX9_setKeeps_16 (g_sameN ?_)
    refine g_aload_n hF 0 rfl rfl dX9_setKeeps_19 ?_
    obtain ⟨x6, h6, h⟩ := gbnd h
    refine g_callV hF my_X9_keepBindings kw_1444 kw_1446 kw_101 gC_9.1 (by decide) q0 (c_X9_keepBindings (d := d - 1) (by omega) q0 h6) (by omega) (Nat.zero_le _) (Nat.zero_le _) rfl rfl (Nat.le_of_ble_eq_true rfl) dX9_setKeeps_20 (g_sameN ?_)
    refine g_aload_n hF 0 rfl rfl dX9_setKeeps_23 ?_
    obtain ⟨b7, h7, h⟩ := gbnd h
    obtain ⟨g7, l7, q_b7⟩ := ldr_sp h7
    refine g_get_r hF g7 fl_RX9_17 q0 dX9_setKeeps_24 ?_
    refine g_iload_n hF 1 rfl rfl dX9_setKeeps_27 ?_
    obtain ⟨x8, h8, h⟩ := gbnd h
    refine g_callS hF my_X9_at kw_1244 kw_1245 (c_X9_at (d := d - 1) (by omega)  h8) (by omega) (Nat.zero_le _) (Nat.zero_le _) rfl rfl (Nat.le_of_ble_eq_true rfl) dX9_setKeeps_28 (g_sameS ?_)
    refine g_iconst (v := (1 : Int32)) hF rfl dX9_setKeeps_31 ?_
    refine g_iadd hF dX9_setKeeps_32 ?_
    refine g_iload_n hF 2 rfl rfl dX9_setKeeps_33 ?_
    refine g_if_eq (tgt := 41) hF dX9_setKeeps_34 (by decide) (fun c9 => ?_) (fun c9 => ?_)
    · replace h := gif_t c9 h
      refine g_iconst (v := (0 : Int32)) hF rfl dX9_setKeeps_41 ?_
      exact gG_sub [0] rfl (t_X9_setKeeps_42 hF hn hd q0 q_b7 h hR)
    · replace h := gif_f c9 h
      refine g_iconst (v := (1 : Int32)) hF rfl dX9_setKeeps_37 ?_
      refine g_goto (tgt := 42) hF dX9_setKeeps_38 (by decide) ?_
      exact gG_sub [0] rfl (t_X9_setKeeps_42 hF hn hd q0 q_b7 h hR)
  · replace h := gif_f c4 h
    refine g_iconst (v := (0 : Int32)) hF rfl dX9_setKeeps_13 ?_
    cases h
    exact g_ret_i hF rfl rfl dX9_setKeeps_14 hR (Nat.zero_le _) (Nat.zero_le _)
theorem c_X9_setKeeps {d : Nat} {T : gT} {M : gM} {m_a0 : Nat} {a0 : Nat} {i1 : Int32} {i2 : Int32} {r : Int32 × gM} (hd : 8 ≤ d) (q0 : T[a0]? = some (9, m_a0)) (h : f_X9_setKeeps T M a0 i1 i2 = some (r)) : gRet d yX9_setKeeps cX9_setKeeps 3 (some .int) 0 0 [.ref a0, .int i1, .int i2] T M (gSame T (some (.int r.1)) r.2) := by
  refine gRet_of (own := RX9) (by decide) rfl (Nat.le_of_ble_eq_true rfl) (fun Z ad0 hn h0 hF => ?_)
  exact t_X9_setKeeps hF hn hd q0 h ⟨rfl, rfl, rfl, rfl⟩
theorem t_X9_setShare_21 {Z : gZ} {d mc ms : Nat} {Acc : Option Value → (Nat → Nat) → gT → gM → Prop} {AccX : Nat → (Nat → Nat) → gT → gM → Prop} {ad : Nat → Nat} {T : gT} {M : gM} {m_a0 m_b0 : Nat} {a0 : Nat} {i1 : Int32} {b0 : Nat} {k1 : Int32} {o : Int32 × gM} (hF : gFix Z cX9_setShare RX9 "setShare" (some .int) d mc ms Acc AccX) (hn : Z.2.2.2.2.2.1 = 2) (hd : 8 ≤ d) (q0 : T[a0]? = some (9, m_a0)) (p0 : T[b0]? = some (9, m_b0)) (h : f_X9_setShare_21 T M a0 i1 b0 k1 = some o) (hR : Acc (some (.int o.1)) ad T o.2) : gG Z ad T M 0 0 21 [(0, .ref a0), (1, .int i1)] [.int k1, .ref b0] := by
  unfold f_X9_setShare_21 at h
  refine g_iconst (v := (1 : Int32)) hF rfl dX9_setShare_21 ?_
  obtain ⟨x1, h1, h⟩ := gbnd h
  refine g_callV hF my_X9_fails kw_1186 kw_1188 kw_64 gC_9.1 (by decide) p0 (c_X9_fails (d := d - 1) (by omega) p0 h1) (by omega) (Nat.zero_le _) (Nat.zero_le _) rfl rfl (Nat.le_of_ble_eq_true rfl) dX9_setShare_22 (g_sameS ?_)
  refine g_if_eq (tgt := 30) hF dX9_setShare_25 (by decide) (fun c2 => ?_) (fun c2 => ?_)
  · replace h := gif_t c2 h
    refine g_aload_n hF 0 rfl rfl dX9_setShare_30 ?_
    obtain ⟨x3, h3, h⟩ := gbnd h
    refine g_callV hF my_X9_remember kw_1304 kw_1306 kw_86 gC_9.1 (by decide) q0 (c_X9_remember (d := d - 1) (by omega) q0 h3) (by omega) (Nat.zero_le _) (Nat.zero_le _) rfl rfl (Nat.le_of_ble_eq_true rfl) dX9_setShare_31 (g_sameN ?_)
    refine g_aload_n hF 0 rfl rfl dX9_setShare_34 ?_
    obtain ⟨x4, h4, h⟩ := gbnd h
    refine g_callV hF my_X9_keepBindings kw_1444 kw_1446 kw_101 gC_9.1 (by decide) q0 (c_X9_keepBindings (d := d - 1) (by omega) q0 h4) (by omega) (Nat.zero_le _) (Nat.zero_le _) rfl rfl (Nat.le_of_ble_eq_true rfl) dX9_setShare_35 (g_sameN ?_)
    refine g_aload_n hF 0 rfl rfl dX9_setShare_38 ?_
    obtain ⟨b5, h5, h⟩ := gbnd h
    obtain ⟨g5, l5, q_b5⟩ := ldr_sp h5
    refine g_get_r hF g5 fl_RX9_17 q0 dX9_setShare_39 ?_
    refine g_iconst (v := (0 : Int32)) hF rfl dX9_setShare_42 ?_
    refine g_iload_n hF 1 rfl rfl dX9_setShare_43 ?_
    obtain ⟨M6, h6, h⟩ := gbnd h
    obtain ⟨i6h, e6v⟩ := ast_sp q_b5 h6
    refine g_iast hF q_b5 i6h dX9_setShare_44 ?_
    rw [← e6v]
    refine g_aload_n hF 0 rfl rfl dX9_setShare_45 ?_
    refine g_iconst (v := (-1 : Int32)) hF rfl dX9_setShare_46 ?_
    obtain ⟨x7, h7, h⟩ := gbnd h
    refine g_callV hF my_X9_changedBut kw_1448 kw_1450 kw_102 gC_9.1 (by decide) q0 (c_X9_changedBut (d := d - 1) (by omega) q0 h7) (by omega) (Nat.zero_le _) (Nat.zero_le _) rfl rfl (Nat.le_of_ble_eq_true rfl) dX9_setShare_47 (g_sameS ?_)
    cases h
    exact g_ret_i hF rfl rfl dX9_setShare_50 hR (Nat.zero_le _) (Nat.zero_le _)
  · replace h := gif_f c2 h
    refine g_iconst (v := (0 : Int32)) hF rfl dX9_setShare_28 ?_
    cases h
    exact g_ret_i hF rfl rfl dX9_setShare_29 hR (Nat.zero_le _) (Nat.zero_le _)
theorem t_X9_setShare {Z : gZ} {d mc ms : Nat} {Acc : Option Value → (Nat → Nat) → gT → gM → Prop} {AccX : Nat → (Nat → Nat) → gT → gM → Prop} {ad : Nat → Nat} {T : gT} {M : gM} {m_a0 : Nat} {a0 : Nat} {i1 : Int32} {o : Int32 × gM} (hF : gFix Z cX9_setShare RX9 "setShare" (some .int) d mc ms Acc AccX) (hn : Z.2.2.2.2.2.1 = 2) (hd : 8 ≤ d) (q0 : T[a0]? = some (9, m_a0)) (h : f_X9_setShare T M a0 i1 = some o) (hR : Acc (some (.int o.1)) ad T o.2) : gG Z ad T M 0 0 0 [(0, .ref a0), (1, .int i1)] [] := by
  unfold f_X9_setShare at h
  refine g_aload_n hF 0 rfl rfl dX9_setShare_0 ?_
  refine g_iconst (v := (0 : Int32)) hF rfl dX9_setShare_1 ?_
  refine g_put_i hF rfl rfl fl_RX9_59 q0 dX9_setShare_2 ?_
  refine g_aload_n hF 0 rfl rfl dX9_setShare_5 ?_
  refine g_iload_n hF 1 rfl rfl dX9_setShare_6 ?_
  refine g_iconst (v := (0 : Int32)) hF rfl dX9_setShare_7 ?_
  refine g_bipush (v := (100 : Int32)) hF rfl dX9_setShare_8 ?_
  obtain ⟨x8, h8, h⟩ := gbnd h
  refine g_callS hF my_X9_in kw_1183 kw_1184 (c_X9_in (d := d - 1) (by omega)  h8) (by omega) (Nat.zero_le _) (Nat.zero_le _) rfl rfl (Nat.le_of_ble_eq_true rfl) dX9_setShare_10 (g_sameS ?_)
  refine g_if_ne (tgt := 20) hF dX9_setShare_13 (by decide) (fun c9 => ?_) (fun c9 => ?_)
  · replace h := gif_t c9 h
    refine g_iconst (v := (0 : Int32)) hF rfl dX9_setShare_20 ?_
    exact gG_sub [0, 1] rfl (t_X9_setShare_21 hF hn hd q0 q0 h hR)
  · replace h := gif_n c9 h
    refine g_iconst (v := (1 : Int32)) hF rfl dX9_setShare_16 ?_
    refine g_goto (tgt := 21) hF dX9_setShare_17 (by decide) ?_
    exact gG_sub [0, 1] rfl (t_X9_setShare_21 hF hn hd q0 q0 h hR)
theorem c_X9_setShare {d : Nat} {T : gT} {M : gM} {m_a0 : Nat} {a0 : Nat} {i1 : Int32} {r : Int32 × gM} (hd : 8 ≤ d) (q0 : T[a0]? = some (9, m_a0)) (h : f_X9_setShare T M a0 i1 = some (r)) : gRet d yX9_setShare cX9_setShare 2 (some .int) 0 0 [.ref a0, .int i1] T M (gSame T (some (.int r.1)) r.2) := by
  refine gRet_of (own := RX9) (by decide) rfl (Nat.le_of_ble_eq_true rfl) (fun Z ad0 hn h0 hF => ?_)
  exact t_X9_setShare hF hn hd q0 h ⟨rfl, rfl, rfl, rfl⟩
theorem t_X9_undo {Z : gZ} {d mc ms : Nat} {Acc : Option Value → (Nat → Nat) → gT → gM → Prop} {AccX : Nat → (Nat → Nat) → gT → gM → Prop} {ad : Nat → Nat} {T : gT} {M : gM} {m_a0 : Nat} {a0 : Nat} {o : Int32 × gM} (hF : gFix Z cX9_undo RX9 "undo" (some .int) d mc ms Acc AccX) (hn : Z.2.2.2.2.2.1 = 1) (hd : 2 ≤ d) (q0 : T[a0]? = some (9, m_a0)) (h : f_X9_undo T M a0 = some o) (hR : Acc (some (.int o.1)) ad T o.2) : gG Z ad T M 0 0 0 [(0, .ref a0)] [] := by
  unfold f_X9_undo at h
  refine g_aload_n hF 0 rfl rfl dX9_undo_0 ?_
  refine g_iconst (v := (0 : Int32)) hF rfl dX9_undo_1 ?_
  refine g_put_i hF rfl rfl fl_RX9_59 q0 dX9_undo_2 ?_
  refine g_aload_n hF 0 rfl rfl dX9_undo_5 ?_
  refine g_get_i hF fl_RX9_292 q0 dX9_undo_6 ?_
  refine g_if_ne (tgt := 14) hF dX9_undo_9 (by decide) (fun c1 => ?_) (fun c1 => ?_)
  · replace h := gif_t c1 h
    refine g_aload_n hF 0 rfl rfl dX9_undo_14 ?_
    refine g_dup hF rfl dX9_undo_15 ?_
    refine g_get_i hF fl_RX9_292 q0 dX9_undo_16 ?_
    refine g_iconst (v := (1 : Int32)) hF rfl dX9_undo_19 ?_
    refine g_isub hF dX9_undo_20 ?_
    refine g_put_i hF rfl rfl fl_RX9_292 q0 dX9_undo_21 ?_
    refine g_aload_n hF 0 rfl rfl dX9_undo_24 ?_
    obtain ⟨b2, h2, h⟩ := gbnd h
    obtain ⟨g2, l2, q_b2⟩ := ldr_sp h2
    refine g_get_r hF g2 fl_RX9_25 q0 dX9_undo_25 ?_
    refine g_aload_n hF 0 rfl rfl dX9_undo_28 ?_
    refine g_get_i hF fl_RX9_292 q0 dX9_undo_29 ?_
    obtain ⟨b3, h3, h⟩ := gbnd h
    obtain ⟨i3h, g3, l3, q_b3⟩ := aldr_sp q_b2 h3
    refine g_aald2 hF q_b2 i3h g3 dX9_undo_32 ?_
    refine g_aload_n hF 0 rfl rfl dX9_undo_33 ?_
    obtain ⟨b4, h4, h⟩ := gbnd h
    obtain ⟨g4, l4, q_b4⟩ := ldr_sp h4
    refine g_get_r hF g4 fl_RX9_17 q0 dX9_undo_34 ?_
    obtain ⟨x5, h5, h⟩ := gbnd h
    refine g_callS hF my_X9_copy kw_1308 kw_1309 (c_X9_copy (d := d - 1) (by omega) q_b3 q_b4 h5) (by omega) (Nat.zero_le _) (Nat.zero_le _) rfl rfl (Nat.le_of_ble_eq_true rfl) dX9_undo_37 (g_sameN ?_)
    refine g_aload_n hF 0 rfl rfl dX9_undo_40 ?_
    refine g_get_i hF fl_RX9_292 q0 dX9_undo_41 ?_
    cases h
    exact g_ret_i hF rfl rfl dX9_undo_44 hR (Nat.zero_le _) (Nat.zero_le _)
  · replace h := gif_n c1 h
    refine g_iconst (v := (-1 : Int32)) hF rfl dX9_undo_12 ?_
    cases h
    exact g_ret_i hF rfl rfl dX9_undo_13 hR (Nat.zero_le _) (Nat.zero_le _)
theorem c_X9_undo {d : Nat} {T : gT} {M : gM} {m_a0 : Nat} {a0 : Nat} {r : Int32 × gM} (hd : 2 ≤ d) (q0 : T[a0]? = some (9, m_a0)) (h : f_X9_undo T M a0 = some (r)) : gRet d yX9_undo cX9_undo 1 (some .int) 0 0 [.ref a0] T M (gSame T (some (.int r.1)) r.2) := by
  refine gRet_of (own := RX9) (by decide) rfl (Nat.le_of_ble_eq_true rfl) (fun Z ad0 hn h0 hF => ?_)
  exact t_X9_undo hF hn hd q0 h ⟨rfl, rfl, rfl, rfl⟩
theorem t_X9_checksum_B63 {Z : gZ} {d mc ms : Nat} {Acc : Option Value → (Nat → Nat) → gT → gM → Prop} {AccX : Nat → (Nat → Nat) → gT → gM → Prop} {ad : Nat → Nat} {T : gT} {M : gM} {m_a0 : Nat} {a0 : Nat} {j1 : Int64} {i3 : Int32} {i4 : Int32} {o : (Int64 × gM) ⊕ (Int64 × Int32 × gM)} (hF : gFix Z cX9_checksum RX9 "checksum" (some .long) d mc ms Acc AccX) (hn : Z.2.2.2.2.2.1 = 5) (hd : 7 ≤ d) (q0 : T[a0]? = some (9, m_a0)) (h : f_X9_checksum_B63 T M a0 j1 i3 i4 = some o) (hE : ∀ e9, o = .inl e9 → gG Z ad T e9.2 0 0 131 [(0, .ref a0), (1, .long e9.1), (3, .int i3)] []) (hN : ∀ n9, o = .inr n9 → gG Z ad T n9.2.2 0 0 63 [(0, .ref a0), (1, .long n9.1), (3, .int i3), (4, .int n9.2.1)] []) : gG Z ad T M 0 0 63 [(0, .ref a0), (1, .long j1), (3, .int i3), (4, .int i4)] [] := by
  unfold f_X9_checksum_B63 at h
  refine g_iload hF 3 rfl dX9_checksum_63 ?_
  refine g_aload_n hF 0 rfl rfl dX9_checksum_65 ?_
  obtain ⟨b1, h1, h⟩ := gbnd h
  obtain ⟨g1, l1, q_b1⟩ := ldr_sp h1
  refine g_get_r hF g1 fl_RX9_17 q0 dX9_checksum_66 ?_
  refine g_iconst (v := (2 : Int32)) hF rfl dX9_checksum_69 ?_
  obtain ⟨v2, h2, h⟩ := gbnd h
  obtain ⟨i2h, e2v⟩ := ald_sp q_b1 h2
  refine g_iald hF q_b1 i2h dX9_checksum_70 ?_
  rw [← e2v]
  refine g_icmp_ge (tgt := 131) hF dX9_checksum_71 (by decide) (fun c3 => ?_) (fun c3 => ?_)
  · replace h := gif_t c3 h
    exact gG_sub [0, 1, 2] rfl (hE _ (Option.some.inj h).symm)
  · replace h := gif_f c3 h
    refine g_ldc2 (v := (31 : Int64)) hF kw_1492 dX9_checksum_74 ?_
    refine g_ldc2 (v := (31 : Int64)) hF kw_1492 dX9_checksum_77 ?_
    refine g_ldc2 (v := (31 : Int64)) hF kw_1492 dX9_checksum_80 ?_
    refine g_lload_n hF 1 rfl rfl dX9_checksum_83 ?_
    refine g_lmul hF dX9_checksum_84 ?_
    refine g_aload_n hF 0 rfl rfl dX9_checksum_85 ?_
    obtain ⟨b4, h4, h⟩ := gbnd h
    obtain ⟨g4, l4, q_b4⟩ := ldr_sp h4
    refine g_get_r hF g4 fl_RX9_17 q0 dX9_checksum_86 ?_
    refine g_iload_n hF 2 rfl rfl dX9_checksum_89 ?_
    obtain ⟨x5, h5, h⟩ := gbnd h
    refine g_callS hF my_X9_at kw_1244 kw_1245 (c_X9_at (d := d - 1) (by omega)  h5) (by omega) (Nat.zero_le _) (Nat.zero_le _) rfl rfl (Nat.le_of_ble_eq_true rfl) dX9_checksum_90 (g_sameS ?_)
    refine g_bipush (v := (12 : Int32)) hF rfl dX9_checksum_93 ?_
    refine g_iadd hF dX9_checksum_95 ?_
    refine g_iload hF 3 rfl dX9_checksum_96 ?_
    refine g_iadd hF dX9_checksum_98 ?_
    obtain ⟨v6, h6, h⟩ := gbnd h
    obtain ⟨i6h, e6v⟩ := ald_sp q_b4 h6
    refine g_iald hF q_b4 i6h dX9_checksum_99 ?_
    rw [← e6v]
    refine g_i2l hF dX9_checksum_100 ?_
    refine g_ladd hF dX9_checksum_101 ?_
    refine g_lmul hF dX9_checksum_102 ?_
    refine g_aload_n hF 0 rfl rfl dX9_checksum_103 ?_
    obtain ⟨b7, h7, h⟩ := gbnd h
    obtain ⟨g7, l7, q_b7⟩ := ldr_sp h7
    refine g_get_r hF g7 fl_RX9_50 q0 dX9_checksum_104 ?_
    refine g_iload_n hF 2 rfl rfl dX9_checksum_107 ?_
    obtain ⟨b8, h8, h⟩ := gbnd h
    obtain ⟨i8h, g8, l8, q_b8⟩ := aldr_sp q_b7 h8
    refine g_aald2 hF q_b7 i8h g8 dX9_checksum_108 ?_
    refine g_iload hF 3 rfl dX9_checksum_109 ?_
    obtain ⟨v9, h9, h⟩ := gbnd h
    obtain ⟨i9h, e9v⟩ := ald_sp q_b8 h9
    refine g_iald hF q_b8 i9h dX9_checksum_111 ?_
    rw [← e9v]
    refine g_i2l hF dX9_checksum_112 ?_
    refine g_ladd hF dX9_checksum_113 ?_
    refine g_lmul hF dX9_checksum_114 ?_
    refine g_aload_n hF 0 rfl rfl dX9_checksum_115 ?_
    refine g_iload_n hF 2 rfl rfl dX9_checksum_116 ?_
    refine g_iload hF 3 rfl dX9_checksum_117 ?_
    obtain ⟨x10, h10, h⟩ := gbnd h
    refine g_callV hF my_X9_follow kw_1428 kw_1430 kw_100 gC_9.1 (by decide) q0 (c_X9_follow (d := d - 1) (by omega) q0 h10) (by omega) (Nat.zero_le _) (Nat.zero_le _) rfl rfl (Nat.le_of_ble_eq_true rfl) dX9_checksum_119 (g_sameS ?_)
    refine g_i2l hF dX9_checksum_122 ?_
    refine g_ladd hF dX9_checksum_123 ?_
    refine g_lstore_n (ls' := [(1, .long (((31 : Int64) * (((31 : Int64) * (((31 : Int64) * j1) + v6.toInt64)) + v9.toInt64)) + x10.1.toInt64)), (0, .ref a0), (3, .int i3), (4, .int i4)]) hF rfl (by rw [hn]; decide) rfl dX9_checksum_124 ?_
    refine g_iinc (n := 1) (v := (i4 + (1 : Int32))) (ls' := [(4, .int (i4 + (1 : Int32))), (1, .long (((31 : Int64) * (((31 : Int64) * (((31 : Int64) * j1) + v6.toInt64)) + v9.toInt64)) + x10.1.toInt64)), (0, .ref a0), (3, .int i3)]) hF 3 rfl rfl (by rw [hn]; decide) rfl dX9_checksum_125 ?_
    refine g_goto (tgt := 63) hF dX9_checksum_128 (by decide) ?_
    exact gG_sub [2, 1, 3, 0] rfl (hN _ (Option.some.inj h).symm)
theorem t_X9_checksum_L63 {Z : gZ} {d mc ms : Nat} {Acc : Option Value → (Nat → Nat) → gT → gM → Prop} {AccX : Nat → (Nat → Nat) → gT → gM → Prop} {ad : Nat → Nat} {T : gT} {M : gM} {m_a0 : Nat} {a0 : Nat} {j1 : Int64} {i3 : Int32} {i4 : Int32} {o : Int64 × gM} (hF : gFix Z cX9_checksum RX9 "checksum" (some .long) d mc ms Acc AccX) (hn : Z.2.2.2.2.2.1 = 5) (hd : 7 ≤ d) (q0 : T[a0]? = some (9, m_a0)) (h : gloop (fun x => f_X9_checksum_B63 T x.2.2 a0 x.1 i3 x.2.1) gFU (j1, i4, M) = some o) (hE : gG Z ad T o.2 0 0 131 [(0, .ref a0), (1, .long o.1), (3, .int i3)] []) : gG Z ad T M 0 0 63 [(0, .ref a0), (1, .long j1), (3, .int i3), (4, .int i4)] [] := by
  refine gloop_ind (P := fun x0 : Int64 × Int32 × gM => gG Z ad T x0.2.2 0 0 63 [(0, .ref a0), (1, .long x0.1), (3, .int i3), (4, .int x0.2.1)] []) (e := o) (fun x0 y hy hl hr => ?_) gFU (j1, i4, M) h
  exact t_X9_checksum_B63 hF hn hd q0 hy (fun e9 q9 => by rw [hl _ q9]; exact hE) (fun n9 q9 => hr n9 q9)
theorem t_X9_checksum_B32 {Z : gZ} {d mc ms : Nat} {Acc : Option Value → (Nat → Nat) → gT → gM → Prop} {AccX : Nat → (Nat → Nat) → gT → gM → Prop} {ad : Nat → Nat} {T : gT} {M : gM} {m_a0 : Nat} {a0 : Nat} {j1 : Int64} {i3 : Int32} {i4 : Int32} {o : (Int64 × gM) ⊕ (Int64 × Int32 × gM)} (hF : gFix Z cX9_checksum RX9 "checksum" (some .long) d mc ms Acc AccX) (hn : Z.2.2.2.2.2.1 = 5) (hd : 7 ≤ d) (q0 : T[a0]? = some (9, m_a0)) (h : f_X9_checksum_B32 T M a0 j1 i3 i4 = some o) (hE : ∀ e9, o = .inl e9 → gG Z ad T e9.2 0 0 60 [(0, .ref a0), (1, .long e9.1), (3, .int i3)] []) (hN : ∀ n9, o = .inr n9 → gG Z ad T n9.2.2 0 0 32 [(0, .ref a0), (1, .long n9.1), (3, .int i3), (4, .int n9.2.1)] []) : gG Z ad T M 0 0 32 [(0, .ref a0), (1, .long j1), (3, .int i3), (4, .int i4)] [] := by
  unfold f_X9_checksum_B32 at h
  refine g_iload hF 3 rfl dX9_checksum_32 ?_
  refine g_bipush (v := (6 : Int32)) hF rfl dX9_checksum_34 ?_
  refine g_icmp_ge (tgt := 60) hF dX9_checksum_36 (by decide) (fun c11 => ?_) (fun c11 => ?_)
  · replace h := gif_t c11 h
    exact gG_sub [0, 1, 2] rfl (hE _ (Option.some.inj h).symm)
  · replace h := gif_f c11 h
    refine g_ldc2 (v := (31 : Int64)) hF kw_1492 dX9_checksum_39 ?_
    refine g_lload_n hF 1 rfl rfl dX9_checksum_42 ?_
    refine g_lmul hF dX9_checksum_43 ?_
    refine g_aload_n hF 0 rfl rfl dX9_checksum_44 ?_
    refine g_iload_n hF 2 rfl rfl dX9_checksum_45 ?_
    refine g_iload hF 3 rfl dX9_checksum_46 ?_
    obtain ⟨x12, h12, h⟩ := gbnd h
    refine g_callV hF my_X9_told kw_1335 kw_1337 kw_88 gC_9.1 (by decide) q0 (c_X9_told (d := d - 1) (by omega) q0 h12) (by omega) (Nat.zero_le _) (Nat.zero_le _) rfl rfl (Nat.le_of_ble_eq_true rfl) dX9_checksum_48 (g_sameS ?_)
    refine g_i2l hF dX9_checksum_51 ?_
    refine g_ladd hF dX9_checksum_52 ?_
    refine g_lstore_n (ls' := [(1, .long (((31 : Int64) * j1) + x12.1.toInt64)), (0, .ref a0), (3, .int i3), (4, .int i4)]) hF rfl (by rw [hn]; decide) rfl dX9_checksum_53 ?_
    refine g_iinc (n := 1) (v := (i4 + (1 : Int32))) (ls' := [(4, .int (i4 + (1 : Int32))), (1, .long (((31 : Int64) * j1) + x12.1.toInt64)), (0, .ref a0), (3, .int i3)]) hF 3 rfl rfl (by rw [hn]; decide) rfl dX9_checksum_54 ?_
    refine g_goto (tgt := 32) hF dX9_checksum_57 (by decide) ?_
    exact gG_sub [2, 1, 3, 0] rfl (hN _ (Option.some.inj h).symm)
theorem t_X9_checksum_L32 {Z : gZ} {d mc ms : Nat} {Acc : Option Value → (Nat → Nat) → gT → gM → Prop} {AccX : Nat → (Nat → Nat) → gT → gM → Prop} {ad : Nat → Nat} {T : gT} {M : gM} {m_a0 : Nat} {a0 : Nat} {j1 : Int64} {i3 : Int32} {i4 : Int32} {o : Int64 × gM} (hF : gFix Z cX9_checksum RX9 "checksum" (some .long) d mc ms Acc AccX) (hn : Z.2.2.2.2.2.1 = 5) (hd : 7 ≤ d) (q0 : T[a0]? = some (9, m_a0)) (h : gloop (fun x => f_X9_checksum_B32 T x.2.2 a0 x.1 i3 x.2.1) gFU (j1, i4, M) = some o) (hE : gG Z ad T o.2 0 0 60 [(0, .ref a0), (1, .long o.1), (3, .int i3)] []) : gG Z ad T M 0 0 32 [(0, .ref a0), (1, .long j1), (3, .int i3), (4, .int i4)] [] := by
  refine gloop_ind (P := fun x0 : Int64 × Int32 × gM => gG Z ad T x0.2.2 0 0 32 [(0, .ref a0), (1, .long x0.1), (3, .int i3), (4, .int x0.2.1)] []) (e := o) (fun x0 y hy hl hr => ?_) gFU (j1, i4, M) h
  exact t_X9_checksum_B32 hF hn hd q0 hy (fun e9 q9 => by rw [hl _ q9]; exact hE) (fun n9 q9 => hr n9 q9)
theorem t_X9_checksum_B19 {Z : gZ} {d mc ms : Nat} {Acc : Option Value → (Nat → Nat) → gT → gM → Prop} {AccX : Nat → (Nat → Nat) → gT → gM → Prop} {ad : Nat → Nat} {T : gT} {M : gM} {m_a0 : Nat} {a0 : Nat} {j1 : Int64} {i3 : Int32} {o : (Int64 × gM) ⊕ (Int64 × Int32 × gM)} (hF : gFix Z cX9_checksum RX9 "checksum" (some .long) d mc ms Acc AccX) (hn : Z.2.2.2.2.2.1 = 5) (hd : 7 ≤ d) (q0 : T[a0]? = some (9, m_a0)) (h : f_X9_checksum_B19 T M a0 j1 i3 = some o) (hE : ∀ e9, o = .inl e9 → gG Z ad T e9.2 0 0 137 [(1, .long e9.1)] []) (hN : ∀ n9, o = .inr n9 → gG Z ad T n9.2.2 0 0 19 [(0, .ref a0), (1, .long n9.1), (3, .int n9.2.1)] []) : gG Z ad T M 0 0 19 [(0, .ref a0), (1, .long j1), (3, .int i3)] [] := by
  unfold f_X9_checksum_B19 at h
  refine g_iload_n hF 2 rfl rfl dX9_checksum_19 ?_
  refine g_aload_n hF 0 rfl rfl dX9_checksum_20 ?_
  obtain ⟨b13, h13, h⟩ := gbnd h
  obtain ⟨g13, l13, q_b13⟩ := ldr_sp h13
  refine g_get_r hF g13 fl_RX9_17 q0 dX9_checksum_21 ?_
  refine g_iconst (v := (1 : Int32)) hF rfl dX9_checksum_24 ?_
  obtain ⟨v14, h14, h⟩ := gbnd h
  obtain ⟨i14h, e14v⟩ := ald_sp q_b13 h14
  refine g_iald hF q_b13 i14h dX9_checksum_25 ?_
  rw [← e14v]
  refine g_icmp_ge (tgt := 137) hF dX9_checksum_26 (by decide) (fun c15 => ?_) (fun c15 => ?_)
  · replace h := gif_t c15 h
    exact gG_sub [1] rfl (hE _ (Option.some.inj h).symm)
  · replace h := gif_f c15 h
    refine g_iconst (v := (0 : Int32)) hF rfl dX9_checksum_29 ?_
    refine g_istore (ls' := [(4, .int (0 : Int32)), (0, .ref a0), (1, .long j1), (3, .int i3)]) hF (by rw [hn]; decide) rfl dX9_checksum_30 ?_
    obtain ⟨x16, h16, h⟩ := gbnd h
    refine gG_sub [1, 2, 3, 0] rfl (t_X9_checksum_L32 hF hn hd q0 h16 ?_)
    refine g_iconst (v := (0 : Int32)) hF rfl dX9_checksum_60 ?_
    refine g_istore (ls' := [(4, .int (0 : Int32)), (0, .ref a0), (1, .long x16.1), (3, .int i3)]) hF (by rw [hn]; decide) rfl dX9_checksum_61 ?_
    obtain ⟨x17, h17, h⟩ := gbnd h
    refine gG_sub [1, 2, 3, 0] rfl (t_X9_checksum_L63 hF hn hd q0 h17 ?_)
    refine g_iinc (n := 1) (v := (i3 + (1 : Int32))) (ls' := [(3, .int (i3 + (1 : Int32))), (0, .ref a0), (1, .long x17.1)]) hF 2 rfl rfl (by rw [hn]; decide) rfl dX9_checksum_131 ?_
    refine g_goto (tgt := 19) hF dX9_checksum_134 (by decide) ?_
    exact gG_sub [1, 2, 0] rfl (hN _ (Option.some.inj h).symm)
theorem t_X9_checksum_L19 {Z : gZ} {d mc ms : Nat} {Acc : Option Value → (Nat → Nat) → gT → gM → Prop} {AccX : Nat → (Nat → Nat) → gT → gM → Prop} {ad : Nat → Nat} {T : gT} {M : gM} {m_a0 : Nat} {a0 : Nat} {j1 : Int64} {i3 : Int32} {o : Int64 × gM} (hF : gFix Z cX9_checksum RX9 "checksum" (some .long) d mc ms Acc AccX) (hn : Z.2.2.2.2.2.1 = 5) (hd : 7 ≤ d) (q0 : T[a0]? = some (9, m_a0)) (h : gloop (fun x => f_X9_checksum_B19 T x.2.2 a0 x.1 x.2.1) gFU (j1, i3, M) = some o) (hE : gG Z ad T o.2 0 0 137 [(1, .long o.1)] []) : gG Z ad T M 0 0 19 [(0, .ref a0), (1, .long j1), (3, .int i3)] [] := by
  refine gloop_ind (P := fun x0 : Int64 × Int32 × gM => gG Z ad T x0.2.2 0 0 19 [(0, .ref a0), (1, .long x0.1), (3, .int x0.2.1)] []) (e := o) (fun x0 y hy hl hr => ?_) gFU (j1, i3, M) h
  exact t_X9_checksum_B19 hF hn hd q0 hy (fun e9 q9 => by rw [hl _ q9]; exact hE) (fun n9 q9 => hr n9 q9)
theorem t_X9_checksum {Z : gZ} {d mc ms : Nat} {Acc : Option Value → (Nat → Nat) → gT → gM → Prop} {AccX : Nat → (Nat → Nat) → gT → gM → Prop} {ad : Nat → Nat} {T : gT} {M : gM} {m_a0 : Nat} {a0 : Nat} {o : Int64 × gM} (hF : gFix Z cX9_checksum RX9 "checksum" (some .long) d mc ms Acc AccX) (hn : Z.2.2.2.2.2.1 = 5) (hd : 7 ≤ d) (q0 : T[a0]? = some (9, m_a0)) (h : f_X9_checksum T M a0 = some o) (hR : Acc (some (.long o.1)) ad T o.2) : gG Z ad T M 0 0 0 [(0, .ref a0)] [] := by
  unfold f_X9_checksum at h
  refine g_aload_n hF 0 rfl rfl dX9_checksum_0 ?_
  refine g_iconst (v := (0 : Int32)) hF rfl dX9_checksum_1 ?_
  refine g_put_i hF rfl rfl fl_RX9_59 q0 dX9_checksum_2 ?_
  refine g_aload_n hF 0 rfl rfl dX9_checksum_5 ?_
  obtain ⟨x18, h18, h⟩ := gbnd h
  refine g_callV hF my_X9_layAll kw_1400 kw_1402 kw_98 gC_9.1 (by decide) q0 (c_X9_layAll (d := d - 1) (by omega) q0 h18) (by omega) (Nat.zero_le _) (Nat.zero_le _) rfl rfl (Nat.le_of_ble_eq_true rfl) dX9_checksum_6 (g_sameN ?_)
  refine g_aload_n hF 0 rfl rfl dX9_checksum_9 ?_
  obtain ⟨b19, h19, h⟩ := gbnd h
  obtain ⟨g19, l19, q_b19⟩ := ldr_sp h19
  refine g_get_r hF g19 fl_RX9_17 q0 dX9_checksum_10 ?_
  refine g_iconst (v := (0 : Int32)) hF rfl dX9_checksum_13 ?_
  obtain ⟨v20, h20, h⟩ := gbnd h
  obtain ⟨i20h, e20v⟩ := ald_sp q_b19 h20
  refine g_iald hF q_b19 i20h dX9_checksum_14 ?_
  rw [← e20v]
  refine g_i2l hF dX9_checksum_15 ?_
  refine g_lstore_n (ls' := [(1, .long v20.toInt64), (0, .ref a0)]) hF rfl (by rw [hn]; decide) rfl dX9_checksum_16 ?_
  refine g_iconst (v := (0 : Int32)) hF rfl dX9_checksum_17 ?_
  refine g_istore_n (ls' := [(3, .int (0 : Int32)), (1, .long v20.toInt64), (0, .ref a0)]) hF rfl (by rw [hn]; decide) rfl dX9_checksum_18 ?_
  obtain ⟨x21, h21, h⟩ := gbnd h
  refine gG_sub [2, 1, 0] rfl (t_X9_checksum_L19 hF hn hd q0 h21 ?_)
  refine g_lload_n hF 0 rfl rfl dX9_checksum_137 ?_
  cases h
  exact g_ret_l hF rfl dX9_checksum_138 hR (Nat.zero_le _) (Nat.zero_le _)
theorem c_X9_checksum {d : Nat} {T : gT} {M : gM} {m_a0 : Nat} {a0 : Nat} {r : Int64 × gM} (hd : 7 ≤ d) (q0 : T[a0]? = some (9, m_a0)) (h : f_X9_checksum T M a0 = some (r)) : gRet d yX9_checksum cX9_checksum 5 (some .long) 0 0 [.ref a0] T M (gSame T (some (.long r.1)) r.2) := by
  refine gRet_of (own := RX9) (by decide) rfl (Nat.le_of_ble_eq_true rfl) (fun Z ad0 hn h0 hF => ?_)
  exact t_X9_checksum hF hn hd q0 h ⟨rfl, rfl, rfl, rfl⟩
theorem t_L_load {Z : gZ} {d mc ms : Nat} {Acc : Option Value → (Nat → Nat) → gT → gM → Prop} {AccX : Nat → (Nat → Nat) → gT → gM → Prop} {ad : Nat → Nat} {T : gT} {M : gM} {m_a0 m_a2 : Nat} {a0 : Nat} {i1 : Int32} {a2 : Nat} {o : Int32 × gT × gM} (hFH : gFixH Z cL_load RL "load" (some .int) [(0, 9, 12, 13)] d mc ms Acc AccX) (hn : Z.2.2.2.2.2.1 = 4) (hd : 57 ≤ d) (hmc : 3 ≤ mc) (hms : 813 ≤ ms) (q0 : T[a0]? = some (8, m_a0)) (q2 : T[a2]? = some (12, m_a2)) (h : f_L_load T M a0 i1 a2 = some o) (hR : ∀ ad1 : Nat → Nat, gExt T o.2.1 → (∀ a : Nat, a < T.length → ad1 a = ad a) → Acc (some (.int o.1)) ad1 o.2.1 o.2.2) : gG Z ad T M 0 0 0 [(0, .ref a0), (1, .int i1), (2, .ref a2)] [] := by
  have hF := hFH.fix
  unfold f_L_load at h
  refine g_aload_n hF 2 rfl rfl dL_load_0 ?_
  refine g_iconst (v := (0 : Int32)) hF rfl dL_load_1 ?_
  refine g_aload_n hF 0 rfl rfl dL_load_2 ?_
  refine g_iload_n hF 1 rfl rfl dL_load_3 ?_
  obtain ⟨x1, h1, h⟩ := gbnd h
  rcases x1 with k1 | r1
  · replace h := gcase_l h
    by_cases e1_0 : k1 = 1
    · replace h := gif_t e1_0 h
      subst e1_0
      refine g_callVC hFH my_X8_load kw_674 kw_675 kw_676 gC_8.1 (by decide) q0 (cx_X8_load (d := d - 1) (by omega) q0 h1) (by omega) (by omega) (by omega) rfl rfl (Nat.le_of_ble_eq_true rfl) dL_load_4 [] (0, 9, 12, 13) [] rfl (by decide) (by decide) (fun z hz => nomatch hz) kw_673 kn_630 (Or.inl ⟨⟨3, by decide⟩, dL_load_12, rfl, rfl⟩) (by rw [hn]; decide) (ls' := [(0, .ref a0), (1, .int i1), (2, .ref a2)]) rfl ?_
      refine g_iconst (v := (1 : Int32)) hF rfl dL_load_13 ?_
      cases h
      exact g_ret_i hF rfl rfl dL_load_14 (hR ad gExt.rf (fun _ _ => rfl)) (by omega) (by omega)
    · replace h := gif_f e1_0 h
      cases h
  · replace h := gcase_r h
    refine g_callV hF my_X8_load kw_674 kw_675 kw_676 gC_8.1 (by decide) q0 (c_X8_load (d := d - 1) (by omega) q0 h1) (by omega) (by omega) (by omega) rfl rfl (Nat.le_of_ble_eq_true rfl) dL_load_4 (g_madeS (gOld_r (gT_lt q0) (gOld_i (gOld_r (gT_lt q2) gOld_0))) (gOld_i (gOld_r (gT_lt q2) gOld_0)) (fun ad1 e1 y1 => ?_))
    have X1 := gExt.tr gExt.rf e1
    have W1 := gad_call y1 gExt.rf (fun _ _ => rfl)
    have q_2 := e1 _ _ q0
    have q_3 := e1 _ _ q2
    refine g_i2l hF dL_load_7 ?_
    obtain ⟨M4, h4, h⟩ := gbnd h
    obtain ⟨i4h, e4v⟩ := astl_sp q_3 h4
    refine g_last hF q_3 i4h dL_load_8 ?_
    rw [← e4v]
    refine g_goto (tgt := 15) hF dL_load_9 (by decide) ?_
    refine g_iconst (v := (0 : Int32)) hF rfl dL_load_15 ?_
    cases h
    exact g_ret_i hF rfl rfl dL_load_16 (hR ad1 X1 W1) (by omega) (by omega)
theorem c_L_load {d : Nat} {T : gT} {M : gM} {m_a0 m_a2 : Nat} {a0 : Nat} {i1 : Int32} {a2 : Nat} {r : Int32 × gT × gM} (hd : 57 ≤ d) (q0 : T[a0]? = some (8, m_a0)) (q2 : T[a2]? = some (12, m_a2)) (h : f_L_load T M a0 i1 a2 = some (r)) : gRetH d yL_load cL_load 4 (some .int) [(0, 9, 12, 13)] 3 813 [.ref a0, .int i1, .ref a2] T M (gMade T (some (.int r.1)) r.2.1 r.2.2) := by
  refine gRetH_of (own := RL) (by decide) rfl (Nat.le_of_ble_eq_true rfl) (fun Z ad0 hn h0 hF => ?_)
  exact t_L_load hF hn hd (Nat.le_refl _) (Nat.le_refl _) q0 q2 h (fun ad1 x1 y1 => ⟨rfl, rfl, rfl, x1, y1⟩)
theorem t_L_library {Z : gZ} {d mc ms : Nat} {Acc : Option Value → (Nat → Nat) → gT → gM → Prop} {AccX : Nat → (Nat → Nat) → gT → gM → Prop} {ad : Nat → Nat} {T : gT} {M : gM} {m_a0 m_a3 : Nat} {a0 : Nat} {i1 : Int32} {i2 : Int32} {a3 : Nat} {o : Int32 × gM} (hFH : gFixH Z cL_library RL "library" (some .int) [(0, 10, 13, 19), (0, 10, 17, 13)] d mc ms Acc AccX) (hn : Z.2.2.2.2.2.1 = 5) (hd : 8 ≤ d) (hmc : 1 ≤ mc) (hms : 6 ≤ ms) (q0 : T[a0]? = some (8, m_a0)) (q3 : T[a3]? = some (12, m_a3)) (h : f_L_library T M a0 i1 i2 a3 = some o) (hR : Acc (some (.int o.1)) ad T o.2) : gG Z ad T M 0 0 0 [(0, .ref a0), (1, .int i1), (2, .int i2), (3, .ref a3)] [] := by
  have hF := hFH.fix
  unfold f_L_library at h
  refine g_aload_n hF 3 rfl rfl dL_library_0 ?_
  refine g_iconst (v := (0 : Int32)) hF rfl dL_library_1 ?_
  refine g_aload_n hF 0 rfl rfl dL_library_2 ?_
  refine g_iload_n hF 1 rfl rfl dL_library_3 ?_
  refine g_iload_n hF 2 rfl rfl dL_library_4 ?_
  obtain ⟨x1, h1, h⟩ := gbnd h
  rcases x1 with k1 | r1
  · replace h := gcase_l h
    by_cases e1_0 : k1 = 2
    · replace h := gif_t e1_0 h
      subst e1_0
      refine g_callVC hFH my_X8_library kw_912 kw_553 kw_554 gC_8.1 (by decide) q0 (cx_X8_library (d := d - 1) (by omega) q0 h1) (by omega) (by omega) (by omega) rfl rfl (Nat.le_of_ble_eq_true rfl) dL_library_5 [] (0, 10, 13, 19) [(0, 10, 17, 13)] rfl (by decide) (by decide) (fun z hz => nomatch hz) kw_911 kn_562 (Or.inr ⟨dL_library_13, rfl⟩) (by rw [hn]; decide) (ls' := [(0, .ref a0), (1, .int i1), (2, .int i2), (3, .ref a3)]) rfl ?_
      refine g_iconst (v := (1 : Int32)) hF rfl dL_library_15 ?_
      cases h
      exact g_ret_i hF rfl rfl dL_library_16 hR (by omega) (by omega)
    · replace h := gif_f e1_0 h
      by_cases e1_1 : k1 = 1
      · replace h := gif_t e1_1 h
        subst e1_1
        refine g_callVC hFH my_X8_library kw_912 kw_553 kw_554 gC_8.1 (by decide) q0 (cx_X8_library (d := d - 1) (by omega) q0 h1) (by omega) (by omega) (by omega) rfl rfl (Nat.le_of_ble_eq_true rfl) dL_library_5 [(0, 10, 13, 19)] (0, 10, 17, 13) [] rfl (by decide) (by decide) (fun z hz => by rcases List.mem_singleton.mp hz with rfl; exact ⟨by decide, _, kw_911, by decide⟩) kw_673 kn_630 (Or.inr ⟨dL_library_17, rfl⟩) (by rw [hn]; decide) (ls' := [(0, .ref a0), (1, .int i1), (2, .int i2), (3, .ref a3)]) rfl ?_
        refine g_iconst (v := (2 : Int32)) hF rfl dL_library_19 ?_
        cases h
        exact g_ret_i hF rfl rfl dL_library_20 hR (by omega) (by omega)
      · replace h := gif_f e1_1 h
        cases h
  · replace h := gcase_r h
    refine g_callV hF my_X8_library kw_912 kw_553 kw_554 gC_8.1 (by decide) q0 (c_X8_library (d := d - 1) (by omega) q0 h1) (by omega) (by omega) (by omega) rfl rfl (Nat.le_of_ble_eq_true rfl) dL_library_5 (g_sameS ?_)
    refine g_i2l hF dL_library_8 ?_
    obtain ⟨M2, h2, h⟩ := gbnd h
    obtain ⟨i2h, e2v⟩ := astl_sp q3 h2
    refine g_last hF q3 i2h dL_library_9 ?_
    rw [← e2v]
    refine g_goto (tgt := 21) hF dL_library_10 (by decide) ?_
    refine g_iconst (v := (0 : Int32)) hF rfl dL_library_21 ?_
    cases h
    exact g_ret_i hF rfl rfl dL_library_22 hR (by omega) (by omega)
theorem c_L_library {d : Nat} {T : gT} {M : gM} {m_a0 m_a3 : Nat} {a0 : Nat} {i1 : Int32} {i2 : Int32} {a3 : Nat} {r : Int32 × gM} (hd : 8 ≤ d) (q0 : T[a0]? = some (8, m_a0)) (q3 : T[a3]? = some (12, m_a3)) (h : f_L_library T M a0 i1 i2 a3 = some (r)) : gRetH d yL_library cL_library 5 (some .int) [(0, 10, 13, 19), (0, 10, 17, 13)] 1 6 [.ref a0, .int i1, .int i2, .ref a3] T M (gSame T (some (.int r.1)) r.2) := by
  refine gRetH_of (own := RL) (by decide) rfl (Nat.le_of_ble_eq_true rfl) (fun Z ad0 hn h0 hF => ?_)
  exact t_L_library hF hn hd (Nat.le_refl _) (Nat.le_refl _) q0 q3 h ⟨rfl, rfl, rfl, rfl⟩
theorem t_L_offer {Z : gZ} {d mc ms : Nat} {Acc : Option Value → (Nat → Nat) → gT → gM → Prop} {AccX : Nat → (Nat → Nat) → gT → gM → Prop} {ad : Nat → Nat} {T : gT} {M : gM} {m_a0 m_a3 : Nat} {a0 : Nat} {i1 : Int32} {i2 : Int32} {a3 : Nat} {o : Int32 × gM} (hFH : gFixH Z cL_offer RL "offer" (some .int) [(0, 10, 13, 19)] d mc ms Acc AccX) (hn : Z.2.2.2.2.2.1 = 5) (hd : 8 ≤ d) (hmc : 1 ≤ mc) (hms : 6 ≤ ms) (q0 : T[a0]? = some (8, m_a0)) (q3 : T[a3]? = some (12, m_a3)) (h : f_L_offer T M a0 i1 i2 a3 = some o) (hR : Acc (some (.int o.1)) ad T o.2) : gG Z ad T M 0 0 0 [(0, .ref a0), (1, .int i1), (2, .int i2), (3, .ref a3)] [] := by
  have hF := hFH.fix
  unfold f_L_offer at h
  refine g_aload_n hF 3 rfl rfl dL_offer_0 ?_
  refine g_iconst (v := (0 : Int32)) hF rfl dL_offer_1 ?_
  refine g_aload_n hF 0 rfl rfl dL_offer_2 ?_
  refine g_iload_n hF 1 rfl rfl dL_offer_3 ?_
  refine g_iload_n hF 2 rfl rfl dL_offer_4 ?_
  obtain ⟨x1, h1, h⟩ := gbnd h
  rcases x1 with k1 | r1
  · replace h := gcase_l h
    by_cases e1_0 : k1 = 2
    · replace h := gif_t e1_0 h
      subst e1_0
      refine g_callVC hFH my_X8_offer kw_916 kw_645 kw_646 gC_8.1 (by decide) q0 (cx_X8_offer (d := d - 1) (by omega) q0 h1) (by omega) (by omega) (by omega) rfl rfl (Nat.le_of_ble_eq_true rfl) dL_offer_5 [] (0, 10, 13, 19) [] rfl (by decide) (by decide) (fun z hz => nomatch hz) kw_911 kn_562 (Or.inr ⟨dL_offer_13, rfl⟩) (by rw [hn]; decide) (ls' := [(0, .ref a0), (1, .int i1), (2, .int i2), (3, .ref a3)]) rfl ?_
      refine g_iconst (v := (1 : Int32)) hF rfl dL_offer_15 ?_
      cases h
      exact g_ret_i hF rfl rfl dL_offer_16 hR (by omega) (by omega)
    · replace h := gif_f e1_0 h
      cases h
  · replace h := gcase_r h
    refine g_callV hF my_X8_offer kw_916 kw_645 kw_646 gC_8.1 (by decide) q0 (c_X8_offer (d := d - 1) (by omega) q0 h1) (by omega) (by omega) (by omega) rfl rfl (Nat.le_of_ble_eq_true rfl) dL_offer_5 (g_sameS ?_)
    refine g_i2l hF dL_offer_8 ?_
    obtain ⟨M2, h2, h⟩ := gbnd h
    obtain ⟨i2h, e2v⟩ := astl_sp q3 h2
    refine g_last hF q3 i2h dL_offer_9 ?_
    rw [← e2v]
    refine g_goto (tgt := 17) hF dL_offer_10 (by decide) ?_
    refine g_iconst (v := (0 : Int32)) hF rfl dL_offer_17 ?_
    cases h
    exact g_ret_i hF rfl rfl dL_offer_18 hR (by omega) (by omega)
theorem c_L_offer {d : Nat} {T : gT} {M : gM} {m_a0 m_a3 : Nat} {a0 : Nat} {i1 : Int32} {i2 : Int32} {a3 : Nat} {r : Int32 × gM} (hd : 8 ≤ d) (q0 : T[a0]? = some (8, m_a0)) (q3 : T[a3]? = some (12, m_a3)) (h : f_L_offer T M a0 i1 i2 a3 = some (r)) : gRetH d yL_offer cL_offer 5 (some .int) [(0, 10, 13, 19)] 1 6 [.ref a0, .int i1, .int i2, .ref a3] T M (gSame T (some (.int r.1)) r.2) := by
  refine gRetH_of (own := RL) (by decide) rfl (Nat.le_of_ble_eq_true rfl) (fun Z ad0 hn h0 hF => ?_)
  exact t_L_offer hF hn hd (Nat.le_refl _) (Nat.le_refl _) q0 q3 h ⟨rfl, rfl, rfl, rfl⟩
theorem t_L_candidates {Z : gZ} {d mc ms : Nat} {Acc : Option Value → (Nat → Nat) → gT → gM → Prop} {AccX : Nat → (Nat → Nat) → gT → gM → Prop} {ad : Nat → Nat} {T : gT} {M : gM} {m_a0 m_a2 : Nat} {a0 : Nat} {i1 : Int32} {a2 : Nat} {o : Int32 × gM} (hFH : gFixH Z cL_candidates RL "candidates" (some .int) [(0, 9, 12, 19)] d mc ms Acc AccX) (hn : Z.2.2.2.2.2.1 = 4) (hd : 8 ≤ d) (hmc : 1 ≤ mc) (hms : 6 ≤ ms) (q0 : T[a0]? = some (8, m_a0)) (q2 : T[a2]? = some (12, m_a2)) (h : f_L_candidates T M a0 i1 a2 = some o) (hR : Acc (some (.int o.1)) ad T o.2) : gG Z ad T M 0 0 0 [(0, .ref a0), (1, .int i1), (2, .ref a2)] [] := by
  have hF := hFH.fix
  unfold f_L_candidates at h
  refine g_aload_n hF 2 rfl rfl dL_candidates_0 ?_
  refine g_iconst (v := (0 : Int32)) hF rfl dL_candidates_1 ?_
  refine g_aload_n hF 0 rfl rfl dL_candidates_2 ?_
  refine g_iload_n hF 1 rfl rfl dL_candidates_3 ?_
  obtain ⟨x1, h1, h⟩ := gbnd h
  rcases x1 with k1 | r1
  · replace h := gcase_l h
    by_cases e1_0 : k1 = 2
    · replace h := gif_t e1_0 h
      subst e1_0
      refine g_callVC hFH my_X8_candidates kw_920 kw_921 kw_922 gC_8.1 (by decide) q0 (cx_X8_candidates (d := d - 1) (by omega) q0 h1) (by omega) (by omega) (by omega) rfl rfl (Nat.le_of_ble_eq_true rfl) dL_candidates_4 [] (0, 9, 12, 19) [] rfl (by decide) (by decide) (fun z hz => nomatch hz) kw_911 kn_562 (Or.inl ⟨⟨3, by decide⟩, dL_candidates_12, rfl, rfl⟩) (by rw [hn]; decide) (ls' := [(0, .ref a0), (1, .int i1), (2, .ref a2)]) rfl ?_
      refine g_iconst (v := (1 : Int32)) hF rfl dL_candidates_13 ?_
      cases h
      exact g_ret_i hF rfl rfl dL_candidates_14 hR (by omega) (by omega)
    · replace h := gif_f e1_0 h
      cases h
  · replace h := gcase_r h
    refine g_callV hF my_X8_candidates kw_920 kw_921 kw_922 gC_8.1 (by decide) q0 (c_X8_candidates (d := d - 1) (by omega) q0 h1) (by omega) (by omega) (by omega) rfl rfl (Nat.le_of_ble_eq_true rfl) dL_candidates_4 (g_sameS ?_)
    refine g_i2l hF dL_candidates_7 ?_
    obtain ⟨M2, h2, h⟩ := gbnd h
    obtain ⟨i2h, e2v⟩ := astl_sp q2 h2
    refine g_last hF q2 i2h dL_candidates_8 ?_
    rw [← e2v]
    refine g_goto (tgt := 15) hF dL_candidates_9 (by decide) ?_
    refine g_iconst (v := (0 : Int32)) hF rfl dL_candidates_15 ?_
    cases h
    exact g_ret_i hF rfl rfl dL_candidates_16 hR (by omega) (by omega)
theorem c_L_candidates {d : Nat} {T : gT} {M : gM} {m_a0 m_a2 : Nat} {a0 : Nat} {i1 : Int32} {a2 : Nat} {r : Int32 × gM} (hd : 8 ≤ d) (q0 : T[a0]? = some (8, m_a0)) (q2 : T[a2]? = some (12, m_a2)) (h : f_L_candidates T M a0 i1 a2 = some (r)) : gRetH d yL_candidates cL_candidates 4 (some .int) [(0, 9, 12, 19)] 1 6 [.ref a0, .int i1, .ref a2] T M (gSame T (some (.int r.1)) r.2) := by
  refine gRetH_of (own := RL) (by decide) rfl (Nat.le_of_ble_eq_true rfl) (fun Z ad0 hn h0 hF => ?_)
  exact t_L_candidates hF hn hd (Nat.le_refl _) (Nat.le_refl _) q0 q2 h ⟨rfl, rfl, rfl, rfl⟩
theorem t_L_vote {Z : gZ} {d mc ms : Nat} {Acc : Option Value → (Nat → Nat) → gT → gM → Prop} {AccX : Nat → (Nat → Nat) → gT → gM → Prop} {ad : Nat → Nat} {T : gT} {M : gM} {m_a0 m_a3 : Nat} {a0 : Nat} {i1 : Int32} {i2 : Int32} {a3 : Nat} {o : Int32 × gM} (hFH : gFixH Z cL_vote RL "vote" (some .int) [(0, 10, 13, 19)] d mc ms Acc AccX) (hn : Z.2.2.2.2.2.1 = 5) (hd : 8 ≤ d) (hmc : 1 ≤ mc) (hms : 6 ≤ ms) (q0 : T[a0]? = some (8, m_a0)) (q3 : T[a3]? = some (12, m_a3)) (h : f_L_vote T M a0 i1 i2 a3 = some o) (hR : Acc (some (.int o.1)) ad T o.2) : gG Z ad T M 0 0 0 [(0, .ref a0), (1, .int i1), (2, .int i2), (3, .ref a3)] [] := by
  have hF := hFH.fix
  unfold f_L_vote at h
  refine g_aload_n hF 3 rfl rfl dL_vote_0 ?_
  refine g_iconst (v := (0 : Int32)) hF rfl dL_vote_1 ?_
  refine g_aload_n hF 0 rfl rfl dL_vote_2 ?_
  refine g_iload_n hF 1 rfl rfl dL_vote_3 ?_
  refine g_iload_n hF 2 rfl rfl dL_vote_4 ?_
  obtain ⟨x1, h1, h⟩ := gbnd h
  rcases x1 with k1 | r1
  · replace h := gcase_l h
    by_cases e1_0 : k1 = 2
    · replace h := gif_t e1_0 h
      subst e1_0
      refine g_callVC hFH my_X8_vote kw_927 kw_928 kw_929 gC_8.1 (by decide) q0 (cx_X8_vote (d := d - 1) (by omega) q0 h1) (by omega) (by omega) (by omega) rfl rfl (Nat.le_of_ble_eq_true rfl) dL_vote_5 [] (0, 10, 13, 19) [] rfl (by decide) (by decide) (fun z hz => nomatch hz) kw_911 kn_562 (Or.inr ⟨dL_vote_13, rfl⟩) (by rw [hn]; decide) (ls' := [(0, .ref a0), (1, .int i1), (2, .int i2), (3, .ref a3)]) rfl ?_
      refine g_iconst (v := (1 : Int32)) hF rfl dL_vote_15 ?_
      cases h
      exact g_ret_i hF rfl rfl dL_vote_16 hR (by omega) (by omega)
    · replace h := gif_f e1_0 h
      cases h
  · replace h := gcase_r h
    refine g_callV hF my_X8_vote kw_927 kw_928 kw_929 gC_8.1 (by decide) q0 (c_X8_vote (d := d - 1) (by omega) q0 h1) (by omega) (by omega) (by omega) rfl rfl (Nat.le_of_ble_eq_true rfl) dL_vote_5 (g_sameS ?_)
    refine g_i2l hF dL_vote_8 ?_
    obtain ⟨M2, h2, h⟩ := gbnd h
    obtain ⟨i2h, e2v⟩ := astl_sp q3 h2
    refine g_last hF q3 i2h dL_vote_9 ?_
    rw [← e2v]
    refine g_goto (tgt := 17) hF dL_vote_10 (by decide) ?_
    refine g_iconst (v := (0 : Int32)) hF rfl dL_vote_17 ?_
    cases h
    exact g_ret_i hF rfl rfl dL_vote_18 hR (by omega) (by omega)
theorem c_L_vote {d : Nat} {T : gT} {M : gM} {m_a0 m_a3 : Nat} {a0 : Nat} {i1 : Int32} {i2 : Int32} {a3 : Nat} {r : Int32 × gM} (hd : 8 ≤ d) (q0 : T[a0]? = some (8, m_a0)) (q3 : T[a3]? = some (12, m_a3)) (h : f_L_vote T M a0 i1 i2 a3 = some (r)) : gRetH d yL_vote cL_vote 5 (some .int) [(0, 10, 13, 19)] 1 6 [.ref a0, .int i1, .int i2, .ref a3] T M (gSame T (some (.int r.1)) r.2) := by
  refine gRetH_of (own := RL) (by decide) rfl (Nat.le_of_ble_eq_true rfl) (fun Z ad0 hn h0 hF => ?_)
  exact t_L_vote hF hn hd (Nat.le_refl _) (Nat.le_refl _) q0 q3 h ⟨rfl, rfl, rfl, rfl⟩
theorem t_L_support {Z : gZ} {d mc ms : Nat} {Acc : Option Value → (Nat → Nat) → gT → gM → Prop} {AccX : Nat → (Nat → Nat) → gT → gM → Prop} {ad : Nat → Nat} {T : gT} {M : gM} {m_a0 m_a3 : Nat} {a0 : Nat} {i1 : Int32} {i2 : Int32} {a3 : Nat} {o : Int32 × gM} (hFH : gFixH Z cL_support RL "support" (some .int) [(0, 10, 13, 19)] d mc ms Acc AccX) (hn : Z.2.2.2.2.2.1 = 5) (hd : 8 ≤ d) (hmc : 1 ≤ mc) (hms : 6 ≤ ms) (q0 : T[a0]? = some (8, m_a0)) (q3 : T[a3]? = some (12, m_a3)) (h : f_L_support T M a0 i1 i2 a3 = some o) (hR : Acc (some (.int o.1)) ad T o.2) : gG Z ad T M 0 0 0 [(0, .ref a0), (1, .int i1), (2, .int i2), (3, .ref a3)] [] := by
  have hF := hFH.fix
  unfold f_L_support at h
  refine g_aload_n hF 3 rfl rfl dL_support_0 ?_
  refine g_iconst (v := (0 : Int32)) hF rfl dL_support_1 ?_
  refine g_aload_n hF 0 rfl rfl dL_support_2 ?_
  refine g_iload_n hF 1 rfl rfl dL_support_3 ?_
  refine g_iload_n hF 2 rfl rfl dL_support_4 ?_
  obtain ⟨x1, h1, h⟩ := gbnd h
  rcases x1 with k1 | r1
  · replace h := gcase_l h
    by_cases e1_0 : k1 = 2
    · replace h := gif_t e1_0 h
      subst e1_0
      refine g_callVC hFH my_X8_support kw_934 kw_935 kw_936 gC_8.1 (by decide) q0 (cx_X8_support (d := d - 1) (by omega) q0 h1) (by omega) (by omega) (by omega) rfl rfl (Nat.le_of_ble_eq_true rfl) dL_support_5 [] (0, 10, 13, 19) [] rfl (by decide) (by decide) (fun z hz => nomatch hz) kw_911 kn_562 (Or.inr ⟨dL_support_13, rfl⟩) (by rw [hn]; decide) (ls' := [(0, .ref a0), (1, .int i1), (2, .int i2), (3, .ref a3)]) rfl ?_
      refine g_iconst (v := (1 : Int32)) hF rfl dL_support_15 ?_
      cases h
      exact g_ret_i hF rfl rfl dL_support_16 hR (by omega) (by omega)
    · replace h := gif_f e1_0 h
      cases h
  · replace h := gcase_r h
    refine g_callV hF my_X8_support kw_934 kw_935 kw_936 gC_8.1 (by decide) q0 (c_X8_support (d := d - 1) (by omega) q0 h1) (by omega) (by omega) (by omega) rfl rfl (Nat.le_of_ble_eq_true rfl) dL_support_5 (g_sameS ?_)
    refine g_i2l hF dL_support_8 ?_
    obtain ⟨M2, h2, h⟩ := gbnd h
    obtain ⟨i2h, e2v⟩ := astl_sp q3 h2
    refine g_last hF q3 i2h dL_support_9 ?_
    rw [← e2v]
    refine g_goto (tgt := 17) hF dL_support_10 (by decide) ?_
    refine g_iconst (v := (0 : Int32)) hF rfl dL_support_17 ?_
    cases h
    exact g_ret_i hF rfl rfl dL_support_18 hR (by omega) (by omega)
theorem c_L_support {d : Nat} {T : gT} {M : gM} {m_a0 m_a3 : Nat} {a0 : Nat} {i1 : Int32} {i2 : Int32} {a3 : Nat} {r : Int32 × gM} (hd : 8 ≤ d) (q0 : T[a0]? = some (8, m_a0)) (q3 : T[a3]? = some (12, m_a3)) (h : f_L_support T M a0 i1 i2 a3 = some (r)) : gRetH d yL_support cL_support 5 (some .int) [(0, 10, 13, 19)] 1 6 [.ref a0, .int i1, .int i2, .ref a3] T M (gSame T (some (.int r.1)) r.2) := by
  refine gRetH_of (own := RL) (by decide) rfl (Nat.le_of_ble_eq_true rfl) (fun Z ad0 hn h0 hF => ?_)
  exact t_L_support hF hn hd (Nat.le_refl _) (Nat.le_refl _) q0 q3 h ⟨rfl, rfl, rfl, rfl⟩
theorem t_L_winner {Z : gZ} {d mc ms : Nat} {Acc : Option Value → (Nat → Nat) → gT → gM → Prop} {AccX : Nat → (Nat → Nat) → gT → gM → Prop} {ad : Nat → Nat} {T : gT} {M : gM} {m_a0 m_a2 : Nat} {a0 : Nat} {i1 : Int32} {a2 : Nat} {o : Int32 × gM} (hFH : gFixH Z cL_winner RL "winner" (some .int) [(0, 9, 12, 19)] d mc ms Acc AccX) (hn : Z.2.2.2.2.2.1 = 4) (hd : 8 ≤ d) (hmc : 1 ≤ mc) (hms : 6 ≤ ms) (q0 : T[a0]? = some (8, m_a0)) (q2 : T[a2]? = some (12, m_a2)) (h : f_L_winner T M a0 i1 a2 = some o) (hR : Acc (some (.int o.1)) ad T o.2) : gG Z ad T M 0 0 0 [(0, .ref a0), (1, .int i1), (2, .ref a2)] [] := by
  have hF := hFH.fix
  unfold f_L_winner at h
  refine g_aload_n hF 2 rfl rfl dL_winner_0 ?_
  refine g_iconst (v := (0 : Int32)) hF rfl dL_winner_1 ?_
  refine g_aload_n hF 0 rfl rfl dL_winner_2 ?_
  refine g_iload_n hF 1 rfl rfl dL_winner_3 ?_
  obtain ⟨x1, h1, h⟩ := gbnd h
  rcases x1 with k1 | r1
  · replace h := gcase_l h
    by_cases e1_0 : k1 = 2
    · replace h := gif_t e1_0 h
      subst e1_0
      refine g_callVC hFH my_X8_winner kw_941 kw_942 kw_943 gC_8.1 (by decide) q0 (cx_X8_winner (d := d - 1) (by omega) q0 h1) (by omega) (by omega) (by omega) rfl rfl (Nat.le_of_ble_eq_true rfl) dL_winner_4 [] (0, 9, 12, 19) [] rfl (by decide) (by decide) (fun z hz => nomatch hz) kw_911 kn_562 (Or.inl ⟨⟨3, by decide⟩, dL_winner_12, rfl, rfl⟩) (by rw [hn]; decide) (ls' := [(0, .ref a0), (1, .int i1), (2, .ref a2)]) rfl ?_
      refine g_iconst (v := (1 : Int32)) hF rfl dL_winner_13 ?_
      cases h
      exact g_ret_i hF rfl rfl dL_winner_14 hR (by omega) (by omega)
    · replace h := gif_f e1_0 h
      cases h
  · replace h := gcase_r h
    refine g_callV hF my_X8_winner kw_941 kw_942 kw_943 gC_8.1 (by decide) q0 (c_X8_winner (d := d - 1) (by omega) q0 h1) (by omega) (by omega) (by omega) rfl rfl (Nat.le_of_ble_eq_true rfl) dL_winner_4 (g_sameS ?_)
    refine g_i2l hF dL_winner_7 ?_
    obtain ⟨M2, h2, h⟩ := gbnd h
    obtain ⟨i2h, e2v⟩ := astl_sp q2 h2
    refine g_last hF q2 i2h dL_winner_8 ?_
    rw [← e2v]
    refine g_goto (tgt := 15) hF dL_winner_9 (by decide) ?_
    refine g_iconst (v := (0 : Int32)) hF rfl dL_winner_15 ?_
    cases h
    exact g_ret_i hF rfl rfl dL_winner_16 hR (by omega) (by omega)
theorem c_L_winner {d : Nat} {T : gT} {M : gM} {m_a0 m_a2 : Nat} {a0 : Nat} {i1 : Int32} {a2 : Nat} {r : Int32 × gM} (hd : 8 ≤ d) (q0 : T[a0]? = some (8, m_a0)) (q2 : T[a2]? = some (12, m_a2)) (h : f_L_winner T M a0 i1 a2 = some (r)) : gRetH d yL_winner cL_winner 4 (some .int) [(0, 9, 12, 19)] 1 6 [.ref a0, .int i1, .ref a2] T M (gSame T (some (.int r.1)) r.2) := by
  refine gRetH_of (own := RL) (by decide) rfl (Nat.le_of_ble_eq_true rfl) (fun Z ad0 hn h0 hF => ?_)
  exact t_L_winner hF hn hd (Nat.le_refl _) (Nat.le_refl _) q0 q2 h ⟨rfl, rfl, rfl, rfl⟩
