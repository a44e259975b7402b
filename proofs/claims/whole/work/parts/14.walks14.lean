theorem t_X9_expect {Z : gZ} {d mc ms : Nat} {Acc : Option Value → (Nat → Nat) → gT → gM → Prop} {AccX : Nat → (Nat → Nat) → gT → gM → Prop} {ad : Nat → Nat} {T : gT} {M : gM} {m_a0 : Nat} {a0 : Nat} {i1 : Int32} {o : gM} (hF : gFix Z cX9_expect RX9 "expect" none d mc ms Acc AccX) (hn : Z.2.2.2.2.2.1 = 2) (hd : 3 ≤ d) (q0 : T[a0]? = some (9, m_a0)) (h : f_X9_expect T M a0 i1 = some o) (hR : Acc none ad T o) : gG Z ad T M 0 0 0 [(0, .ref a0), (1, .int i1)] [] := by
  unfold f_X9_expect at h
  refine g_aload_n hF 0 rfl rfl dX9_expect_0 ?_
  obtain ⟨x1, h1, h⟩ := gbnd h
  refine g_callV hF my_X9_isGood kw_1195 kw_1197 kw_66 gC_9.1 (by decide) q0 (c_X9_isGood (d := d - 1) (by omega) q0 h1) (by omega) (Nat.zero_le _) (Nat.zero_le _) rfl rfl (Nat.le_of_ble_eq_true rfl) dX9_expect_1 (g_sameS ?_)
  refine g_if_ne (tgt := 8) hF dX9_expect_4 (by decide) (fun c2 => ?_) (fun c2 => ?_)
  · replace h := gif_t c2 h
    refine g_aload_n hF 0 rfl rfl dX9_expect_8 ?_
    obtain ⟨x3, h3, h⟩ := gbnd h
    refine g_callV hF my_X9_next kw_1199 kw_1201 kw_67 gC_9.1 (by decide) q0 (c_X9_next (d := d - 1) (by omega) q0 h3) (by omega) (Nat.zero_le _) (Nat.zero_le _) rfl rfl (Nat.le_of_ble_eq_true rfl) dX9_expect_9 (g_sameS ?_)
    refine g_iload_n hF 1 rfl rfl dX9_expect_12 ?_
    refine g_icmp_ne (tgt := 29) hF dX9_expect_13 (by decide) (fun c4 => ?_) (fun c4 => ?_)
    · replace h := gif_t c4 h
      refine g_aload_n hF 0 rfl rfl dX9_expect_29 ?_
      refine g_bipush (v := (-2 : Int32)) hF rfl dX9_expect_30 ?_
      refine g_aload_n hF 0 rfl rfl dX9_expect_32 ?_
      refine g_get_i hF fl_RX9_68 q0 dX9_expect_33 ?_
      obtain ⟨x5, h5, h⟩ := gbnd h
      refine g_callV hF my_X9_report kw_1209 kw_1211 kw_69 gC_9.1 (by decide) q0 (c_X9_report (d := d - 1) (by omega) q0 h5) (by omega) (Nat.zero_le _) (Nat.zero_le _) rfl rfl (Nat.le_of_ble_eq_true rfl) dX9_expect_36 (g_sameN ?_)
      cases h
      exact g_ret_v hF rfl dX9_expect_39 hR (Nat.zero_le _) (Nat.zero_le _)
    · replace h := gif_n c4 h
      refine g_aload_n hF 0 rfl rfl dX9_expect_16 ?_
      refine g_dup hF rfl dX9_expect_17 ?_
      refine g_get_i hF fl_RX9_68 q0 dX9_expect_18 ?_
      refine g_iconst (v := (1 : Int32)) hF rfl dX9_expect_21 ?_
      refine g_iadd hF dX9_expect_22 ?_
      refine g_put_i hF rfl rfl fl_RX9_68 q0 dX9_expect_23 ?_
      refine g_goto (tgt := 39) hF dX9_expect_26 (by decide) ?_
      cases h
      exact g_ret_v hF rfl dX9_expect_39 hR (Nat.zero_le _) (Nat.zero_le _)
  · replace h := gif_n c2 h
    cases h
    exact g_ret_v hF rfl dX9_expect_7 hR (Nat.zero_le _) (Nat.zero_le _)
theorem c_X9_expect {d : Nat} {T : gT} {M : gM} {m_a0 : Nat} {a0 : Nat} {i1 : Int32} {r : gM} (hd : 3 ≤ d) (q0 : T[a0]? = some (9, m_a0)) (h : f_X9_expect T M a0 i1 = some (r)) : gRet d yX9_expect cX9_expect 2 none 0 0 [.ref a0, .int i1] T M (gSame T none r) := by
  refine gRet_of (own := RX9) (by decide) rfl (Nat.le_of_ble_eq_true rfl) (fun Z ad0 hn h0 hF => ?_)
  exact t_X9_expect hF hn hd q0 h ⟨rfl, rfl, rfl, rfl⟩
theorem t_X9_number_B41 {Z : gZ} {d mc ms : Nat} {Acc : Option Value → (Nat → Nat) → gT → gM → Prop} {AccX : Nat → (Nat → Nat) → gT → gM → Prop} {ad : Nat → Nat} {T : gT} {M : gM} {m_a0 : Nat} {a0 : Nat} {i1 : Int32} {i2 : Int32} {i3 : Int32} {o : (Int32 × gM) ⊕ (Int32 × gM)} (hF : gFix Z cX9_number RX9 "number" (some .int) d mc ms Acc AccX) (hn : Z.2.2.2.2.2.1 = 4) (hd : 3 ≤ d) (q0 : T[a0]? = some (9, m_a0)) (h : f_X9_number_B41 T M a0 i1 i2 i3 = some o) (hE : ∀ e9, o = .inl e9 → gG Z ad T e9.2 0 0 90 [(0, .ref a0), (1, .int i1), (2, .int i2), (3, .int e9.1)] []) (hN : ∀ n9, o = .inr n9 → gG Z ad T n9.2 0 0 41 [(0, .ref a0), (1, .int i1), (2, .int i2), (3, .int n9.1)] []) : gG Z ad T M 0 0 41 [(0, .ref a0), (1, .int i1), (2, .int i2), (3, .int i3)] [] := by
  unfold f_X9_number_B41 at h
  refine g_aload_n hF 0 rfl rfl dX9_number_41 ?_
  refine g_aload_n hF 0 rfl rfl dX9_number_42 ?_
  refine g_get_i hF fl_RX9_68 q0 dX9_number_43 ?_
  obtain ⟨x1, h1, h⟩ := gbnd h
  refine g_callV hF my_X9_byteAt kw_1203 kw_1205 kw_68 gC_9.1 (by decide) q0 (c_X9_byteAt (d := d - 1) (by omega) q0 h1) (by omega) (Nat.zero_le _) (Nat.zero_le _) rfl rfl (Nat.le_of_ble_eq_true rfl) dX9_number_46 (g_sameS ?_)
  obtain ⟨x2, h2, h⟩ := gbnd h
  refine g_callS hF my_X9_isDigit kw_1251 kw_1252 (c_X9_isDigit (d := d - 1) (by omega)  h2) (by omega) (Nat.zero_le _) (Nat.zero_le _) rfl rfl (Nat.le_of_ble_eq_true rfl) dX9_number_49 (g_sameS ?_)
  refine g_if_eq (tgt := 90) hF dX9_number_52 (by decide) (fun c3 => ?_) (fun c3 => ?_)
  · replace h := gif_t c3 h
    exact gG_sub [0, 1, 2, 3] rfl (hE _ (Option.some.inj h).symm)
  · replace h := gif_f c3 h
    refine g_ldc (v := (1000000 : Int32)) hF kw_1254 dX9_number_55 ?_
    refine g_bipush (v := (10 : Int32)) hF rfl dX9_number_57 ?_
    refine g_iload_n hF 3 rfl rfl dX9_number_59 ?_
    refine g_imul hF dX9_number_60 ?_
    refine g_aload_n hF 0 rfl rfl dX9_number_61 ?_
    refine g_aload_n hF 0 rfl rfl dX9_number_62 ?_
    refine g_get_i hF fl_RX9_68 q0 dX9_number_63 ?_
    obtain ⟨x4, h4, h⟩ := gbnd h
    refine g_callV hF my_X9_byteAt kw_1203 kw_1205 kw_68 gC_9.1 (by decide) q0 (c_X9_byteAt (d := d - 1) (by omega) q0 h4) (by omega) (Nat.zero_le _) (Nat.zero_le _) rfl rfl (Nat.le_of_ble_eq_true rfl) dX9_number_66 (g_sameS ?_)
    refine g_iadd hF dX9_number_69 ?_
    refine g_bipush (v := (48 : Int32)) hF rfl dX9_number_70 ?_
    refine g_isub hF dX9_number_72 ?_
    obtain ⟨x5, h5, h⟩ := gbnd h
    refine g_callS hF my_X9_min kw_1255 kw_1256 (c_X9_min (d := d - 1) (by omega)  h5) (by omega) (Nat.zero_le _) (Nat.zero_le _) rfl rfl (Nat.le_of_ble_eq_true rfl) dX9_number_73 (g_sameS ?_)
    refine g_istore_n (ls' := [(3, .int x5), (0, .ref a0), (1, .int i1), (2, .int i2)]) hF rfl (by rw [hn]; decide) rfl dX9_number_76 ?_
    refine g_aload_n hF 1 rfl rfl dX9_number_77 ?_
    refine g_dup hF rfl dX9_number_78 ?_
    refine g_get_i hF fl_RX9_68 q0 dX9_number_79 ?_
    refine g_iconst (v := (1 : Int32)) hF rfl dX9_number_82 ?_
    refine g_iadd hF dX9_number_83 ?_
    refine g_put_i hF rfl rfl fl_RX9_68 q0 dX9_number_84 ?_
    refine g_goto (tgt := 41) hF dX9_number_87 (by decide) ?_
    exact gG_sub [1, 2, 3, 0] rfl (hN _ (Option.some.inj h).symm)
theorem t_X9_number_L41 {Z : gZ} {d mc ms : Nat} {Acc : Option Value → (Nat → Nat) → gT → gM → Prop} {AccX : Nat → (Nat → Nat) → gT → gM → Prop} {ad : Nat → Nat} {T : gT} {M : gM} {m_a0 : Nat} {a0 : Nat} {i1 : Int32} {i2 : Int32} {i3 : Int32} {o : Int32 × gM} (hF : gFix Z cX9_number RX9 "number" (some .int) d mc ms Acc AccX) (hn : Z.2.2.2.2.2.1 = 4) (hd : 3 ≤ d) (q0 : T[a0]? = some (9, m_a0)) (h : gloop (fun x => f_X9_number_B41 T x.2 a0 i1 i2 x.1) gFU (i3, M) = some o) (hE : gG Z ad T o.2 0 0 90 [(0, .ref a0), (1, .int i1), (2, .int i2), (3, .int o.1)] []) : gG Z ad T M 0 0 41 [(0, .ref a0), (1, .int i1), (2, .int i2), (3, .int i3)] [] := by
  refine gloop_ind (P := fun x0 : Int32 × gM => gG Z ad T x0.2 0 0 41 [(0, .ref a0), (1, .int i1), (2, .int i2), (3, .int x0.1)] []) (e := o) (fun x0 y hy hl hr => ?_) gFU (i3, M) h
  exact t_X9_number_B41 hF hn hd q0 hy (fun e9 q9 => by rw [hl _ q9]; exact hE) (fun n9 q9 => hr n9 q9)
theorem t_X9_number {Z : gZ} {d mc ms : Nat} {Acc : Option Value → (Nat → Nat) → gT → gM → Prop} {AccX : Nat → (Nat → Nat) → gT → gM → Prop} {ad : Nat → Nat} {T : gT} {M : gM} {m_a0 : Nat} {a0 : Nat} {i1 : Int32} {i2 : Int32} {o : Int32 × gM} (hF : gFix Z cX9_number RX9 "number" (some .int) d mc ms Acc AccX) (hn : Z.2.2.2.2.2.1 = 4) (hd : 3 ≤ d) (q0 : T[a0]? = some (9, m_a0)) (h : f_X9_number T M a0 i1 i2 = some o) (hR : Acc (some (.int o.1)) ad T o.2) : gG Z ad T M 0 0 0 [(0, .ref a0), (1, .int i1), (2, .int i2)] [] := by
  unfold f_X9_number at h
  refine g_aload_n hF 0 rfl rfl dX9_number_0 ?_
  obtain ⟨x6, h6, h⟩ := gbnd h
  refine g_callV hF my_X9_isGood kw_1195 kw_1197 kw_66 gC_9.1 (by decide) q0 (c_X9_isGood (d := d - 1) (by omega) q0 h6) (by omega) (Nat.zero_le _) (Nat.zero_le _) rfl rfl (Nat.le_of_ble_eq_true rfl) dX9_number_1 (g_sameS ?_)
  refine g_if_ne (tgt := 9) hF dX9_number_4 (by decide) (fun c7 => ?_) (fun c7 => ?_)
  · replace h := gif_t c7 h
    refine g_aload_n hF 0 rfl rfl dX9_number_9 ?_
    obtain ⟨x8, h8, h⟩ := gbnd h
    refine g_callV hF my_X9_next kw_1199 kw_1201 kw_67 gC_9.1 (by decide) q0 (c_X9_next (d := d - 1) (by omega) q0 h8) (by omega) (Nat.zero_le _) (Nat.zero_le _) rfl rfl (Nat.le_of_ble_eq_true rfl) dX9_number_10 (g_sameS ?_)
    obtain ⟨x9, h9, h⟩ := gbnd h
    refine g_callS hF my_X9_isDigit kw_1251 kw_1252 (c_X9_isDigit (d := d - 1) (by omega)  h9) (by omega) (Nat.zero_le _) (Nat.zero_le _) rfl rfl (Nat.le_of_ble_eq_true rfl) dX9_number_13 (g_sameS ?_)
    refine g_if_ne (tgt := 31) hF dX9_number_16 (by decide) (fun c10 => ?_) (fun c10 => ?_)
    · replace h := gif_t c10 h
      refine g_aload_n hF 0 rfl rfl dX9_number_31 ?_
      refine g_aload_n hF 0 rfl rfl dX9_number_32 ?_
      refine g_get_i hF fl_RX9_68 q0 dX9_number_33 ?_
      refine g_put_i hF rfl rfl fl_RX9_110 q0 dX9_number_36 ?_
      refine g_iconst (v := (0 : Int32)) hF rfl dX9_number_39 ?_
      refine g_istore_n (ls' := [(3, .int (0 : Int32)), (0, .ref a0), (1, .int i1), (2, .int i2)]) hF rfl (by rw [hn]; decide) rfl dX9_number_40 ?_
      obtain ⟨x11, h11, h⟩ := gbnd h
      refine gG_sub [1, 2, 3, 0] rfl (t_X9_number_L41 hF hn hd q0 h11 ?_)
      refine g_iload_n hF 3 rfl rfl dX9_number_90 ?_
      refine g_iload_n hF 1 rfl rfl dX9_number_91 ?_
      refine g_iload_n hF 2 rfl rfl dX9_number_92 ?_
      obtain ⟨x12, h12, h⟩ := gbnd h
      refine g_callS hF my_X9_in kw_1183 kw_1184 (c_X9_in (d := d - 1) (by omega)  h12) (by omega) (Nat.zero_le _) (Nat.zero_le _) rfl rfl (Nat.le_of_ble_eq_true rfl) dX9_number_93 (g_sameS ?_)
      refine g_if_ne (tgt := 109) hF dX9_number_96 (by decide) (fun c13 => ?_) (fun c13 => ?_)
      · replace h := gif_t c13 h
        refine g_iload_n hF 3 rfl rfl dX9_number_109 ?_
        cases h
        exact g_ret_i hF rfl rfl dX9_number_110 hR (Nat.zero_le _) (Nat.zero_le _)
      · replace h := gif_n c13 h
        refine g_aload_n hF 0 rfl rfl dX9_number_99 ?_
        refine g_bipush (v := (-3 : Int32)) hF rfl dX9_number_100 ?_
        refine g_aload_n hF 0 rfl rfl dX9_number_102 ?_
        refine g_get_i hF fl_RX9_110 q0 dX9_number_103 ?_
        obtain ⟨x14, h14, h⟩ := gbnd h
        refine g_callV hF my_X9_report kw_1209 kw_1211 kw_69 gC_9.1 (by decide) q0 (c_X9_report (d := d - 1) (by omega) q0 h14) (by omega) (Nat.zero_le _) (Nat.zero_le _) rfl rfl (Nat.le_of_ble_eq_true rfl) dX9_number_106 (g_sameN ?_)
        refine g_iload_n hF 3 rfl rfl dX9_number_109 ?_
        cases h
        exact g_ret_i hF rfl rfl dX9_number_110 hR (Nat.zero_le _) (Nat.zero_le _)
    · replace h := gif_n c10 h
      refine g_aload_n hF 0 rfl rfl dX9_number_19 ?_
      refine g_bipush (v := (-2 : Int32)) hF rfl dX9_number_20 ?_
      refine g_aload_n hF 0 rfl rfl dX9_number_22 ?_
      refine g_get_i hF fl_RX9_68 q0 dX9_number_23 ?_
      obtain ⟨x15, h15, h⟩ := gbnd h
      refine g_callV hF my_X9_report kw_1209 kw_1211 kw_69 gC_9.1 (by decide) q0 (c_X9_report (d := d - 1) (by omega) q0 h15) (by omega) (Nat.zero_le _) (Nat.zero_le _) rfl rfl (Nat.le_of_ble_eq_true rfl) dX9_number_26 (g_sameN ?_)
      refine g_iconst (v := (0 : Int32)) hF rfl dX9_number_29 ?_
      cases h
      exact g_ret_i hF rfl rfl dX9_number_30 hR (Nat.zero_le _) (Nat.zero_le _)
  · replace h := gif_n c7 h
    refine g_iconst (v := (0 : Int32)) hF rfl dX9_number_7 ?_
    cases h
    exact g_ret_i hF rfl rfl dX9_number_8 hR (Nat.zero_le _) (Nat.zero_le _)
theorem c_X9_number {d : Nat} {T : gT} {M : gM} {m_a0 : Nat} {a0 : Nat} {i1 : Int32} {i2 : Int32} {r : Int32 × gM} (hd : 3 ≤ d) (q0 : T[a0]? = some (9, m_a0)) (h : f_X9_number T M a0 i1 i2 = some (r)) : gRet d yX9_number cX9_number 4 (some .int) 0 0 [.ref a0, .int i1, .int i2] T M (gSame T (some (.int r.1)) r.2) := by
  refine gRet_of (own := RX9) (by decide) rfl (Nat.le_of_ble_eq_true rfl) (fun Z ad0 hn h0 hF => ?_)
  exact t_X9_number hF hn hd q0 h ⟨rfl, rfl, rfl, rfl⟩
theorem t_X9_emit {Z : gZ} {d mc ms : Nat} {Acc : Option Value → (Nat → Nat) → gT → gM → Prop} {AccX : Nat → (Nat → Nat) → gT → gM → Prop} {ad : Nat → Nat} {T : gT} {M : gM} {m_a0 : Nat} {a0 : Nat} {i1 : Int32} {o : gM} (hF : gFix Z cX9_emit RX9 "emit" none d mc ms Acc AccX) (hn : Z.2.2.2.2.2.1 = 2) (hd : 2 ≤ d) (q0 : T[a0]? = some (9, m_a0)) (h : f_X9_emit T M a0 i1 = some o) (hR : Acc none ad T o) : gG Z ad T M 0 0 0 [(0, .ref a0), (1, .int i1)] [] := by
  unfold f_X9_emit at h
  refine g_aload_n hF 0 rfl rfl dX9_emit_0 ?_
  obtain ⟨x1, h1, h⟩ := gbnd h
  refine g_callV hF my_X9_isGood kw_1195 kw_1197 kw_66 gC_9.1 (by decide) q0 (c_X9_isGood (d := d - 1) (by omega) q0 h1) (by omega) (Nat.zero_le _) (Nat.zero_le _) rfl rfl (Nat.le_of_ble_eq_true rfl) dX9_emit_1 (g_sameS ?_)
  refine g_if_ne (tgt := 8) hF dX9_emit_4 (by decide) (fun c2 => ?_) (fun c2 => ?_)
  · replace h := gif_t c2 h
    refine g_aload_n hF 0 rfl rfl dX9_emit_8 ?_
    obtain ⟨b3, h3, h⟩ := gbnd h
    obtain ⟨g3, l3, q_b3⟩ := ldr_sp h3
    refine g_get_r hF g3 fl_RX9_20 q0 dX9_emit_9 ?_
    refine g_sipush (v := (198 : Int32)) hF rfl dX9_emit_12 ?_
    refine g_aload_n hF 0 rfl rfl dX9_emit_15 ?_
    obtain ⟨b4, h4, h⟩ := gbnd h
    obtain ⟨g4, l4, q_b4⟩ := ldr_sp h4
    refine g_get_r hF g4 fl_RX9_20 q0 dX9_emit_16 ?_
    refine g_iconst (v := (5 : Int32)) hF rfl dX9_emit_19 ?_
    obtain ⟨v5, h5, h⟩ := gbnd h
    obtain ⟨i5h, e5v⟩ := ald_sp q_b4 h5
    refine g_iald hF q_b4 i5h dX9_emit_20 ?_
    rw [← e5v]
    refine g_iadd hF dX9_emit_21 ?_
    refine g_iload_n hF 1 rfl rfl dX9_emit_22 ?_
    obtain ⟨M6, h6, h⟩ := gbnd h
    obtain ⟨i6h, e6v⟩ := ast_sp q_b3 h6
    refine g_iast hF q_b3 i6h dX9_emit_23 ?_
    rw [← e6v]
    refine g_aload_n hF 0 rfl rfl dX9_emit_24 ?_
    obtain ⟨b7, h7, h⟩ := gbnd h
    obtain ⟨g7, l7, q_b7⟩ := ldr_sp h7
    refine g_get_r hF g7 fl_RX9_20 q0 dX9_emit_25 ?_
    refine g_iconst (v := (5 : Int32)) hF rfl dX9_emit_28 ?_
    refine g_dup2 hF rfl rfl dX9_emit_29 ?_
    obtain ⟨v8, h8, h⟩ := gbnd h
    obtain ⟨i8h, e8v⟩ := ald_sp q_b7 h8
    refine g_iald hF q_b7 i8h dX9_emit_30 ?_
    rw [← e8v]
    refine g_iconst (v := (1 : Int32)) hF rfl dX9_emit_31 ?_
    refine g_iadd hF dX9_emit_32 ?_
    obtain ⟨M9, h9, h⟩ := gbnd h
    obtain ⟨i9h, e9v⟩ := ast_sp q_b7 h9
    refine g_iast hF q_b7 i9h dX9_emit_33 ?_
    rw [← e9v]
    cases h
    exact g_ret_v hF rfl dX9_emit_34 hR (Nat.zero_le _) (Nat.zero_le _)
  · replace h := gif_n c2 h
    cases h
    exact g_ret_v hF rfl dX9_emit_7 hR (Nat.zero_le _) (Nat.zero_le _)
theorem c_X9_emit {d : Nat} {T : gT} {M : gM} {m_a0 : Nat} {a0 : Nat} {i1 : Int32} {r : gM} (hd : 2 ≤ d) (q0 : T[a0]? = some (9, m_a0)) (h : f_X9_emit T M a0 i1 = some (r)) : gRet d yX9_emit cX9_emit 2 none 0 0 [.ref a0, .int i1] T M (gSame T none r) := by
  refine gRet_of (own := RX9) (by decide) rfl (Nat.le_of_ble_eq_true rfl) (fun Z ad0 hn h0 hF => ?_)
  exact t_X9_emit hF hn hd q0 h ⟨rfl, rfl, rfl, rfl⟩
def gRecOk_X9_sum (dr : Nat) (rec : gRecT_X9_sum) : Prop := ∀ {d : Nat} {T : gT} {M : gM} {m_a0 : Nat} {a0 : Nat} {r : gM}, dr ≤ d → T[a0]? = some (9, m_a0) → rec T M a0 = some r → gRet d yX9_sum cX9_sum 2 none 0 0 [.ref a0] T M (gSame T none r)
theorem t_X9_factor_170 {Z : gZ} {d mc ms : Nat} {Acc : Option Value → (Nat → Nat) → gT → gM → Prop} {AccX : Nat → (Nat → Nat) → gT → gM → Prop} {ad : Nat → Nat} {T : gT} {M : gM} {rec : gRecT_X9_sum} {m_a0 m_b0 : Nat} {a0 : Nat} {i3 : Int32} {b0 : Nat} {k1 : Int32} {o : gM} (hF : gFix Z cX9_factor RX9 "factor" none d mc ms Acc AccX) (hn : Z.2.2.2.2.2.1 = 4) (hd : 20 ≤ d) {dr : Nat} (hrec : gRecOk_X9_sum dr rec) (hdr : dr + 1 ≤ d) (q0 : T[a0]? = some (9, m_a0)) (p0 : T[b0]? = some (9, m_b0)) (h : f_X9_factor_170 rec T M a0 i3 b0 k1 = some o) (hR : Acc none ad T o) : gG Z ad T M 0 0 170 [(0, .ref a0), (3, .int i3)] [.int k1, .ref b0] := by
  unfold f_X9_factor_170 at h
  obtain ⟨x1, h1, h⟩ := gbnd h
  refine g_callV hF my_X9_emit kw_1300 kw_1302 kw_85 gC_9.1 (by decide) p0 (c_X9_emit (d := d - 1) (by omega) p0 h1) (by omega) (Nat.zero_le _) (Nat.zero_le _) rfl rfl (Nat.le_of_ble_eq_true rfl) dX9_factor_170 (g_sameN ?_)
  refine g_aload_n hF 0 rfl rfl dX9_factor_173 ?_
  refine g_iload_n hF 1 rfl rfl dX9_factor_174 ?_
  obtain ⟨x2, h2, h⟩ := gbnd h
  refine g_callV hF my_X9_emit kw_1300 kw_1302 kw_85 gC_9.1 (by decide) q0 (c_X9_emit (d := d - 1) (by omega) q0 h2) (by omega) (Nat.zero_le _) (Nat.zero_le _) rfl rfl (Nat.le_of_ble_eq_true rfl) dX9_factor_175 (g_sameN ?_)
  cases h
  exact g_ret_v hF rfl dX9_factor_178 hR (Nat.zero_le _) (Nat.zero_le _)
theorem t_X9_factor_159 {Z : gZ} {d mc ms : Nat} {Acc : Option Value → (Nat → Nat) → gT → gM → Prop} {AccX : Nat → (Nat → Nat) → gT → gM → Prop} {ad : Nat → Nat} {T : gT} {M : gM} {rec : gRecT_X9_sum} {m_a0 : Nat} {a0 : Nat} {i2 : Int32} {k0 : Int32} {o : gM} (hF : gFix Z cX9_factor RX9 "factor" none d mc ms Acc AccX) (hn : Z.2.2.2.2.2.1 = 4) (hd : 20 ≤ d) {dr : Nat} (hrec : gRecOk_X9_sum dr rec) (hdr : dr + 1 ≤ d) (q0 : T[a0]? = some (9, m_a0)) (h : f_X9_factor_159 rec T M a0 i2 k0 = some o) (hR : Acc none ad T o) : gG Z ad T M 0 0 159 [(0, .ref a0), (2, .int i2)] [.int k0] := by
  unfold f_X9_factor_159 at h
  refine g_istore_n (ls' := [(3, .int k0), (0, .ref a0), (2, .int i2)]) hF rfl (by rw [hn]; decide) rfl dX9_factor_159 ?_
  refine g_aload_n hF 1 rfl rfl dX9_factor_160 ?_
  refine g_iload_n hF 2 rfl rfl dX9_factor_161 ?_
  refine g_if_ge (tgt := 169) hF dX9_factor_162 (by decide) (fun c3 => ?_) (fun c3 => ?_)
  · replace h := gif_t c3 h
    refine g_iconst (v := (1 : Int32)) hF rfl dX9_factor_169 ?_
    exact gG_sub [1, 0] rfl (t_X9_factor_170 hF hn hd hrec hdr q0 q0 h hR)
  · replace h := gif_f c3 h
    refine g_iconst (v := (0 : Int32)) hF rfl dX9_factor_165 ?_
    refine g_goto (tgt := 170) hF dX9_factor_166 (by decide) ?_
    exact gG_sub [1, 0] rfl (t_X9_factor_170 hF hn hd hrec hdr q0 q0 h hR)
theorem t_X9_factor_142 {Z : gZ} {d mc ms : Nat} {Acc : Option Value → (Nat → Nat) → gT → gM → Prop} {AccX : Nat → (Nat → Nat) → gT → gM → Prop} {ad : Nat → Nat} {T : gT} {M : gM} {rec : gRecT_X9_sum} {m_a0 : Nat} {a0 : Nat} {k0 : Int32} {o : gM} (hF : gFix Z cX9_factor RX9 "factor" none d mc ms Acc AccX) (hn : Z.2.2.2.2.2.1 = 4) (hd : 20 ≤ d) {dr : Nat} (hrec : gRecOk_X9_sum dr rec) (hdr : dr + 1 ≤ d) (q0 : T[a0]? = some (9, m_a0)) (h : f_X9_factor_142 rec T M a0 k0 = some o) (hR : Acc none ad T o) : gG Z ad T M 0 0 142 [(0, .ref a0)] [.int k0] := by
  unfold f_X9_factor_142 at h
  refine g_istore_n (ls' := [(2, .int k0), (0, .ref a0)]) hF rfl (by rw [hn]; decide) rfl dX9_factor_142 ?_
  refine g_iload_n hF 0 rfl rfl dX9_factor_143 ?_
  refine g_if_ge (tgt := 158) hF dX9_factor_144 (by decide) (fun c4 => ?_) (fun c4 => ?_)
  · replace h := gif_t c4 h
    refine g_iload_n hF 0 rfl rfl dX9_factor_158 ?_
    exact gG_sub [1, 0] rfl (t_X9_factor_159 hF hn hd hrec hdr q0 h hR)
  · replace h := gif_f c4 h
    refine g_aload_n hF 1 rfl rfl dX9_factor_147 ?_
    refine g_iconst (v := (0 : Int32)) hF rfl dX9_factor_148 ?_
    refine g_sipush (v := (9999 : Int32)) hF rfl dX9_factor_149 ?_
    obtain ⟨x5, h5, h⟩ := gbnd h
    refine g_callV hF my_X9_number kw_1247 kw_1249 kw_76 gC_9.1 (by decide) q0 (c_X9_number (d := d - 1) (by omega) q0 h5) (by omega) (Nat.zero_le _) (Nat.zero_le _) rfl rfl (Nat.le_of_ble_eq_true rfl) dX9_factor_152 (g_sameS ?_)
    refine g_goto (tgt := 159) hF dX9_factor_155 (by decide) ?_
    exact gG_sub [1, 0] rfl (t_X9_factor_159 hF hn hd hrec hdr q0 h hR)
theorem t_X9_factor_37 {Z : gZ} {d mc ms : Nat} {Acc : Option Value → (Nat → Nat) → gT → gM → Prop} {AccX : Nat → (Nat → Nat) → gT → gM → Prop} {ad : Nat → Nat} {T : gT} {M : gM} {rec : gRecT_X9_sum} {m_a0 : Nat} {a0 : Nat} {o : gM} (hF : gFix Z cX9_factor RX9 "factor" none d mc ms Acc AccX) (hn : Z.2.2.2.2.2.1 = 4) (hd : 20 ≤ d) {dr : Nat} (hrec : gRecOk_X9_sum dr rec) (hdr : dr + 1 ≤ d) (q0 : T[a0]? = some (9, m_a0)) (h : f_X9_factor_37 rec T M a0 = some o) (hR : Acc none ad T o) : gG Z ad T M 0 0 37 [(0, .ref a0)] [] := by
  unfold f_X9_factor_37 at h
  refine g_aload_n hF 0 rfl rfl dX9_factor_37 ?_
  refine g_dup hF rfl dX9_factor_38 ?_
  refine g_get_i hF fl_RX9_68 q0 dX9_factor_39 ?_
  refine g_iconst (v := (1 : Int32)) hF rfl dX9_factor_42 ?_
  refine g_iadd hF dX9_factor_43 ?_
  refine g_put_i hF rfl rfl fl_RX9_68 q0 dX9_factor_44 ?_
  refine g_aload_n hF 0 rfl rfl dX9_factor_47 ?_
  refine g_dup hF rfl dX9_factor_48 ?_
  refine g_get_i hF fl_RX9_118 q0 dX9_factor_49 ?_
  refine g_iconst (v := (1 : Int32)) hF rfl dX9_factor_52 ?_
  refine g_iadd hF dX9_factor_53 ?_
  refine g_put_i hF rfl rfl fl_RX9_118 q0 dX9_factor_54 ?_
  refine g_aload_n hF 0 rfl rfl dX9_factor_57 ?_
  obtain ⟨x6, h6, h⟩ := gbnd h
  refine g_callV hF my_X9_sum kw_1284 kw_1286 kw_82 gC_9.1 (by decide) q0 (hrec (d := d - 1) (by omega) q0 h6) (by omega) (Nat.zero_le _) (Nat.zero_le _) rfl rfl (Nat.le_of_ble_eq_true rfl) dX9_factor_58 (g_sameN ?_)
  refine g_aload_n hF 0 rfl rfl dX9_factor_61 ?_
  refine g_bipush (v := (41 : Int32)) hF rfl dX9_factor_62 ?_
  obtain ⟨x7, h7, h⟩ := gbnd h
  refine g_callV hF my_X9_expect kw_1213 kw_1215 kw_70 gC_9.1 (by decide) q0 (c_X9_expect (d := d - 1) (by omega) q0 h7) (by omega) (Nat.zero_le _) (Nat.zero_le _) rfl rfl (Nat.le_of_ble_eq_true rfl) dX9_factor_64 (g_sameN ?_)
  refine g_aload_n hF 0 rfl rfl dX9_factor_67 ?_
  refine g_dup hF rfl dX9_factor_68 ?_
  refine g_get_i hF fl_RX9_118 q0 dX9_factor_69 ?_
  refine g_iconst (v := (1 : Int32)) hF rfl dX9_factor_72 ?_
  refine g_isub hF dX9_factor_73 ?_
  refine g_put_i hF rfl rfl fl_RX9_118 q0 dX9_factor_74 ?_
  cases h
  exact g_ret_v hF rfl dX9_factor_77 hR (Nat.zero_le _) (Nat.zero_le _)
theorem t_X9_factor {Z : gZ} {d mc ms : Nat} {Acc : Option Value → (Nat → Nat) → gT → gM → Prop} {AccX : Nat → (Nat → Nat) → gT → gM → Prop} {ad : Nat → Nat} {T : gT} {M : gM} {rec : gRecT_X9_sum} {m_a0 : Nat} {a0 : Nat} {o : gM} (hF : gFix Z cX9_factor RX9 "factor" none d mc ms Acc AccX) (hn : Z.2.2.2.2.2.1 = 4) (hd : 20 ≤ d) {dr : Nat} (hrec : gRecOk_X9_sum dr rec) (hdr : dr + 1 ≤ d) (q0 : T[a0]? = some (9, m_a0)) (h : f_X9_factor rec T M a0 = some o) (hR : Acc none ad T o) : gG Z ad T M 0 0 0 [(0, .ref a0)] [] := by
  unfold f_X9_factor at h
  refine g_aload_n hF 0 rfl rfl dX9_factor_0 ?_
  obtain ⟨x8, h8, h⟩ := gbnd h
  refine g_callV hF my_X9_isGood kw_1195 kw_1197 kw_66 gC_9.1 (by decide) q0 (c_X9_isGood (d := d - 1) (by omega) q0 h8) (by omega) (Nat.zero_le _) (Nat.zero_le _) rfl rfl (Nat.le_of_ble_eq_true rfl) dX9_factor_1 (g_sameS ?_)
  refine g_if_ne (tgt := 8) hF dX9_factor_4 (by decide) (fun c9 => ?_) (fun c9 => ?_)
  · replace h := gif_t c9 h
    refine g_aload_n hF 0 rfl rfl dX9_factor_8 ?_
    obtain ⟨x10, h10, h⟩ := gbnd h
    refine g_callV hF my_X9_next kw_1199 kw_1201 kw_67 gC_9.1 (by decide) q0 (c_X9_next (d := d - 1) (by omega) q0 h10) (by omega) (Nat.zero_le _) (Nat.zero_le _) rfl rfl (Nat.le_of_ble_eq_true rfl) dX9_factor_9 (g_sameS ?_)
    refine g_istore_n (ls' := [(1, .int x10.1), (0, .ref a0)]) hF rfl (by rw [hn]; decide) rfl dX9_factor_12 ?_
    refine g_iload_n hF 0 rfl rfl dX9_factor_13 ?_
    refine g_bipush (v := (40 : Int32)) hF rfl dX9_factor_14 ?_
    refine g_icmp_ne (tgt := 78) hF dX9_factor_16 (by decide) (fun c11 => ?_) (fun c11 => ?_)
    · replace h := gif_t c11 h
      refine g_iload_n hF 0 rfl rfl dX9_factor_78 ?_
      obtain ⟨x12, h12, h⟩ := gbnd h
      refine g_callS hF my_X9_isDigit kw_1251 kw_1252 (c_X9_isDigit (d := d - 1) (by omega)  h12) (by omega) (Nat.zero_le _) (Nat.zero_le _) rfl rfl (Nat.le_of_ble_eq_true rfl) dX9_factor_79 (g_sameS ?_)
      refine g_if_eq (tgt := 89) hF dX9_factor_82 (by decide) (fun c13 => ?_) (fun c13 => ?_)
      · replace h := gif_t c13 h
        refine g_aload_n hF 1 rfl rfl dX9_factor_89 ?_
        refine g_ldcS (tx := "trust") (a := gSB + 9) hF (by decide +kernel) (Nat.le_add_right _ _) dX9_factor_90 ?_
        obtain ⟨x14, h14, h⟩ := gbnd h
        refine g_callV hF my_X9_takeWord kw_1191 kw_1193 kw_65 gC_9.1 (by decide) q0 (c_X9_takeWord (d := d - 1) (by omega) q0 h14) (by omega) (Nat.zero_le _) (Nat.zero_le _) rfl rfl (Nat.le_of_ble_eq_true rfl) dX9_factor_92 (g_sameS ?_)
        refine g_if_eq (tgt := 102) hF dX9_factor_95 (by decide) (fun c15 => ?_) (fun c15 => ?_)
        · replace h := gif_t c15 h
          refine g_aload_n hF 1 rfl rfl dX9_factor_102 ?_
          refine g_ldcS (tx := "rank") (a := gSB + 10) hF (by decide +kernel) (Nat.le_add_right _ _) dX9_factor_103 ?_
          obtain ⟨x16, h16, h⟩ := gbnd h
          refine g_callV hF my_X9_takeWord kw_1191 kw_1193 kw_65 gC_9.1 (by decide) q0 (c_X9_takeWord (d := d - 1) (by omega) q0 h16) (by omega) (Nat.zero_le _) (Nat.zero_le _) rfl rfl (Nat.le_of_ble_eq_true rfl) dX9_factor_105 (g_sameS ?_)
          refine g_if_eq (tgt := 115) hF dX9_factor_108 (by decide) (fun c17 => ?_) (fun c17 => ?_)
          · replace h := gif_t c17 h
            refine g_aload_n hF 1 rfl rfl dX9_factor_115 ?_
            refine g_ldcS (tx := "offers") (a := gSB + 11) hF (by decide +kernel) (Nat.le_add_right _ _) dX9_factor_116 ?_
            obtain ⟨x18, h18, h⟩ := gbnd h
            refine g_callV hF my_X9_takeWord kw_1191 kw_1193 kw_65 gC_9.1 (by decide) q0 (c_X9_takeWord (d := d - 1) (by omega) q0 h18) (by omega) (Nat.zero_le _) (Nat.zero_le _) rfl rfl (Nat.le_of_ble_eq_true rfl) dX9_factor_118 (g_sameS ?_)
            refine g_if_eq (tgt := 128) hF dX9_factor_121 (by decide) (fun c19 => ?_) (fun c19 => ?_)
            · replace h := gif_t c19 h
              refine g_aload_n hF 1 rfl rfl dX9_factor_128 ?_
              refine g_ldcS (tx := "friends") (a := gSB + 12) hF (by decide +kernel) (Nat.le_add_right _ _) dX9_factor_129 ?_
              obtain ⟨x20, h20, h⟩ := gbnd h
              refine g_callV hF my_X9_takeWord kw_1191 kw_1193 kw_65 gC_9.1 (by decide) q0 (c_X9_takeWord (d := d - 1) (by omega) q0 h20) (by omega) (Nat.zero_le _) (Nat.zero_le _) rfl rfl (Nat.le_of_ble_eq_true rfl) dX9_factor_131 (g_sameS ?_)
              refine g_if_eq (tgt := 141) hF dX9_factor_134 (by decide) (fun c21 => ?_) (fun c21 => ?_)
              · replace h := gif_t c21 h
                refine g_iconst (v := (-1 : Int32)) hF rfl dX9_factor_141 ?_
                exact gG_sub [1] rfl (t_X9_factor_142 hF hn hd hrec hdr q0 h hR)
              · replace h := gif_f c21 h
                refine g_iconst (v := (3 : Int32)) hF rfl dX9_factor_137 ?_
                refine g_goto (tgt := 142) hF dX9_factor_138 (by decide) ?_
                exact gG_sub [1] rfl (t_X9_factor_142 hF hn hd hrec hdr q0 h hR)
            · replace h := gif_f c19 h
              refine g_iconst (v := (2 : Int32)) hF rfl dX9_factor_124 ?_
              refine g_goto (tgt := 142) hF dX9_factor_125 (by decide) ?_
              exact gG_sub [1] rfl (t_X9_factor_142 hF hn hd hrec hdr q0 h hR)
          · replace h := gif_f c17 h
            refine g_iconst (v := (1 : Int32)) hF rfl dX9_factor_111 ?_
            refine g_goto (tgt := 142) hF dX9_factor_112 (by decide) ?_
            exact gG_sub [1] rfl (t_X9_factor_142 hF hn hd hrec hdr q0 h hR)
        · replace h := gif_f c15 h
          refine g_iconst (v := (0 : Int32)) hF rfl dX9_factor_98 ?_
          refine g_goto (tgt := 142) hF dX9_factor_99 (by decide) ?_
          exact gG_sub [1] rfl (t_X9_factor_142 hF hn hd hrec hdr q0 h hR)
      · replace h := gif_f c13 h
        refine g_iconst (v := (-1 : Int32)) hF rfl dX9_factor_85 ?_
        refine g_goto (tgt := 142) hF dX9_factor_86 (by decide) ?_
        exact gG_sub [1] rfl (t_X9_factor_142 hF hn hd hrec hdr q0 h hR)
    · replace h := gif_n c11 h
      refine g_aload_n hF 1 rfl rfl dX9_factor_19 ?_
      refine g_get_i hF fl_RX9_118 q0 dX9_factor_20 ?_
      refine g_iconst (v := (4 : Int32)) hF rfl dX9_factor_23 ?_
      refine g_icmp_ne (tgt := 37) hF dX9_factor_24 (by decide) (fun c22 => ?_) (fun c22 => ?_)
      · replace h := gif_t c22 h
        exact gG_sub [1] rfl (t_X9_factor_37 hF hn hd hrec hdr q0 h hR)
      · replace h := gif_n c22 h
        refine g_aload_n hF 1 rfl rfl dX9_factor_27 ?_
        refine g_bipush (v := (-7 : Int32)) hF rfl dX9_factor_28 ?_
        refine g_aload_n hF 1 rfl rfl dX9_factor_30 ?_
        refine g_get_i hF fl_RX9_68 q0 dX9_factor_31 ?_
        obtain ⟨x23, h23, h⟩ := gbnd h
        refine g_callV hF my_X9_report kw_1209 kw_1211 kw_69 gC_9.1 (by decide) q0 (c_X9_report (d := d - 1) (by omega) q0 h23) (by omega) (Nat.zero_le _) (Nat.zero_le _) rfl rfl (Nat.le_of_ble_eq_true rfl) dX9_factor_34 (g_sameN ?_)
        exact gG_sub [1] rfl (t_X9_factor_37 hF hn hd hrec hdr q0 h hR)
  · replace h := gif_n c9 h
    cases h
    exact g_ret_v hF rfl dX9_factor_7 hR (Nat.zero_le _) (Nat.zero_le _)
theorem c_X9_factor {d : Nat} {T : gT} {M : gM} {rec : gRecT_X9_sum} {m_a0 : Nat} {a0 : Nat} {r : gM} (hd : 20 ≤ d) {dr : Nat} (hrec : gRecOk_X9_sum dr rec) (hdr : dr + 1 ≤ d) (q0 : T[a0]? = some (9, m_a0)) (h : f_X9_factor rec T M a0 = some (r)) : gRet d yX9_factor cX9_factor 4 none 0 0 [.ref a0] T M (gSame T none r) := by
  refine gRet_of (own := RX9) (by decide) rfl (Nat.le_of_ble_eq_true rfl) (fun Z ad0 hn h0 hF => ?_)
  exact t_X9_factor hF hn hd hrec hdr q0 h ⟨rfl, rfl, rfl, rfl⟩
theorem t_X9_term_68 {Z : gZ} {d mc ms : Nat} {Acc : Option Value → (Nat → Nat) → gT → gM → Prop} {AccX : Nat → (Nat → Nat) → gT → gM → Prop} {ad : Nat → Nat} {T : gT} {M : gM} {rec : gRecT_X9_sum} {m_a0 m_b0 : Nat} {a0 : Nat} {b0 : Nat} {k1 : Int32} {o : (gM) ⊕ (gM)} (hF : gFix Z cX9_term RX9 "term" none d mc ms Acc AccX) (hn : Z.2.2.2.2.2.1 = 2) (hd : 21 ≤ d) {dr : Nat} (hrec : gRecOk_X9_sum dr rec) (hdr : dr + 2 ≤ d) (q0 : T[a0]? = some (9, m_a0)) (p0 : T[b0]? = some (9, m_b0)) (h : f_X9_term_68 rec T M a0 b0 k1 = some o) (hE : ∀ e9, o = .inl e9 → gG Z ad T e9 0 0 74 [] []) (hN : ∀ n9, o = .inr n9 → gG Z ad T n9 0 0 4 [(0, .ref a0)] []) : gG Z ad T M 0 0 68 [(0, .ref a0)] [.int k1, .ref b0] := by
  unfold f_X9_term_68 at h
  obtain ⟨x1, h1, h⟩ := gbnd h
  refine g_callV hF my_X9_emit kw_1300 kw_1302 kw_85 gC_9.1 (by decide) p0 (c_X9_emit (d := d - 1) (by omega) p0 h1) (by omega) (Nat.zero_le _) (Nat.zero_le _) rfl rfl (Nat.le_of_ble_eq_true rfl) dX9_term_68 (g_sameN ?_)
  refine g_goto (tgt := 4) hF dX9_term_71 (by decide) ?_
  exact gG_sub [0] rfl (hN _ (Option.some.inj h).symm)
theorem t_X9_term_43 {Z : gZ} {d mc ms : Nat} {Acc : Option Value → (Nat → Nat) → gT → gM → Prop} {AccX : Nat → (Nat → Nat) → gT → gM → Prop} {ad : Nat → Nat} {T : gT} {M : gM} {rec : gRecT_X9_sum} {m_a0 : Nat} {a0 : Nat} {k0 : Int32} {o : (gM) ⊕ (gM)} (hF : gFix Z cX9_term RX9 "term" none d mc ms Acc AccX) (hn : Z.2.2.2.2.2.1 = 2) (hd : 21 ≤ d) {dr : Nat} (hrec : gRecOk_X9_sum dr rec) (hdr : dr + 2 ≤ d) (q0 : T[a0]? = some (9, m_a0)) (h : f_X9_term_43 rec T M a0 k0 = some o) (hE : ∀ e9, o = .inl e9 → gG Z ad T e9 0 0 74 [] []) (hN : ∀ n9, o = .inr n9 → gG Z ad T n9 0 0 4 [(0, .ref a0)] []) : gG Z ad T M 0 0 43 [(0, .ref a0)] [.int k0] := by
  unfold f_X9_term_43 at h
  refine g_istore_n (ls' := [(1, .int k0), (0, .ref a0)]) hF rfl (by rw [hn]; decide) rfl dX9_term_43 ?_
  refine g_aload_n hF 1 rfl rfl dX9_term_44 ?_
  refine g_dup hF rfl dX9_term_45 ?_
  refine g_get_i hF fl_RX9_68 q0 dX9_term_46 ?_
  refine g_iconst (v := (1 : Int32)) hF rfl dX9_term_49 ?_
  refine g_iadd hF dX9_term_50 ?_
  refine g_put_i hF rfl rfl fl_RX9_68 q0 dX9_term_51 ?_
  refine g_aload_n hF 1 rfl rfl dX9_term_54 ?_
  obtain ⟨x2, h2, h⟩ := gbnd h
  refine g_callV hF my_X9_factor kw_1292 kw_1294 kw_84 gC_9.1 (by decide) q0 (c_X9_factor (d := d - 1) (by omega) hrec (by omega) q0 h2) (by omega) (Nat.zero_le _) (Nat.zero_le _) rfl rfl (Nat.le_of_ble_eq_true rfl) dX9_term_55 (g_sameN ?_)
  refine g_aload_n hF 1 rfl rfl dX9_term_58 ?_
  refine g_iload_n hF 0 rfl rfl dX9_term_59 ?_
  refine g_if_eq (tgt := 67) hF dX9_term_60 (by decide) (fun c3 => ?_) (fun c3 => ?_)
  · replace h := gif_t c3 h
    refine g_iconst (v := (5 : Int32)) hF rfl dX9_term_67 ?_
    exact gG_sub [1] rfl (t_X9_term_68 hF hn hd hrec hdr q0 q0 h hE hN)
  · replace h := gif_f c3 h
    refine g_iconst (v := (4 : Int32)) hF rfl dX9_term_63 ?_
    refine g_goto (tgt := 68) hF dX9_term_64 (by decide) ?_
    exact gG_sub [1] rfl (t_X9_term_68 hF hn hd hrec hdr q0 q0 h hE hN)
theorem t_X9_term_29 {Z : gZ} {d mc ms : Nat} {Acc : Option Value → (Nat → Nat) → gT → gM → Prop} {AccX : Nat → (Nat → Nat) → gT → gM → Prop} {ad : Nat → Nat} {T : gT} {M : gM} {rec : gRecT_X9_sum} {m_a0 : Nat} {a0 : Nat} {o : (gM) ⊕ (gM)} (hF : gFix Z cX9_term RX9 "term" none d mc ms Acc AccX) (hn : Z.2.2.2.2.2.1 = 2) (hd : 21 ≤ d) {dr : Nat} (hrec : gRecOk_X9_sum dr rec) (hdr : dr + 2 ≤ d) (q0 : T[a0]? = some (9, m_a0)) (h : f_X9_term_29 rec T M a0 = some o) (hE : ∀ e9, o = .inl e9 → gG Z ad T e9 0 0 74 [] []) (hN : ∀ n9, o = .inr n9 → gG Z ad T n9 0 0 4 [(0, .ref a0)] []) : gG Z ad T M 0 0 29 [(0, .ref a0)] [] := by
  unfold f_X9_term_29 at h
  refine g_aload_n hF 0 rfl rfl dX9_term_29 ?_
  obtain ⟨x4, h4, h⟩ := gbnd h
  refine g_callV hF my_X9_next kw_1199 kw_1201 kw_67 gC_9.1 (by decide) q0 (c_X9_next (d := d - 1) (by omega) q0 h4) (by omega) (Nat.zero_le _) (Nat.zero_le _) rfl rfl (Nat.le_of_ble_eq_true rfl) dX9_term_30 (g_sameS ?_)
  refine g_bipush (v := (42 : Int32)) hF rfl dX9_term_33 ?_
  refine g_icmp_ne (tgt := 42) hF dX9_term_35 (by decide) (fun c5 => ?_) (fun c5 => ?_)
  · replace h := gif_t c5 h
    refine g_iconst (v := (0 : Int32)) hF rfl dX9_term_42 ?_
    exact gG_sub [0] rfl (t_X9_term_43 hF hn hd hrec hdr q0 h hE hN)
  · replace h := gif_n c5 h
    refine g_iconst (v := (1 : Int32)) hF rfl dX9_term_38 ?_
    refine g_goto (tgt := 43) hF dX9_term_39 (by decide) ?_
    exact gG_sub [0] rfl (t_X9_term_43 hF hn hd hrec hdr q0 h hE hN)
theorem t_X9_term_B4 {Z : gZ} {d mc ms : Nat} {Acc : Option Value → (Nat → Nat) → gT → gM → Prop} {AccX : Nat → (Nat → Nat) → gT → gM → Prop} {ad : Nat → Nat} {T : gT} {M : gM} {rec : gRecT_X9_sum} {m_a0 : Nat} {a0 : Nat} {o : (gM) ⊕ (gM)} (hF : gFix Z cX9_term RX9 "term" none d mc ms Acc AccX) (hn : Z.2.2.2.2.2.1 = 2) (hd : 21 ≤ d) {dr : Nat} (hrec : gRecOk_X9_sum dr rec) (hdr : dr + 2 ≤ d) (q0 : T[a0]? = some (9, m_a0)) (h : f_X9_term_B4 rec T M a0 = some o) (hE : ∀ e9, o = .inl e9 → gG Z ad T e9 0 0 74 [] []) (hN : ∀ n9, o = .inr n9 → gG Z ad T n9 0 0 4 [(0, .ref a0)] []) : gG Z ad T M 0 0 4 [(0, .ref a0)] [] := by
  unfold f_X9_term_B4 at h
  refine g_aload_n hF 0 rfl rfl dX9_term_4 ?_
  obtain ⟨x6, h6, h⟩ := gbnd h
  refine g_callV hF my_X9_isGood kw_1195 kw_1197 kw_66 gC_9.1 (by decide) q0 (c_X9_isGood (d := d - 1) (by omega) q0 h6) (by omega) (Nat.zero_le _) (Nat.zero_le _) rfl rfl (Nat.le_of_ble_eq_true rfl) dX9_term_5 (g_sameS ?_)
  refine g_if_eq (tgt := 74) hF dX9_term_8 (by decide) (fun c7 => ?_) (fun c7 => ?_)
  · replace h := gif_t c7 h
    exact gG_sub [] rfl (hE _ (Option.some.inj h).symm)
  · replace h := gif_f c7 h
    refine g_aload_n hF 0 rfl rfl dX9_term_11 ?_
    obtain ⟨x8, h8, h⟩ := gbnd h
    refine g_callV hF my_X9_next kw_1199 kw_1201 kw_67 gC_9.1 (by decide) q0 (c_X9_next (d := d - 1) (by omega) q0 h8) (by omega) (Nat.zero_le _) (Nat.zero_le _) rfl rfl (Nat.le_of_ble_eq_true rfl) dX9_term_12 (g_sameS ?_)
    refine g_bipush (v := (42 : Int32)) hF rfl dX9_term_15 ?_
    refine g_icmp_eq (tgt := 29) hF dX9_term_17 (by decide) (fun c9 => ?_) (fun c9 => ?_)
    · replace h := gif_t c9 h
      exact gG_sub [0] rfl (t_X9_term_29 hF hn hd hrec hdr q0 h hE hN)
    · replace h := gif_f c9 h
      refine g_aload_n hF 0 rfl rfl dX9_term_20 ?_
      obtain ⟨x10, h10, h⟩ := gbnd h
      refine g_callV hF my_X9_next kw_1199 kw_1201 kw_67 gC_9.1 (by decide) q0 (c_X9_next (d := d - 1) (by omega) q0 h10) (by omega) (Nat.zero_le _) (Nat.zero_le _) rfl rfl (Nat.le_of_ble_eq_true rfl) dX9_term_21 (g_sameS ?_)
      refine g_bipush (v := (47 : Int32)) hF rfl dX9_term_24 ?_
      refine g_icmp_ne (tgt := 74) hF dX9_term_26 (by decide) (fun c11 => ?_) (fun c11 => ?_)
      · replace h := gif_t c11 h
        exact gG_sub [] rfl (hE _ (Option.some.inj h).symm)
      · replace h := gif_n c11 h
        exact gG_sub [0] rfl (t_X9_term_29 hF hn hd hrec hdr q0 h hE hN)
theorem t_X9_term_L4 {Z : gZ} {d mc ms : Nat} {Acc : Option Value → (Nat → Nat) → gT → gM → Prop} {AccX : Nat → (Nat → Nat) → gT → gM → Prop} {ad : Nat → Nat} {T : gT} {M : gM} {rec : gRecT_X9_sum} {m_a0 : Nat} {a0 : Nat} {o : gM} (hF : gFix Z cX9_term RX9 "term" none d mc ms Acc AccX) (hn : Z.2.2.2.2.2.1 = 2) (hd : 21 ≤ d) {dr : Nat} (hrec : gRecOk_X9_sum dr rec) (hdr : dr + 2 ≤ d) (q0 : T[a0]? = some (9, m_a0)) (h : gloop (fun x => f_X9_term_B4 rec T x a0) gFU M = some o) (hE : gG Z ad T o 0 0 74 [] []) : gG Z ad T M 0 0 4 [(0, .ref a0)] [] := by
  refine gloop_ind (P := fun x0 : gM => gG Z ad T x0 0 0 4 [(0, .ref a0)] []) (e := o) (fun x0 y hy hl hr => ?_) gFU M h
  exact t_X9_term_B4 hF hn hd hrec hdr q0 hy (fun e9 q9 => by rw [hl _ q9]; exact hE) (fun n9 q9 => hr n9 q9)
theorem t_X9_term {Z : gZ} {d mc ms : Nat} {Acc : Option Value → (Nat → Nat) → gT → gM → Prop} {AccX : Nat → (Nat → Nat) → gT → gM → Prop} {ad : Nat → Nat} {T : gT} {M : gM} {rec : gRecT_X9_sum} {m_a0 : Nat} {a0 : Nat} {o : gM} (hF : gFix Z cX9_term RX9 "term" none d mc ms Acc AccX) (hn : Z.2.2.2.2.2.1 = 2) (hd : 21 ≤ d) {dr : Nat} (hrec : gRecOk_X9_sum dr rec) (hdr : dr + 2 ≤ d) (q0 : T[a0]? = some (9, m_a0)) (h : f_X9_term rec T M a0 = some o) (hR : Acc none ad T o) : gG Z ad T M 0 0 0 [(0, .ref a0)] [] := by
  unfold f_X9_term at h
  refine g_aload_n hF 0 rfl rfl dX9_term_0 ?_
  obtain ⟨x12, h12, h⟩ := gbnd h
  refine g_callV hF my_X9_factor kw_1292 kw_1294 kw_84 gC_9.1 (by decide) q0 (c_X9_factor (d := d - 1) (by omega) hrec (by omega) q0 h12) (by omega) (Nat.zero_le _) (Nat.zero_le _) rfl rfl (Nat.le_of_ble_eq_true rfl) dX9_term_1 (g_sameN ?_)
  obtain ⟨x13, h13, h⟩ := gbnd h
  refine gG_sub [0] rfl (t_X9_term_L4 hF hn hd hrec hdr q0 h13 ?_)
  cases h
  exact g_ret_v hF rfl dX9_term_74 hR (Nat.zero_le _) (Nat.zero_le _)
theorem c_X9_term {d : Nat} {T : gT} {M : gM} {rec : gRecT_X9_sum} {m_a0 : Nat} {a0 : Nat} {r : gM} (hd : 21 ≤ d) {dr : Nat} (hrec : gRecOk_X9_sum dr rec) (hdr : dr + 2 ≤ d) (q0 : T[a0]? = some (9, m_a0)) (h : f_X9_term rec T M a0 = some (r)) : gRet d yX9_term cX9_term 2 none 0 0 [.ref a0] T M (gSame T none r) := by
  refine gRet_of (own := RX9) (by decide) rfl (Nat.le_of_ble_eq_true rfl) (fun Z ad0 hn h0 hF => ?_)
  exact t_X9_term hF hn hd hrec hdr q0 h ⟨rfl, rfl, rfl, rfl⟩
theorem t_X9_sum_68 {Z : gZ} {d mc ms : Nat} {Acc : Option Value → (Nat → Nat) → gT → gM → Prop} {AccX : Nat → (Nat → Nat) → gT → gM → Prop} {ad : Nat → Nat} {T : gT} {M : gM} {rec : gRecT_X9_sum} {m_a0 m_b0 : Nat} {a0 : Nat} {b0 : Nat} {k1 : Int32} {o : (gM) ⊕ (gM)} (hF : gFix Z cX9_sum RX9 "sum" none d mc ms Acc AccX) (hn : Z.2.2.2.2.2.1 = 2) (hd : 22 ≤ d) {dr : Nat} (hrec : gRecOk_X9_sum dr rec) (hdr : dr + 3 ≤ d) (q0 : T[a0]? = some (9, m_a0)) (p0 : T[b0]? = some (9, m_b0)) (h : f_X9_sum_68 rec T M a0 b0 k1 = some o) (hE : ∀ e9, o = .inl e9 → gG Z ad T e9 0 0 74 [] []) (hN : ∀ n9, o = .inr n9 → gG Z ad T n9 0 0 4 [(0, .ref a0)] []) : gG Z ad T M 0 0 68 [(0, .ref a0)] [.int k1, .ref b0] := by
  unfold f_X9_sum_68 at h
  obtain ⟨x1, h1, h⟩ := gbnd h
  refine g_callV hF my_X9_emit kw_1300 kw_1302 kw_85 gC_9.1 (by decide) p0 (c_X9_emit (d := d - 1) (by omega) p0 h1) (by omega) (Nat.zero_le _) (Nat.zero_le _) rfl rfl (Nat.le_of_ble_eq_true rfl) dX9_sum_68 (g_sameN ?_)
  refine g_goto (tgt := 4) hF dX9_sum_71 (by decide) ?_
  exact gG_sub [0] rfl (hN _ (Option.some.inj h).symm)
theorem t_X9_sum_43 {Z : gZ} {d mc ms : Nat} {Acc : Option Value → (Nat → Nat) → gT → gM → Prop} {AccX : Nat → (Nat → Nat) → gT → gM → Prop} {ad : Nat → Nat} {T : gT} {M : gM} {rec : gRecT_X9_sum} {m_a0 : Nat} {a0 : Nat} {k0 : Int32} {o : (gM) ⊕ (gM)} (hF : gFix Z cX9_sum RX9 "sum" none d mc ms Acc AccX) (hn : Z.2.2.2.2.2.1 = 2) (hd : 22 ≤ d) {dr : Nat} (hrec : gRecOk_X9_sum dr rec) (hdr : dr + 3 ≤ d) (q0 : T[a0]? = some (9, m_a0)) (h : f_X9_sum_43 rec T M a0 k0 = some o) (hE : ∀ e9, o = .inl e9 → gG Z ad T e9 0 0 74 [] []) (hN : ∀ n9, o = .inr n9 → gG Z ad T n9 0 0 4 [(0, .ref a0)] []) : gG Z ad T M 0 0 43 [(0, .ref a0)] [.int k0] := by
  unfold f_X9_sum_43 at h
  refine g_istore_n (ls' := [(1, .int k0), (0, .ref a0)]) hF rfl (by rw [hn]; decide) rfl dX9_sum_43 ?_
  refine g_aload_n hF 1 rfl rfl dX9_sum_44 ?_
  refine g_dup hF rfl dX9_sum_45 ?_
  refine g_get_i hF fl_RX9_68 q0 dX9_sum_46 ?_
  refine g_iconst (v := (1 : Int32)) hF rfl dX9_sum_49 ?_
  refine g_iadd hF dX9_sum_50 ?_
  refine g_put_i hF rfl rfl fl_RX9_68 q0 dX9_sum_51 ?_
  refine g_aload_n hF 1 rfl rfl dX9_sum_54 ?_
  obtain ⟨x2, h2, h⟩ := gbnd h
  refine g_callV hF my_X9_term kw_1288 kw_1290 kw_83 gC_9.1 (by decide) q0 (c_X9_term (d := d - 1) (by omega) hrec (by omega) q0 h2) (by omega) (Nat.zero_le _) (Nat.zero_le _) rfl rfl (Nat.le_of_ble_eq_true rfl) dX9_sum_55 (g_sameN ?_)
  refine g_aload_n hF 1 rfl rfl dX9_sum_58 ?_
  refine g_iload_n hF 0 rfl rfl dX9_sum_59 ?_
  refine g_if_eq (tgt := 67) hF dX9_sum_60 (by decide) (fun c3 => ?_) (fun c3 => ?_)
  · replace h := gif_t c3 h
    refine g_iconst (v := (3 : Int32)) hF rfl dX9_sum_67 ?_
    exact gG_sub [1] rfl (t_X9_sum_68 hF hn hd hrec hdr q0 q0 h hE hN)
  · replace h := gif_f c3 h
    refine g_iconst (v := (2 : Int32)) hF rfl dX9_sum_63 ?_
    refine g_goto (tgt := 68) hF dX9_sum_64 (by decide) ?_
    exact gG_sub [1] rfl (t_X9_sum_68 hF hn hd hrec hdr q0 q0 h hE hN)
theorem t_X9_sum_29 {Z : gZ} {d mc ms : Nat} {Acc : Option Value → (Nat → Nat) → gT → gM → Prop} {AccX : Nat → (Nat → Nat) → gT → gM → Prop} {ad : Nat → Nat} {T : gT} {M : gM} {rec : gRecT_X9_sum} {m_a0 : Nat} {a0 : Nat} {o : (gM) ⊕ (gM)} (hF : gFix Z cX9_sum RX9 "sum" none d mc ms Acc AccX) (hn : Z.2.2.2.2.2.1 = 2) (hd : 22 ≤ d) {dr : Nat} (hrec : gRecOk_X9_sum dr rec) (hdr : dr + 3 ≤ d) (q0 : T[a0]? = some (9, m_a0)) (h : f_X9_sum_29 rec T M a0 = some o) (hE : ∀ e9, o = .inl e9 → gG Z ad T e9 0 0 74 [] []) (hN : ∀ n9, o = .inr n9 → gG Z ad T n9 0 0 4 [(0, .ref a0)] []) : gG Z ad T M 0 0 29 [(0, .ref a0)] [] := by
  unfold f_X9_sum_29 at h
  refine g_aload_n hF 0 rfl rfl dX9_sum_29 ?_
  obtain ⟨x4, h4, h⟩ := gbnd h
  refine g_callV hF my_X9_next kw_1199 kw_1201 kw_67 gC_9.1 (by decide) q0 (c_X9_next (d := d - 1) (by omega) q0 h4) (by omega) (Nat.zero_le _) (Nat.zero_le _) rfl rfl (Nat.le_of_ble_eq_true rfl) dX9_sum_30 (g_sameS ?_)
  refine g_bipush (v := (43 : Int32)) hF rfl dX9_sum_33 ?_
  refine g_icmp_ne (tgt := 42) hF dX9_sum_35 (by decide) (fun c5 => ?_) (fun c5 => ?_)
  · replace h := gif_t c5 h
    refine g_iconst (v := (0 : Int32)) hF rfl dX9_sum_42 ?_
    exact gG_sub [0] rfl (t_X9_sum_43 hF hn hd hrec hdr q0 h hE hN)
  · replace h := gif_n c5 h
    refine g_iconst (v := (1 : Int32)) hF rfl dX9_sum_38 ?_
    refine g_goto (tgt := 43) hF dX9_sum_39 (by decide) ?_
    exact gG_sub [0] rfl (t_X9_sum_43 hF hn hd hrec hdr q0 h hE hN)
theorem t_X9_sum_B4 {Z : gZ} {d mc ms : Nat} {Acc : Option Value → (Nat → Nat) → gT → gM → Prop} {AccX : Nat → (Nat → Nat) → gT → gM → Prop} {ad : Nat → Nat} {T : gT} {M : gM} {rec : gRecT_X9_sum} {m_a0 : Nat} {a0 : Nat} {o : (gM) ⊕ (gM)} (hF : gFix Z cX9_sum RX9 "sum" none d mc ms Acc AccX) (hn : Z.2.2.2.2.2.1 = 2) (hd : 22 ≤ d) {dr : Nat} (hrec : gRecOk_X9_sum dr rec) (hdr : dr + 3 ≤ d) (q0 : T[a0]? = some (9, m_a0)) (h : f_X9_sum_B4 rec T M a0 = some o) (hE : ∀ e9, o = .inl e9 → gG Z ad T e9 0 0 74 [] []) (hN : ∀ n9, o = .inr n9 → gG Z ad T n9 0 0 4 [(0, .ref a0)] []) : gG Z ad T M 0 0 4 [(0, .ref a0)] [] := by
  unfold f_X9_sum_B4 at h
  refine g_aload_n hF 0 rfl rfl dX9_sum_4 ?_
  obtain ⟨x6, h6, h⟩ := gbnd h
  refine g_callV hF my_X9_isGood kw_1195 kw_1197 kw_66 gC_9.1 (by decide) q0 (c_X9_isGood (d := d - 1) (by omega) q0 h6) (by omega) (Nat.zero_le _) (Nat.zero_le _) rfl rfl (Nat.le_of_ble_eq_true rfl) dX9_sum_5 (g_sameS ?_)
  refine g_if_eq (tgt := 74) hF dX9_sum_8 (by decide) (fun c7 => ?_) (fun c7 => ?_)
  · replace h := gif_t c7 h
    exact gG_sub [] rfl (hE _ (Option.some.inj h).symm)
  · replace h := gif_f c7 h
    refine g_aload_n hF 0 rfl rfl dX9_sum_11 ?_
    obtain ⟨x8, h8, h⟩ := gbnd h
    refine g_callV hF my_X9_next kw_1199 kw_1201 kw_67 gC_9.1 (by decide) q0 (c_X9_next (d := d - 1) (by omega) q0 h8) (by omega) (Nat.zero_le _) (Nat.zero_le _) rfl rfl (Nat.le_of_ble_eq_true rfl) dX9_sum_12 (g_sameS ?_)
    refine g_bipush (v := (43 : Int32)) hF rfl dX9_sum_15 ?_
    refine g_icmp_eq (tgt := 29) hF dX9_sum_17 (by decide) (fun c9 => ?_) (fun c9 => ?_)
    · replace h := gif_t c9 h
      exact gG_sub [0] rfl (t_X9_sum_29 hF hn hd hrec hdr q0 h hE hN)
    · replace h := gif_f c9 h
      refine g_aload_n hF 0 rfl rfl dX9_sum_20 ?_
      obtain ⟨x10, h10, h⟩ := gbnd h
      refine g_callV hF my_X9_next kw_1199 kw_1201 kw_67 gC_9.1 (by decide) q0 (c_X9_next (d := d - 1) (by omega) q0 h10) (by omega) (Nat.zero_le _) (Nat.zero_le _) rfl rfl (Nat.le_of_ble_eq_true rfl) dX9_sum_21 (g_sameS ?_)
      refine g_bipush (v := (45 : Int32)) hF rfl dX9_sum_24 ?_
      refine g_icmp_ne (tgt := 74) hF dX9_sum_26 (by decide) (fun c11 => ?_) (fun c11 => ?_)
      · replace h := gif_t c11 h
        exact gG_sub [] rfl (hE _ (Option.some.inj h).symm)
      · replace h := gif_n c11 h
        exact gG_sub [0] rfl (t_X9_sum_29 hF hn hd hrec hdr q0 h hE hN)
theorem t_X9_sum_L4 {Z : gZ} {d mc ms : Nat} {Acc : Option Value → (Nat → Nat) → gT → gM → Prop} {AccX : Nat → (Nat → Nat) → gT → gM → Prop} {ad : Nat → Nat} {T : gT} {M : gM} {rec : gRecT_X9_sum} {m_a0 : Nat} {a0 : Nat} {o : gM} (hF : gFix Z cX9_sum RX9 "sum" none d mc ms Acc AccX) (hn : Z.2.2.2.2.2.1 = 2) (hd : 22 ≤ d) {dr : Nat} (hrec : gRecOk_X9_sum dr rec) (hdr : dr + 3 ≤ d) (q0 : T[a0]? = some (9, m_a0)) (h : gloop (fun x => f_X9_sum_B4 rec T x a0) gFU M = some o) (hE : gG Z ad T o 0 0 74 [] []) : gG Z ad T M 0 0 4 [(0, .ref a0)] [] := by
  refine gloop_ind (P := fun x0 : gM => gG Z ad T x0 0 0 4 [(0, .ref a0)] []) (e := o) (fun x0 y hy hl hr => ?_) gFU M h
  exact t_X9_sum_B4 hF hn hd hrec hdr q0 hy (fun e9 q9 => by rw [hl _ q9]; exact hE) (fun n9 q9 => hr n9 q9)
theorem t_X9_sum {Z : gZ} {d mc ms : Nat} {Acc : Option Value → (Nat → Nat) → gT → gM → Prop} {AccX : Nat → (Nat → Nat) → gT → gM → Prop} {ad : Nat → Nat} {T : gT} {M : gM} {rec : gRecT_X9_sum} {m_a0 : Nat} {a0 : Nat} {o : gM} (hF : gFix Z cX9_sum RX9 "sum" none d mc ms Acc AccX) (hn : Z.2.2.2.2.2.1 = 2) (hd : 22 ≤ d) {dr : Nat} (hrec : gRecOk_X9_sum dr rec) (hdr : dr + 3 ≤ d) (q0 : T[a0]? = some (9, m_a0)) (h : f_X9_sum rec T M a0 = some o) (hR : Acc none ad T o) : gG Z ad T M 0 0 0 [(0, .ref a0)] [] := by
  unfold f_X9_sum at h
  refine g_aload_n hF 0 rfl rfl dX9_sum_0 ?_
  obtain ⟨x12, h12, h⟩ := gbnd h
  refine g_callV hF my_X9_term kw_1288 kw_1290 kw_83 gC_9.1 (by decide) q0 (c_X9_term (d := d - 1) (by omega) hrec (by omega) q0 h12) (by omega) (Nat.zero_le _) (Nat.zero_le _) rfl rfl (Nat.le_of_ble_eq_true rfl) dX9_sum_1 (g_sameN ?_)
  obtain ⟨x13, h13, h⟩ := gbnd h
  refine gG_sub [0] rfl (t_X9_sum_L4 hF hn hd hrec hdr q0 h13 ?_)
  cases h
  exact g_ret_v hF rfl dX9_sum_74 hR (Nat.zero_le _) (Nat.zero_le _)
theorem c_X9_sum {d : Nat} {T : gT} {M : gM} {rec : gRecT_X9_sum} {m_a0 : Nat} {a0 : Nat} {r : gM} (hd : 22 ≤ d) {dr : Nat} (hrec : gRecOk_X9_sum dr rec) (hdr : dr + 3 ≤ d) (q0 : T[a0]? = some (9, m_a0)) (h : f_X9_sum rec T M a0 = some (r)) : gRet d yX9_sum cX9_sum 2 none 0 0 [.ref a0] T M (gSame T none r) := by
  refine gRet_of (own := RX9) (by decide) rfl (Nat.le_of_ble_eq_true rfl) (fun Z ad0 hn h0 hF => ?_)
  exact t_X9_sum hF hn hd hrec hdr q0 h ⟨rfl, rfl, rfl, rfl⟩
theorem gRecAll_X9_sum : ∀ n : Nat, gRecOk_X9_sum (22 + 3 * n) (g_X9_sum n)
  | 0 => fun _ _ h => nomatch h
  | n + 1 => fun hd q0 h => c_X9_sum (by omega) (gRecAll_X9_sum n) (by omega) q0 h
theorem c_X9_sum_c {d : Nat} {T : gT} {M : gM} {m_a0 : Nat} {a0 : Nat} {r : gM} (hd : 52 ≤ d) (q0 : T[a0]? = some (9, m_a0)) (h : f_X9_sum_c T M a0 = some r) : gRet d yX9_sum cX9_sum 2 none 0 0 [.ref a0] T M (gSame T none r) := gRecAll_X9_sum 10 (by omega) q0 h
