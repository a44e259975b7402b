theorem t_X9_told {Z : gZ} {d mc ms : Nat} {Acc : Option Value → (Nat → Nat) → gT → gM → Prop} {AccX : Nat → (Nat → Nat) → gT → gM → Prop} {ad : Nat → Nat} {T : gT} {M : gM} {m_a0 : Nat} {a0 : Nat} {i1 : Int32} {i2 : Int32} {o : Int32 × gM} (hF : gFix Z cX9_told RX9 "told" (some .int) d mc ms Acc AccX) (hn : Z.2.2.2.2.2.1 = 3) (hd : 5 ≤ d) (q0 : T[a0]? = some (9, m_a0)) (h : f_X9_told T M a0 i1 i2 = some o) (hR : Acc (some (.int o.1)) ad T o.2) : gG Z ad T M 0 0 0 [(0, .ref a0), (1, .int i1), (2, .int i2)] [] := by
  unfold f_X9_told at h
  refine g_iload_n hF 2 rfl rfl dX9_told_0 ?_
  refine g_iconst (v := (2 : Int32)) hF rfl dX9_told_1 ?_
  refine g_icmp_ge (tgt := 19) hF dX9_told_2 (by decide) (fun c1 => ?_) (fun c1 => ?_)
  · replace h := gif_t c1 h
    refine g_iload_n hF 2 rfl rfl dX9_told_19 ?_
    refine g_iconst (v := (2 : Int32)) hF rfl dX9_told_20 ?_
    refine g_icmp_ne (tgt := 32) hF dX9_told_21 (by decide) (fun c2 => ?_) (fun c2 => ?_)
    · replace h := gif_t c2 h
      refine g_iload_n hF 2 rfl rfl dX9_told_32 ?_
      refine g_iconst (v := (3 : Int32)) hF rfl dX9_told_33 ?_
      refine g_icmp_ne (tgt := 45) hF dX9_told_34 (by decide) (fun c3 => ?_) (fun c3 => ?_)
      · replace h := gif_t c3 h
        refine g_iload_n hF 2 rfl rfl dX9_told_45 ?_
        refine g_iconst (v := (4 : Int32)) hF rfl dX9_told_46 ?_
        refine g_icmp_ne (tgt := 64) hF dX9_told_47 (by decide) (fun c4 => ?_) (fun c4 => ?_)
        · replace h := gif_t c4 h
          refine g_aload_n hF 0 rfl rfl dX9_told_64 ?_
          refine g_iload_n hF 1 rfl rfl dX9_told_65 ?_
          obtain ⟨x5, h5, h⟩ := gbnd h
          refine g_callV hF my_X9_weightOf kw_1351 kw_1353 kw_92 gC_9.1 (by decide) q0 (c_X9_weightOf (d := d - 1) (by omega) q0 h5) (by omega) (Nat.zero_le _) (Nat.zero_le _) rfl rfl (Nat.le_of_ble_eq_true rfl) dX9_told_66 (g_sameS ?_)
          cases h
          exact g_ret_i hF rfl rfl dX9_told_69 hR (Nat.zero_le _) (Nat.zero_le _)
        · replace h := gif_n c4 h
          refine g_aload_n hF 0 rfl rfl dX9_told_50 ?_
          obtain ⟨b6, h6, h⟩ := gbnd h
          obtain ⟨g6, l6, q_b6⟩ := ldr_sp h6
          refine g_get_r hF g6 fl_RX9_17 q0 dX9_told_51 ?_
          refine g_iload_n hF 1 rfl rfl dX9_told_54 ?_
          obtain ⟨x7, h7, h⟩ := gbnd h
          refine g_callS hF my_X9_at kw_1244 kw_1245 (c_X9_at (d := d - 1) (by omega)  h7) (by omega) (Nat.zero_le _) (Nat.zero_le _) rfl rfl (Nat.le_of_ble_eq_true rfl) dX9_told_55 (g_sameS ?_)
          refine g_iconst (v := (3 : Int32)) hF rfl dX9_told_58 ?_
          refine g_iadd hF dX9_told_59 ?_
          obtain ⟨v8, h8, h⟩ := gbnd h
          obtain ⟨i8h, e8v⟩ := ald_sp q_b6 h8
          refine g_iald hF q_b6 i8h dX9_told_60 ?_
          rw [← e8v]
          refine g_goto (tgt := 69) hF dX9_told_61 (by decide) ?_
          cases h
          exact g_ret_i hF rfl rfl dX9_told_69 hR (Nat.zero_le _) (Nat.zero_le _)
      · replace h := gif_n c3 h
        refine g_aload_n hF 0 rfl rfl dX9_told_37 ?_
        refine g_iload_n hF 1 rfl rfl dX9_told_38 ?_
        obtain ⟨x9, h9, h⟩ := gbnd h
        refine g_callV hF my_X9_offersOf kw_1347 kw_1349 kw_91 gC_9.1 (by decide) q0 (c_X9_offersOf (d := d - 1) (by omega) q0 h9) (by omega) (Nat.zero_le _) (Nat.zero_le _) rfl rfl (Nat.le_of_ble_eq_true rfl) dX9_told_39 (g_sameS ?_)
        refine g_goto (tgt := 69) hF dX9_told_42 (by decide) ?_
        cases h
        exact g_ret_i hF rfl rfl dX9_told_69 hR (Nat.zero_le _) (Nat.zero_le _)
    · replace h := gif_n c2 h
      refine g_aload_n hF 0 rfl rfl dX9_told_24 ?_
      refine g_iload_n hF 1 rfl rfl dX9_told_25 ?_
      obtain ⟨x10, h10, h⟩ := gbnd h
      refine g_callV hF my_X9_rankOf kw_1339 kw_1341 kw_89 gC_9.1 (by decide) q0 (c_X9_rankOf (d := d - 1) (by omega) q0 h10) (by omega) (Nat.zero_le _) (Nat.zero_le _) rfl rfl (Nat.le_of_ble_eq_true rfl) dX9_told_26 (g_sameS ?_)
      refine g_goto (tgt := 69) hF dX9_told_29 (by decide) ?_
      cases h
      exact g_ret_i hF rfl rfl dX9_told_69 hR (Nat.zero_le _) (Nat.zero_le _)
  · replace h := gif_f c1 h
    refine g_aload_n hF 0 rfl rfl dX9_told_5 ?_
    obtain ⟨b11, h11, h⟩ := gbnd h
    obtain ⟨g11, l11, q_b11⟩ := ldr_sp h11
    refine g_get_r hF g11 fl_RX9_17 q0 dX9_told_6 ?_
    refine g_iload_n hF 1 rfl rfl dX9_told_9 ?_
    obtain ⟨x12, h12, h⟩ := gbnd h
    refine g_callS hF my_X9_at kw_1244 kw_1245 (c_X9_at (d := d - 1) (by omega)  h12) (by omega) (Nat.zero_le _) (Nat.zero_le _) rfl rfl (Nat.le_of_ble_eq_true rfl) dX9_told_10 (g_sameS ?_)
    refine g_iload_n hF 2 rfl rfl dX9_told_13 ?_
    refine g_iadd hF dX9_told_14 ?_
    obtain ⟨v13, h13, h⟩ := gbnd h
    obtain ⟨i13h, e13v⟩ := ald_sp q_b11 h13
    refine g_iald hF q_b11 i13h dX9_told_15 ?_
    rw [← e13v]
    refine g_goto (tgt := 69) hF dX9_told_16 (by decide) ?_
    cases h
    exact g_ret_i hF rfl rfl dX9_told_69 hR (Nat.zero_le _) (Nat.zero_le _)
theorem c_X9_told {d : Nat} {T : gT} {M : gM} {m_a0 : Nat} {a0 : Nat} {i1 : Int32} {i2 : Int32} {r : Int32 × gM} (hd : 5 ≤ d) (q0 : T[a0]? = some (9, m_a0)) (h : f_X9_told T M a0 i1 i2 = some (r)) : gRet d yX9_told cX9_told 3 (some .int) 0 0 [.ref a0, .int i1, .int i2] T M (gSame T (some (.int r.1)) r.2) := by
  refine gRet_of (own := RX9) (by decide) rfl (Nat.le_of_ble_eq_true rfl) (fun Z ad0 hn h0 hF => ?_)
  exact t_X9_told hF hn hd q0 h ⟨rfl, rfl, rfl, rfl⟩
theorem t_X9_library_35 {Z : gZ} {d mc ms : Nat} {Acc : Option Value → (Nat → Nat) → gT → gM → Prop} {AccX : Nat → (Nat → Nat) → gT → gM → Prop} {ad : Nat → Nat} {T : gT} {M : gM} {o : Int32 × gM} (hF : gFix Z cX9_library RX9 "library" (some .int) d mc ms Acc AccX) (hn : Z.2.2.2.2.2.1 = 3) (hd : 6 ≤ d)  (h : f_X9_library_35 T M  = some o) (hR : Acc (some (.int o.1)) ad T o.2) : gG Z ad T M 0 0 35 [] [] := by
  unfold f_X9_library_35 at h
  refine g_iconst (v := (0 : Int32)) hF rfl dX9_library_35 ?_
  refine g_goto (tgt := 45) hF dX9_library_36 (by decide) ?_
  cases h
  exact g_ret_i hF rfl rfl dX9_library_45 hR (Nat.zero_le _) (Nat.zero_le _)
theorem t_X9_library_28 {Z : gZ} {d mc ms : Nat} {Acc : Option Value → (Nat → Nat) → gT → gM → Prop} {AccX : Nat → (Nat → Nat) → gT → gM → Prop} {ad : Nat → Nat} {T : gT} {M : gM} {m_a0 m_b0 : Nat} {a0 : Nat} {i1 : Int32} {i2 : Int32} {b0 : Nat} {k1 : Int32} {o : Int32 × gM} (hF : gFix Z cX9_library RX9 "library" (some .int) d mc ms Acc AccX) (hn : Z.2.2.2.2.2.1 = 3) (hd : 6 ≤ d) (q0 : T[a0]? = some (9, m_a0)) (p0 : T[b0]? = some (9, m_b0)) (h : f_X9_library_28 T M a0 i1 i2 b0 k1 = some o) (hR : Acc (some (.int o.1)) ad T o.2) : gG Z ad T M 0 0 28 [(0, .ref a0), (1, .int i1), (2, .int i2)] [.int k1, .ref b0] := by
  unfold f_X9_library_28 at h
  refine g_iconst (v := (2 : Int32)) hF rfl dX9_library_28 ?_
  obtain ⟨x1, h1, h⟩ := gbnd h
  refine g_callV hF my_X9_fails kw_1186 kw_1188 kw_64 gC_9.1 (by decide) p0 (c_X9_fails (d := d - 1) (by omega) p0 h1) (by omega) (Nat.zero_le _) (Nat.zero_le _) rfl rfl (Nat.le_of_ble_eq_true rfl) dX9_library_29 (g_sameS ?_)
  refine g_if_eq (tgt := 39) hF dX9_library_32 (by decide) (fun c2 => ?_) (fun c2 => ?_)
  · replace h := gif_t c2 h
    refine g_aload_n hF 0 rfl rfl dX9_library_39 ?_
    refine g_iload_n hF 1 rfl rfl dX9_library_40 ?_
    refine g_iload_n hF 2 rfl rfl dX9_library_41 ?_
    obtain ⟨x3, h3, h⟩ := gbnd h
    refine g_callV hF my_X9_told kw_1335 kw_1337 kw_88 gC_9.1 (by decide) q0 (c_X9_told (d := d - 1) (by omega) q0 h3) (by omega) (Nat.zero_le _) (Nat.zero_le _) rfl rfl (Nat.le_of_ble_eq_true rfl) dX9_library_42 (g_sameS ?_)
    cases h
    exact g_ret_i hF rfl rfl dX9_library_45 hR (Nat.zero_le _) (Nat.zero_le _)
  · replace h := gif_f c2 h
    exact gG_sub [] rfl (t_X9_library_35 hF hn hd  h hR)
theorem t_X9_library {Z : gZ} {d mc ms : Nat} {Acc : Option Value → (Nat → Nat) → gT → gM → Prop} {AccX : Nat → (Nat → Nat) → gT → gM → Prop} {ad : Nat → Nat} {T : gT} {M : gM} {m_a0 : Nat} {a0 : Nat} {i1 : Int32} {i2 : Int32} {o : Int32 × gM} (hF : gFix Z cX9_library RX9 "library" (some .int) d mc ms Acc AccX) (hn : Z.2.2.2.2.2.1 = 3) (hd : 6 ≤ d) (q0 : T[a0]? = some (9, m_a0)) (h : f_X9_library T M a0 i1 i2 = some o) (hR : Acc (some (.int o.1)) ad T o.2) : gG Z ad T M 0 0 0 [(0, .ref a0), (1, .int i1), (2, .int i2)] [] := by
  unfold f_X9_library at h
  refine g_aload_n hF 0 rfl rfl dX9_library_0 ?_
  refine g_iconst (v := (0 : Int32)) hF rfl dX9_library_1 ?_
  refine g_put_i hF rfl rfl fl_RX9_59 q0 dX9_library_2 ?_
  refine g_aload_n hF 0 rfl rfl dX9_library_5 ?_
  refine g_iload_n hF 1 rfl rfl dX9_library_6 ?_
  obtain ⟨x4, h4, h⟩ := gbnd h
  refine g_callV hF my_X9_noLibrary kw_1331 kw_1333 kw_87 gC_9.1 (by decide) q0 (c_X9_noLibrary (d := d - 1) (by omega) q0 h4) (by omega) (Nat.zero_le _) (Nat.zero_le _) rfl rfl (Nat.le_of_ble_eq_true rfl) dX9_library_7 (g_sameS ?_)
  refine g_if_ne (tgt := 35) hF dX9_library_10 (by decide) (fun c5 => ?_) (fun c5 => ?_)
  · replace h := gif_t c5 h
    exact gG_sub [] rfl (t_X9_library_35 hF hn hd  h hR)
  · replace h := gif_n c5 h
    refine g_aload_n hF 0 rfl rfl dX9_library_13 ?_
    refine g_iload_n hF 2 rfl rfl dX9_library_14 ?_
    refine g_iconst (v := (0 : Int32)) hF rfl dX9_library_15 ?_
    refine g_iconst (v := (5 : Int32)) hF rfl dX9_library_16 ?_
    obtain ⟨x6, h6, h⟩ := gbnd h
    refine g_callS hF my_X9_in kw_1183 kw_1184 (c_X9_in (d := d - 1) (by omega)  h6) (by omega) (Nat.zero_le _) (Nat.zero_le _) rfl rfl (Nat.le_of_ble_eq_true rfl) dX9_library_17 (g_sameS ?_)
    refine g_if_ne (tgt := 27) hF dX9_library_20 (by decide) (fun c7 => ?_) (fun c7 => ?_)
    · replace h := gif_t c7 h
      refine g_iconst (v := (0 : Int32)) hF rfl dX9_library_27 ?_
      exact gG_sub [0, 1, 2] rfl (t_X9_library_28 hF hn hd q0 q0 h hR)
    · replace h := gif_n c7 h
      refine g_iconst (v := (1 : Int32)) hF rfl dX9_library_23 ?_
      refine g_goto (tgt := 28) hF dX9_library_24 (by decide) ?_
      exact gG_sub [0, 1, 2] rfl (t_X9_library_28 hF hn hd q0 q0 h hR)
theorem c_X9_library {d : Nat} {T : gT} {M : gM} {m_a0 : Nat} {a0 : Nat} {i1 : Int32} {i2 : Int32} {r : Int32 × gM} (hd : 6 ≤ d) (q0 : T[a0]? = some (9, m_a0)) (h : f_X9_library T M a0 i1 i2 = some (r)) : gRet d yX9_library cX9_library 3 (some .int) 0 0 [.ref a0, .int i1, .int i2] T M (gSame T (some (.int r.1)) r.2) := by
  refine gRet_of (own := RX9) (by decide) rfl (Nat.le_of_ble_eq_true rfl) (fun Z ad0 hn h0 hF => ?_)
  exact t_X9_library hF hn hd q0 h ⟨rfl, rfl, rfl, rfl⟩
theorem t_X9_offer_21 {Z : gZ} {d mc ms : Nat} {Acc : Option Value → (Nat → Nat) → gT → gM → Prop} {AccX : Nat → (Nat → Nat) → gT → gM → Prop} {ad : Nat → Nat} {T : gT} {M : gM} {o : Int32 × gM} (hF : gFix Z cX9_offer RX9 "offer" (some .int) d mc ms Acc AccX) (hn : Z.2.2.2.2.2.1 = 3) (hd : 3 ≤ d)  (h : f_X9_offer_21 T M  = some o) (hR : Acc (some (.int o.1)) ad T o.2) : gG Z ad T M 0 0 21 [] [] := by
  unfold f_X9_offer_21 at h
  refine g_iconst (v := (0 : Int32)) hF rfl dX9_offer_21 ?_
  refine g_goto (tgt := 39) hF dX9_offer_22 (by decide) ?_
  cases h
  exact g_ret_i hF rfl rfl dX9_offer_39 hR (Nat.zero_le _) (Nat.zero_le _)
theorem t_X9_offer {Z : gZ} {d mc ms : Nat} {Acc : Option Value → (Nat → Nat) → gT → gM → Prop} {AccX : Nat → (Nat → Nat) → gT → gM → Prop} {ad : Nat → Nat} {T : gT} {M : gM} {m_a0 : Nat} {a0 : Nat} {i1 : Int32} {i2 : Int32} {o : Int32 × gM} (hF : gFix Z cX9_offer RX9 "offer" (some .int) d mc ms Acc AccX) (hn : Z.2.2.2.2.2.1 = 3) (hd : 3 ≤ d) (q0 : T[a0]? = some (9, m_a0)) (h : f_X9_offer T M a0 i1 i2 = some o) (hR : Acc (some (.int o.1)) ad T o.2) : gG Z ad T M 0 0 0 [(0, .ref a0), (1, .int i1), (2, .int i2)] [] := by
  unfold f_X9_offer at h
  refine g_aload_n hF 0 rfl rfl dX9_offer_0 ?_
  refine g_iconst (v := (0 : Int32)) hF rfl dX9_offer_1 ?_
  refine g_put_i hF rfl rfl fl_RX9_59 q0 dX9_offer_2 ?_
  refine g_aload_n hF 0 rfl rfl dX9_offer_5 ?_
  refine g_iload_n hF 1 rfl rfl dX9_offer_6 ?_
  obtain ⟨x1, h1, h⟩ := gbnd h
  refine g_callV hF my_X9_noLibrary kw_1331 kw_1333 kw_87 gC_9.1 (by decide) q0 (c_X9_noLibrary (d := d - 1) (by omega) q0 h1) (by omega) (Nat.zero_le _) (Nat.zero_le _) rfl rfl (Nat.le_of_ble_eq_true rfl) dX9_offer_7 (g_sameS ?_)
  refine g_if_ne (tgt := 21) hF dX9_offer_10 (by decide) (fun c2 => ?_) (fun c2 => ?_)
  · replace h := gif_t c2 h
    exact gG_sub [] rfl (t_X9_offer_21 hF hn hd  h hR)
  · replace h := gif_n c2 h
    refine g_aload_n hF 0 rfl rfl dX9_offer_13 ?_
    refine g_iload_n hF 2 rfl rfl dX9_offer_14 ?_
    obtain ⟨x3, h3, h⟩ := gbnd h
    refine g_callV hF my_X9_noName kw_1372 kw_1374 kw_94 gC_9.1 (by decide) q0 (c_X9_noName (d := d - 1) (by omega) q0 h3) (by omega) (Nat.zero_le _) (Nat.zero_le _) rfl rfl (Nat.le_of_ble_eq_true rfl) dX9_offer_15 (g_sameS ?_)
    refine g_if_eq (tgt := 25) hF dX9_offer_18 (by decide) (fun c4 => ?_) (fun c4 => ?_)
    · replace h := gif_t c4 h
      refine g_aload_n hF 0 rfl rfl dX9_offer_25 ?_
      obtain ⟨b5, h5, h⟩ := gbnd h
      obtain ⟨g5, l5, q_b5⟩ := ldr_sp h5
      refine g_get_r hF g5 fl_RX9_17 q0 dX9_offer_26 ?_
      refine g_iload_n hF 1 rfl rfl dX9_offer_29 ?_
      obtain ⟨x6, h6, h⟩ := gbnd h
      refine g_callS hF my_X9_at kw_1244 kw_1245 (c_X9_at (d := d - 1) (by omega)  h6) (by omega) (Nat.zero_le _) (Nat.zero_le _) rfl rfl (Nat.le_of_ble_eq_true rfl) dX9_offer_30 (g_sameS ?_)
      refine g_bipush (v := (12 : Int32)) hF rfl dX9_offer_33 ?_
      refine g_iadd hF dX9_offer_35 ?_
      refine g_iload_n hF 2 rfl rfl dX9_offer_36 ?_
      refine g_iadd hF dX9_offer_37 ?_
      obtain ⟨v7, h7, h⟩ := gbnd h
      obtain ⟨i7h, e7v⟩ := ald_sp q_b5 h7
      refine g_iald hF q_b5 i7h dX9_offer_38 ?_
      rw [← e7v]
      cases h
      exact g_ret_i hF rfl rfl dX9_offer_39 hR (Nat.zero_le _) (Nat.zero_le _)
    · replace h := gif_f c4 h
      exact gG_sub [] rfl (t_X9_offer_21 hF hn hd  h hR)
theorem c_X9_offer {d : Nat} {T : gT} {M : gM} {m_a0 : Nat} {a0 : Nat} {i1 : Int32} {i2 : Int32} {r : Int32 × gM} (hd : 3 ≤ d) (q0 : T[a0]? = some (9, m_a0)) (h : f_X9_offer T M a0 i1 i2 = some (r)) : gRet d yX9_offer cX9_offer 3 (some .int) 0 0 [.ref a0, .int i1, .int i2] T M (gSame T (some (.int r.1)) r.2) := by
  refine gRet_of (own := RX9) (by decide) rfl (Nat.le_of_ble_eq_true rfl) (fun Z ad0 hn h0 hF => ?_)
  exact t_X9_offer hF hn hd q0 h ⟨rfl, rfl, rfl, rfl⟩
theorem t_X9_candidates_44 {Z : gZ} {d mc ms : Nat} {Acc : Option Value → (Nat → Nat) → gT → gM → Prop} {AccX : Nat → (Nat → Nat) → gT → gM → Prop} {ad : Nat → Nat} {T : gT} {M : gM} {m_a0 : Nat} {a0 : Nat} {i1 : Int32} {i3 : Int32} {k0 : Int32} {k1 : Int32} {o : (Int32) ⊕ (Int32 × Int32)} (hF : gFix Z cX9_candidates RX9 "candidates" (some .int) d mc ms Acc AccX) (hn : Z.2.2.2.2.2.1 = 4) (hd : 4 ≤ d) (q0 : T[a0]? = some (9, m_a0)) (h : f_X9_candidates_44 T M a0 i1 i3 k0 k1 = some o) (hE : ∀ e9, o = .inl e9 → gG Z ad T M 0 0 52 [(2, .int e9)] []) (hN : ∀ n9, o = .inr n9 → gG Z ad T M 0 0 19 [(0, .ref a0), (1, .int i1), (2, .int n9.1), (3, .int n9.2)] []) : gG Z ad T M 0 0 44 [(0, .ref a0), (1, .int i1), (3, .int i3)] [.int k1, .int k0] := by
  unfold f_X9_candidates_44 at h
  refine g_iadd hF dX9_candidates_44 ?_
  refine g_istore_n (ls' := [(2, .int (k0 + k1)), (0, .ref a0), (1, .int i1), (3, .int i3)]) hF rfl (by rw [hn]; decide) rfl dX9_candidates_45 ?_
  refine g_iinc (n := 1) (v := (i3 + (1 : Int32))) (ls' := [(3, .int (i3 + (1 : Int32))), (2, .int (k0 + k1)), (0, .ref a0), (1, .int i1)]) hF 3 rfl rfl (by rw [hn]; decide) rfl dX9_candidates_46 ?_
  refine g_goto (tgt := 19) hF dX9_candidates_49 (by decide) ?_
  exact gG_sub [2, 3, 1, 0] rfl (hN _ (Option.some.inj h).symm)
theorem t_X9_candidates_B19 {Z : gZ} {d mc ms : Nat} {Acc : Option Value → (Nat → Nat) → gT → gM → Prop} {AccX : Nat → (Nat → Nat) → gT → gM → Prop} {ad : Nat → Nat} {T : gT} {M : gM} {m_a0 : Nat} {a0 : Nat} {i1 : Int32} {i2 : Int32} {i3 : Int32} {o : (Int32) ⊕ (Int32 × Int32)} (hF : gFix Z cX9_candidates RX9 "candidates" (some .int) d mc ms Acc AccX) (hn : Z.2.2.2.2.2.1 = 4) (hd : 4 ≤ d) (q0 : T[a0]? = some (9, m_a0)) (h : f_X9_candidates_B19 T M a0 i1 i2 i3 = some o) (hE : ∀ e9, o = .inl e9 → gG Z ad T M 0 0 52 [(2, .int e9)] []) (hN : ∀ n9, o = .inr n9 → gG Z ad T M 0 0 19 [(0, .ref a0), (1, .int i1), (2, .int n9.1), (3, .int n9.2)] []) : gG Z ad T M 0 0 19 [(0, .ref a0), (1, .int i1), (2, .int i2), (3, .int i3)] [] := by
  unfold f_X9_candidates_B19 at h
  refine g_iload_n hF 3 rfl rfl dX9_candidates_19 ?_
  refine g_aload_n hF 0 rfl rfl dX9_candidates_20 ?_
  obtain ⟨b1, h1, h⟩ := gbnd h
  obtain ⟨g1, l1, q_b1⟩ := ldr_sp h1
  refine g_get_r hF g1 fl_RX9_17 q0 dX9_candidates_21 ?_
  refine g_iconst (v := (1 : Int32)) hF rfl dX9_candidates_24 ?_
  obtain ⟨v2, h2, h⟩ := gbnd h
  obtain ⟨i2h, e2v⟩ := ald_sp q_b1 h2
  refine g_iald hF q_b1 i2h dX9_candidates_25 ?_
  rw [← e2v]
  refine g_icmp_ge (tgt := 52) hF dX9_candidates_26 (by decide) (fun c3 => ?_) (fun c3 => ?_)
  · replace h := gif_t c3 h
    exact gG_sub [2] rfl (hE _ (Option.some.inj h).symm)
  · replace h := gif_f c3 h
    refine g_iload_n hF 2 rfl rfl dX9_candidates_29 ?_
    refine g_aload_n hF 0 rfl rfl dX9_candidates_30 ?_
    refine g_iload_n hF 3 rfl rfl dX9_candidates_31 ?_
    refine g_iload_n hF 1 rfl rfl dX9_candidates_32 ?_
    obtain ⟨x4, h4, h⟩ := gbnd h
    refine g_callV hF my_X9_isCandidate kw_1380 kw_1382 kw_95 gC_9.1 (by decide) q0 (c_X9_isCandidate (d := d - 1) (by omega) q0 h4) (by omega) (Nat.zero_le _) (Nat.zero_le _) rfl rfl (Nat.le_of_ble_eq_true rfl) dX9_candidates_33 (g_sameS ?_)
    refine g_if_eq (tgt := 43) hF dX9_candidates_36 (by decide) (fun c5 => ?_) (fun c5 => ?_)
    · replace h := gif_t c5 h
      refine g_iconst (v := (0 : Int32)) hF rfl dX9_candidates_43 ?_
      exact gG_sub [0, 1, 3] rfl (t_X9_candidates_44 hF hn hd q0 h hE hN)
    · replace h := gif_f c5 h
      refine g_iconst (v := (1 : Int32)) hF rfl dX9_candidates_39 ?_
      refine g_goto (tgt := 44) hF dX9_candidates_40 (by decide) ?_
      exact gG_sub [0, 1, 3] rfl (t_X9_candidates_44 hF hn hd q0 h hE hN)
theorem t_X9_candidates_L19 {Z : gZ} {d mc ms : Nat} {Acc : Option Value → (Nat → Nat) → gT → gM → Prop} {AccX : Nat → (Nat → Nat) → gT → gM → Prop} {ad : Nat → Nat} {T : gT} {M : gM} {m_a0 : Nat} {a0 : Nat} {i1 : Int32} {i2 : Int32} {i3 : Int32} {o : Int32} (hF : gFix Z cX9_candidates RX9 "candidates" (some .int) d mc ms Acc AccX) (hn : Z.2.2.2.2.2.1 = 4) (hd : 4 ≤ d) (q0 : T[a0]? = some (9, m_a0)) (h : gloop (fun x => f_X9_candidates_B19 T M a0 i1 x.1 x.2) gFU (i2, i3) = some o) (hE : gG Z ad T M 0 0 52 [(2, .int o)] []) : gG Z ad T M 0 0 19 [(0, .ref a0), (1, .int i1), (2, .int i2), (3, .int i3)] [] := by
  refine gloop_ind (P := fun x0 : Int32 × Int32 => gG Z ad T M 0 0 19 [(0, .ref a0), (1, .int i1), (2, .int x0.1), (3, .int x0.2)] []) (e := o) (fun x0 y hy hl hr => ?_) gFU (i2, i3) h
  exact t_X9_candidates_B19 hF hn hd q0 hy (fun e9 q9 => by rw [hl _ q9]; exact hE) (fun n9 q9 => hr n9 q9)
theorem t_X9_candidates {Z : gZ} {d mc ms : Nat} {Acc : Option Value → (Nat → Nat) → gT → gM → Prop} {AccX : Nat → (Nat → Nat) → gT → gM → Prop} {ad : Nat → Nat} {T : gT} {M : gM} {m_a0 : Nat} {a0 : Nat} {i1 : Int32} {o : Int32 × gM} (hF : gFix Z cX9_candidates RX9 "candidates" (some .int) d mc ms Acc AccX) (hn : Z.2.2.2.2.2.1 = 4) (hd : 4 ≤ d) (q0 : T[a0]? = some (9, m_a0)) (h : f_X9_candidates T M a0 i1 = some o) (hR : Acc (some (.int o.1)) ad T o.2) : gG Z ad T M 0 0 0 [(0, .ref a0), (1, .int i1)] [] := by
  unfold f_X9_candidates at h
  refine g_aload_n hF 0 rfl rfl dX9_candidates_0 ?_
  refine g_iconst (v := (0 : Int32)) hF rfl dX9_candidates_1 ?_
  refine g_put_i hF rfl rfl fl_RX9_59 q0 dX9_candidates_2 ?_
  refine g_aload_n hF 0 rfl rfl dX9_candidates_5 ?_
  refine g_iload_n hF 1 rfl rfl dX9_candidates_6 ?_
  obtain ⟨x6, h6, h⟩ := gbnd h
  refine g_callV hF my_X9_noName kw_1372 kw_1374 kw_94 gC_9.1 (by decide) q0 (c_X9_noName (d := d - 1) (by omega) q0 h6) (by omega) (Nat.zero_le _) (Nat.zero_le _) rfl rfl (Nat.le_of_ble_eq_true rfl) dX9_candidates_7 (g_sameS ?_)
  refine g_if_eq (tgt := 15) hF dX9_candidates_10 (by decide) (fun c7 => ?_) (fun c7 => ?_)
  · replace h := gif_t c7 h
    refine g_iconst (v := (0 : Int32)) hF rfl dX9_candidates_15 ?_
    refine g_istore_n (ls' := [(2, .int (0 : Int32)), (0, .ref a0), (1, .int i1)]) hF rfl (by rw [hn]; decide) rfl dX9_candidates_16 ?_
    refine g_iconst (v := (0 : Int32)) hF rfl dX9_candidates_17 ?_
    refine g_istore_n (ls' := [(3, .int (0 : Int32)), (2, .int (0 : Int32)), (0, .ref a0), (1, .int i1)]) hF rfl (by rw [hn]; decide) rfl dX9_candidates_18 ?_
    obtain ⟨x8, h8, h⟩ := gbnd h
    refine gG_sub [2, 3, 1, 0] rfl (t_X9_candidates_L19 hF hn hd q0 h8 ?_)
    refine g_iload_n hF 0 rfl rfl dX9_candidates_52 ?_
    cases h
    exact g_ret_i hF rfl rfl dX9_candidates_53 hR (Nat.zero_le _) (Nat.zero_le _)
  · replace h := gif_f c7 h
    refine g_iconst (v := (0 : Int32)) hF rfl dX9_candidates_13 ?_
    cases h
    exact g_ret_i hF rfl rfl dX9_candidates_14 hR (Nat.zero_le _) (Nat.zero_le _)
theorem c_X9_candidates {d : Nat} {T : gT} {M : gM} {m_a0 : Nat} {a0 : Nat} {i1 : Int32} {r : Int32 × gM} (hd : 4 ≤ d) (q0 : T[a0]? = some (9, m_a0)) (h : f_X9_candidates T M a0 i1 = some (r)) : gRet d yX9_candidates cX9_candidates 4 (some .int) 0 0 [.ref a0, .int i1] T M (gSame T (some (.int r.1)) r.2) := by
  refine gRet_of (own := RX9) (by decide) rfl (Nat.le_of_ble_eq_true rfl) (fun Z ad0 hn h0 hF => ?_)
  exact t_X9_candidates hF hn hd q0 h ⟨rfl, rfl, rfl, rfl⟩
theorem t_X9_vote_21 {Z : gZ} {d mc ms : Nat} {Acc : Option Value → (Nat → Nat) → gT → gM → Prop} {AccX : Nat → (Nat → Nat) → gT → gM → Prop} {ad : Nat → Nat} {T : gT} {M : gM} {o : Int32 × gM} (hF : gFix Z cX9_vote RX9 "vote" (some .int) d mc ms Acc AccX) (hn : Z.2.2.2.2.2.1 = 3) (hd : 5 ≤ d)  (h : f_X9_vote_21 T M  = some o) (hR : Acc (some (.int o.1)) ad T o.2) : gG Z ad T M 0 0 21 [] [] := by
  unfold f_X9_vote_21 at h
  refine g_iconst (v := (0 : Int32)) hF rfl dX9_vote_21 ?_
  refine g_goto (tgt := 31) hF dX9_vote_22 (by decide) ?_
  cases h
  exact g_ret_i hF rfl rfl dX9_vote_31 hR (Nat.zero_le _) (Nat.zero_le _)
theorem t_X9_vote {Z : gZ} {d mc ms : Nat} {Acc : Option Value → (Nat → Nat) → gT → gM → Prop} {AccX : Nat → (Nat → Nat) → gT → gM → Prop} {ad : Nat → Nat} {T : gT} {M : gM} {m_a0 : Nat} {a0 : Nat} {i1 : Int32} {i2 : Int32} {o : Int32 × gM} (hF : gFix Z cX9_vote RX9 "vote" (some .int) d mc ms Acc AccX) (hn : Z.2.2.2.2.2.1 = 3) (hd : 5 ≤ d) (q0 : T[a0]? = some (9, m_a0)) (h : f_X9_vote T M a0 i1 i2 = some o) (hR : Acc (some (.int o.1)) ad T o.2) : gG Z ad T M 0 0 0 [(0, .ref a0), (1, .int i1), (2, .int i2)] [] := by
  unfold f_X9_vote at h
  refine g_aload_n hF 0 rfl rfl dX9_vote_0 ?_
  refine g_iconst (v := (0 : Int32)) hF rfl dX9_vote_1 ?_
  refine g_put_i hF rfl rfl fl_RX9_59 q0 dX9_vote_2 ?_
  refine g_aload_n hF 0 rfl rfl dX9_vote_5 ?_
  refine g_iload_n hF 1 rfl rfl dX9_vote_6 ?_
  obtain ⟨x1, h1, h⟩ := gbnd h
  refine g_callV hF my_X9_noLibrary kw_1331 kw_1333 kw_87 gC_9.1 (by decide) q0 (c_X9_noLibrary (d := d - 1) (by omega) q0 h1) (by omega) (Nat.zero_le _) (Nat.zero_le _) rfl rfl (Nat.le_of_ble_eq_true rfl) dX9_vote_7 (g_sameS ?_)
  refine g_if_ne (tgt := 21) hF dX9_vote_10 (by decide) (fun c2 => ?_) (fun c2 => ?_)
  · replace h := gif_t c2 h
    exact gG_sub [] rfl (t_X9_vote_21 hF hn hd  h hR)
  · replace h := gif_n c2 h
    refine g_aload_n hF 0 rfl rfl dX9_vote_13 ?_
    refine g_iload_n hF 2 rfl rfl dX9_vote_14 ?_
    obtain ⟨x3, h3, h⟩ := gbnd h
    refine g_callV hF my_X9_noName kw_1372 kw_1374 kw_94 gC_9.1 (by decide) q0 (c_X9_noName (d := d - 1) (by omega) q0 h3) (by omega) (Nat.zero_le _) (Nat.zero_le _) rfl rfl (Nat.le_of_ble_eq_true rfl) dX9_vote_15 (g_sameS ?_)
    refine g_if_eq (tgt := 25) hF dX9_vote_18 (by decide) (fun c4 => ?_) (fun c4 => ?_)
    · replace h := gif_t c4 h
      refine g_aload_n hF 0 rfl rfl dX9_vote_25 ?_
      refine g_iload_n hF 1 rfl rfl dX9_vote_26 ?_
      refine g_iload_n hF 2 rfl rfl dX9_vote_27 ?_
      obtain ⟨x5, h5, h⟩ := gbnd h
      refine g_callV hF my_X9_voteOf kw_1388 kw_1390 kw_96 gC_9.1 (by decide) q0 (c_X9_voteOf (d := d - 1) (by omega) q0 h5) (by omega) (Nat.zero_le _) (Nat.zero_le _) rfl rfl (Nat.le_of_ble_eq_true rfl) dX9_vote_28 (g_sameS ?_)
      cases h
      exact g_ret_i hF rfl rfl dX9_vote_31 hR (Nat.zero_le _) (Nat.zero_le _)
    · replace h := gif_f c4 h
      exact gG_sub [] rfl (t_X9_vote_21 hF hn hd  h hR)
theorem c_X9_vote {d : Nat} {T : gT} {M : gM} {m_a0 : Nat} {a0 : Nat} {i1 : Int32} {i2 : Int32} {r : Int32 × gM} (hd : 5 ≤ d) (q0 : T[a0]? = some (9, m_a0)) (h : f_X9_vote T M a0 i1 i2 = some (r)) : gRet d yX9_vote cX9_vote 3 (some .int) 0 0 [.ref a0, .int i1, .int i2] T M (gSame T (some (.int r.1)) r.2) := by
  refine gRet_of (own := RX9) (by decide) rfl (Nat.le_of_ble_eq_true rfl) (fun Z ad0 hn h0 hF => ?_)
  exact t_X9_vote hF hn hd q0 h ⟨rfl, rfl, rfl, rfl⟩
theorem t_X9_support {Z : gZ} {d mc ms : Nat} {Acc : Option Value → (Nat → Nat) → gT → gM → Prop} {AccX : Nat → (Nat → Nat) → gT → gM → Prop} {ad : Nat → Nat} {T : gT} {M : gM} {m_a0 : Nat} {a0 : Nat} {i1 : Int32} {i2 : Int32} {o : Int32 × gM} (hF : gFix Z cX9_support RX9 "support" (some .int) d mc ms Acc AccX) (hn : Z.2.2.2.2.2.1 = 3) (hd : 8 ≤ d) (q0 : T[a0]? = some (9, m_a0)) (h : f_X9_support T M a0 i1 i2 = some o) (hR : Acc (some (.int o.1)) ad T o.2) : gG Z ad T M 0 0 0 [(0, .ref a0), (1, .int i1), (2, .int i2)] [] := by
  unfold f_X9_support at h
  refine g_aload_n hF 0 rfl rfl dX9_support_0 ?_
  refine g_iconst (v := (0 : Int32)) hF rfl dX9_support_1 ?_
  refine g_put_i hF rfl rfl fl_RX9_59 q0 dX9_support_2 ?_
  refine g_aload_n hF 0 rfl rfl dX9_support_5 ?_
  refine g_iload_n hF 1 rfl rfl dX9_support_6 ?_
  refine g_iload_n hF 2 rfl rfl dX9_support_7 ?_
  obtain ⟨x1, h1, h⟩ := gbnd h
  refine g_callV hF my_X9_isMissing kw_1396 kw_1398 kw_97 gC_9.1 (by decide) q0 (c_X9_isMissing (d := d - 1) (by omega) q0 h1) (by omega) (Nat.zero_le _) (Nat.zero_le _) rfl rfl (Nat.le_of_ble_eq_true rfl) dX9_support_8 (g_sameS ?_)
  refine g_if_eq (tgt := 18) hF dX9_support_11 (by decide) (fun c2 => ?_) (fun c2 => ?_)
  · replace h := gif_t c2 h
    refine g_aload_n hF 0 rfl rfl dX9_support_18 ?_
    refine g_iload_n hF 1 rfl rfl dX9_support_19 ?_
    refine g_iload_n hF 2 rfl rfl dX9_support_20 ?_
    obtain ⟨x3, h3, h⟩ := gbnd h
    refine g_callV hF my_X9_isCandidate kw_1380 kw_1382 kw_95 gC_9.1 (by decide) q0 (c_X9_isCandidate (d := d - 1) (by omega) q0 h3) (by omega) (Nat.zero_le _) (Nat.zero_le _) rfl rfl (Nat.le_of_ble_eq_true rfl) dX9_support_21 (g_sameS ?_)
    refine g_if_eq (tgt := 38) hF dX9_support_24 (by decide) (fun c4 => ?_) (fun c4 => ?_)
    · replace h := gif_t c4 h
      refine g_iconst (v := (-1 : Int32)) hF rfl dX9_support_38 ?_
      cases h
      exact g_ret_i hF rfl rfl dX9_support_39 hR (Nat.zero_le _) (Nat.zero_le _)
    · replace h := gif_f c4 h
      refine g_aload_n hF 0 rfl rfl dX9_support_27 ?_
      obtain ⟨b5, h5, h⟩ := gbnd h
      obtain ⟨g5, l5, q_b5⟩ := ldr_sp h5
      refine g_get_r hF g5 fl_RX9_47 q0 dX9_support_28 ?_
      refine g_iload_n hF 1 rfl rfl dX9_support_31 ?_
      obtain ⟨b6, h6, h⟩ := gbnd h
      obtain ⟨i6h, g6, l6, q_b6⟩ := aldr_sp q_b5 h6
      refine g_aald2 hF q_b5 i6h g6 dX9_support_32 ?_
      refine g_iload_n hF 2 rfl rfl dX9_support_33 ?_
      obtain ⟨v7, h7, h⟩ := gbnd h
      obtain ⟨i7h, e7v⟩ := ald_sp q_b6 h7
      refine g_iald hF q_b6 i7h dX9_support_34 ?_
      rw [← e7v]
      refine g_goto (tgt := 39) hF dX9_support_35 (by decide) ?_
      cases h
      exact g_ret_i hF rfl rfl dX9_support_39 hR (Nat.zero_le _) (Nat.zero_le _)
  · replace h := gif_f c2 h
    refine g_iconst (v := (0 : Int32)) hF rfl dX9_support_14 ?_
    refine g_goto (tgt := 39) hF dX9_support_15 (by decide) ?_
    cases h
    exact g_ret_i hF rfl rfl dX9_support_39 hR (Nat.zero_le _) (Nat.zero_le _)
theorem c_X9_support {d : Nat} {T : gT} {M : gM} {m_a0 : Nat} {a0 : Nat} {i1 : Int32} {i2 : Int32} {r : Int32 × gM} (hd : 8 ≤ d) (q0 : T[a0]? = some (9, m_a0)) (h : f_X9_support T M a0 i1 i2 = some (r)) : gRet d yX9_support cX9_support 3 (some .int) 0 0 [.ref a0, .int i1, .int i2] T M (gSame T (some (.int r.1)) r.2) := by
  refine gRet_of (own := RX9) (by decide) rfl (Nat.le_of_ble_eq_true rfl) (fun Z ad0 hn h0 hF => ?_)
  exact t_X9_support hF hn hd q0 h ⟨rfl, rfl, rfl, rfl⟩
theorem t_X9_winner {Z : gZ} {d mc ms : Nat} {Acc : Option Value → (Nat → Nat) → gT → gM → Prop} {AccX : Nat → (Nat → Nat) → gT → gM → Prop} {ad : Nat → Nat} {T : gT} {M : gM} {m_a0 : Nat} {a0 : Nat} {i1 : Int32} {o : Int32 × gM} (hF : gFix Z cX9_winner RX9 "winner" (some .int) d mc ms Acc AccX) (hn : Z.2.2.2.2.2.1 = 2) (hd : 7 ≤ d) (q0 : T[a0]? = some (9, m_a0)) (h : f_X9_winner T M a0 i1 = some o) (hR : Acc (some (.int o.1)) ad T o.2) : gG Z ad T M 0 0 0 [(0, .ref a0), (1, .int i1)] [] := by
  unfold f_X9_winner at h
  refine g_aload_n hF 0 rfl rfl dX9_winner_0 ?_
  refine g_iconst (v := (0 : Int32)) hF rfl dX9_winner_1 ?_
  refine g_put_i hF rfl rfl fl_RX9_59 q0 dX9_winner_2 ?_
  refine g_aload_n hF 0 rfl rfl dX9_winner_5 ?_
  refine g_iload_n hF 1 rfl rfl dX9_winner_6 ?_
  obtain ⟨x1, h1, h⟩ := gbnd h
  refine g_callV hF my_X9_noName kw_1372 kw_1374 kw_94 gC_9.1 (by decide) q0 (c_X9_noName (d := d - 1) (by omega) q0 h1) (by omega) (Nat.zero_le _) (Nat.zero_le _) rfl rfl (Nat.le_of_ble_eq_true rfl) dX9_winner_7 (g_sameS ?_)
  refine g_if_eq (tgt := 15) hF dX9_winner_10 (by decide) (fun c2 => ?_) (fun c2 => ?_)
  · replace h := gif_t c2 h
    refine g_aload_n hF 0 rfl rfl dX9_winner_15 ?_
    obtain ⟨x3, h3, h⟩ := gbnd h
    refine g_callV hF my_X9_layAll kw_1400 kw_1402 kw_98 gC_9.1 (by decide) q0 (c_X9_layAll (d := d - 1) (by omega) q0 h3) (by omega) (Nat.zero_le _) (Nat.zero_le _) rfl rfl (Nat.le_of_ble_eq_true rfl) dX9_winner_16 (g_sameN ?_)
    refine g_aload_n hF 0 rfl rfl dX9_winner_19 ?_
    obtain ⟨b4, h4, h⟩ := gbnd h
    obtain ⟨g4, l4, q_b4⟩ := ldr_sp h4
    refine g_get_r hF g4 fl_RX9_44 q0 dX9_winner_20 ?_
    refine g_iload_n hF 1 rfl rfl dX9_winner_23 ?_
    obtain ⟨v5, h5, h⟩ := gbnd h
    obtain ⟨i5h, e5v⟩ := ald_sp q_b4 h5
    refine g_iald hF q_b4 i5h dX9_winner_24 ?_
    rw [← e5v]
    cases h
    exact g_ret_i hF rfl rfl dX9_winner_25 hR (Nat.zero_le _) (Nat.zero_le _)
  · replace h := gif_f c2 h
    refine g_iconst (v := (0 : Int32)) hF rfl dX9_winner_13 ?_
    cases h
    exact g_ret_i hF rfl rfl dX9_winner_14 hR (Nat.zero_le _) (Nat.zero_le _)
theorem c_X9_winner {d : Nat} {T : gT} {M : gM} {m_a0 : Nat} {a0 : Nat} {i1 : Int32} {r : Int32 × gM} (hd : 7 ≤ d) (q0 : T[a0]? = some (9, m_a0)) (h : f_X9_winner T M a0 i1 = some (r)) : gRet d yX9_winner cX9_winner 2 (some .int) 0 0 [.ref a0, .int i1] T M (gSame T (some (.int r.1)) r.2) := by
  refine gRet_of (own := RX9) (by decide) rfl (Nat.le_of_ble_eq_true rfl) (fun Z ad0 hn h0 hF => ?_)
  exact t_X9_winner hF hn hd q0 h ⟨rfl, rfl, rfl, rfl⟩
theorem t_X9_margin_88 {Z : gZ} {d mc ms : Nat} {Acc : Option Value → (Nat → Nat) → gT → gM → Prop} {AccX : Nat → (Nat → Nat) → gT → gM → Prop} {ad : Nat → Nat} {T : gT} {M : gM} {m_a0 : Nat} {a0 : Nat} {i1 : Int32} {i2 : Int32} {i3 : Int32} {i4 : Int32} {o : (Int32) ⊕ (Int32 × Int32)} (hF : gFix Z cX9_margin RX9 "margin" (some .int) d mc ms Acc AccX) (hn : Z.2.2.2.2.2.1 = 5) (hd : 7 ≤ d) (q0 : T[a0]? = some (9, m_a0)) (h : f_X9_margin_88 T M a0 i1 i2 i3 i4 = some o) (hE : ∀ e9, o = .inl e9 → gG Z ad T M 0 0 94 [(0, .ref a0), (1, .int i1), (2, .int i2), (3, .int e9)] []) (hN : ∀ n9, o = .inr n9 → gG Z ad T M 0 0 38 [(0, .ref a0), (1, .int i1), (2, .int i2), (3, .int n9.1), (4, .int n9.2)] []) : gG Z ad T M 0 0 88 [(0, .ref a0), (1, .int i1), (2, .int i2), (3, .int i3), (4, .int i4)] [] := by
  unfold f_X9_margin_88 at h
  refine g_iinc (n := 1) (v := (i4 + (1 : Int32))) (ls' := [(4, .int (i4 + (1 : Int32))), (0, .ref a0), (1, .int i1), (2, .int i2), (3, .int i3)]) hF 4 rfl rfl (by rw [hn]; decide) rfl dX9_margin_88 ?_
  refine g_goto (tgt := 38) hF dX9_margin_91 (by decide) ?_
  exact gG_sub [1, 2, 3, 4, 0] rfl (hN _ (Option.some.inj h).symm)
theorem t_X9_margin_B38 {Z : gZ} {d mc ms : Nat} {Acc : Option Value → (Nat → Nat) → gT → gM → Prop} {AccX : Nat → (Nat → Nat) → gT → gM → Prop} {ad : Nat → Nat} {T : gT} {M : gM} {m_a0 : Nat} {a0 : Nat} {i1 : Int32} {i2 : Int32} {i3 : Int32} {i4 : Int32} {o : (Int32) ⊕ (Int32 × Int32)} (hF : gFix Z cX9_margin RX9 "margin" (some .int) d mc ms Acc AccX) (hn : Z.2.2.2.2.2.1 = 5) (hd : 7 ≤ d) (q0 : T[a0]? = some (9, m_a0)) (h : f_X9_margin_B38 T M a0 i1 i2 i3 i4 = some o) (hE : ∀ e9, o = .inl e9 → gG Z ad T M 0 0 94 [(0, .ref a0), (1, .int i1), (2, .int i2), (3, .int e9)] []) (hN : ∀ n9, o = .inr n9 → gG Z ad T M 0 0 38 [(0, .ref a0), (1, .int i1), (2, .int i2), (3, .int n9.1), (4, .int n9.2)] []) : gG Z ad T M 0 0 38 [(0, .ref a0), (1, .int i1), (2, .int i2), (3, .int i3), (4, .int i4)] [] := by
  unfold f_X9_margin_B38 at h
  refine g_iload hF 4 rfl dX9_margin_38 ?_
  refine g_aload_n hF 0 rfl rfl dX9_margin_40 ?_
  obtain ⟨b1, h1, h⟩ := gbnd h
  obtain ⟨g1, l1, q_b1⟩ := ldr_sp h1
  refine g_get_r hF g1 fl_RX9_17 q0 dX9_margin_41 ?_
  refine g_iconst (v := (1 : Int32)) hF rfl dX9_margin_44 ?_
  obtain ⟨v2, h2, h⟩ := gbnd h
  obtain ⟨i2h, e2v⟩ := ald_sp q_b1 h2
  refine g_iald hF q_b1 i2h dX9_margin_45 ?_
  rw [← e2v]
  refine g_icmp_ge (tgt := 94) hF dX9_margin_46 (by decide) (fun c3 => ?_) (fun c3 => ?_)
  · replace h := gif_t c3 h
    exact gG_sub [0, 1, 2, 3] rfl (hE _ (Option.some.inj h).symm)
  · replace h := gif_f c3 h
    refine g_iload hF 4 rfl dX9_margin_49 ?_
    refine g_iload_n hF 2 rfl rfl dX9_margin_51 ?_
    refine g_icmp_eq (tgt := 88) hF dX9_margin_52 (by decide) (fun c4 => ?_) (fun c4 => ?_)
    · replace h := gif_t c4 h
      exact gG_sub [0, 1, 2, 3, 4] rfl (t_X9_margin_88 hF hn hd q0 h hE hN)
    · replace h := gif_f c4 h
      refine g_aload_n hF 0 rfl rfl dX9_margin_55 ?_
      refine g_iload hF 4 rfl dX9_margin_56 ?_
      refine g_iload_n hF 1 rfl rfl dX9_margin_58 ?_
      obtain ⟨x5, h5, h⟩ := gbnd h
      refine g_callV hF my_X9_isCandidate kw_1380 kw_1382 kw_95 gC_9.1 (by decide) q0 (c_X9_isCandidate (d := d - 1) (by omega) q0 h5) (by omega) (Nat.zero_le _) (Nat.zero_le _) rfl rfl (Nat.le_of_ble_eq_true rfl) dX9_margin_59 (g_sameS ?_)
      refine g_if_eq (tgt := 88) hF dX9_margin_62 (by decide) (fun c6 => ?_) (fun c6 => ?_)
      · replace h := gif_t c6 h
        exact gG_sub [0, 1, 2, 3, 4] rfl (t_X9_margin_88 hF hn hd q0 h hE hN)
      · replace h := gif_f c6 h
        refine g_aload_n hF 0 rfl rfl dX9_margin_65 ?_
        obtain ⟨b7, h7, h⟩ := gbnd h
        obtain ⟨g7, l7, q_b7⟩ := ldr_sp h7
        refine g_get_r hF g7 fl_RX9_47 q0 dX9_margin_66 ?_
        refine g_iload hF 4 rfl dX9_margin_69 ?_
        obtain ⟨b8, h8, h⟩ := gbnd h
        obtain ⟨i8h, g8, l8, q_b8⟩ := aldr_sp q_b7 h8
        refine g_aald2 hF q_b7 i8h g8 dX9_margin_71 ?_
        refine g_iload_n hF 1 rfl rfl dX9_margin_72 ?_
        obtain ⟨v9, h9, h⟩ := gbnd h
        obtain ⟨i9h, e9v⟩ := ald_sp q_b8 h9
        refine g_iald hF q_b8 i9h dX9_margin_73 ?_
        rw [← e9v]
        refine g_iload_n hF 3 rfl rfl dX9_margin_74 ?_
        refine g_icmp_le (tgt := 88) hF dX9_margin_75 (by decide) (fun c10 => ?_) (fun c10 => ?_)
        · replace h := gif_t c10 h
          exact gG_sub [0, 1, 2, 3, 4] rfl (t_X9_margin_88 hF hn hd q0 h hE hN)
        · replace h := gif_f c10 h
          refine g_aload_n hF 0 rfl rfl dX9_margin_78 ?_
          obtain ⟨b11, h11, h⟩ := gbnd h
          obtain ⟨g11, l11, q_b11⟩ := ldr_sp h11
          refine g_get_r hF g11 fl_RX9_47 q0 dX9_margin_79 ?_
          refine g_iload hF 4 rfl dX9_margin_82 ?_
          obtain ⟨b12, h12, h⟩ := gbnd h
          obtain ⟨i12h, g12, l12, q_b12⟩ := aldr_sp q_b11 h12
          refine g_aald2 hF q_b11 i12h g12 dX9_margin_84 ?_
          refine g_iload_n hF 1 rfl rfl dX9_margin_85 ?_
          obtain ⟨v13, h13, h⟩ := gbnd h
          obtain ⟨i13h, e13v⟩ := ald_sp q_b12 h13
          refine g_iald hF q_b12 i13h dX9_margin_86 ?_
          rw [← e13v]
          refine g_istore_n (ls' := [(3, .int v13), (0, .ref a0), (1, .int i1), (2, .int i2), (4, .int i4)]) hF rfl (by rw [hn]; decide) rfl dX9_margin_87 ?_
          exact gG_sub [1, 2, 3, 0, 4] rfl (t_X9_margin_88 hF hn hd q0 h hE hN)
theorem t_X9_margin_L38 {Z : gZ} {d mc ms : Nat} {Acc : Option Value → (Nat → Nat) → gT → gM → Prop} {AccX : Nat → (Nat → Nat) → gT → gM → Prop} {ad : Nat → Nat} {T : gT} {M : gM} {m_a0 : Nat} {a0 : Nat} {i1 : Int32} {i2 : Int32} {i3 : Int32} {i4 : Int32} {o : Int32} (hF : gFix Z cX9_margin RX9 "margin" (some .int) d mc ms Acc AccX) (hn : Z.2.2.2.2.2.1 = 5) (hd : 7 ≤ d) (q0 : T[a0]? = some (9, m_a0)) (h : gloop (fun x => f_X9_margin_B38 T M a0 i1 i2 x.1 x.2) gFU (i3, i4) = some o) (hE : gG Z ad T M 0 0 94 [(0, .ref a0), (1, .int i1), (2, .int i2), (3, .int o)] []) : gG Z ad T M 0 0 38 [(0, .ref a0), (1, .int i1), (2, .int i2), (3, .int i3), (4, .int i4)] [] := by
  refine gloop_ind (P := fun x0 : Int32 × Int32 => gG Z ad T M 0 0 38 [(0, .ref a0), (1, .int i1), (2, .int i2), (3, .int x0.1), (4, .int x0.2)] []) (e := o) (fun x0 y hy hl hr => ?_) gFU (i3, i4) h
  exact t_X9_margin_B38 hF hn hd q0 hy (fun e9 q9 => by rw [hl _ q9]; exact hE) (fun n9 q9 => hr n9 q9)
theorem t_X9_margin {Z : gZ} {d mc ms : Nat} {Acc : Option Value → (Nat → Nat) → gT → gM → Prop} {AccX : Nat → (Nat → Nat) → gT → gM → Prop} {ad : Nat → Nat} {T : gT} {M : gM} {m_a0 : Nat} {a0 : Nat} {i1 : Int32} {o : Int32 × gM} (hF : gFix Z cX9_margin RX9 "margin" (some .int) d mc ms Acc AccX) (hn : Z.2.2.2.2.2.1 = 5) (hd : 7 ≤ d) (q0 : T[a0]? = some (9, m_a0)) (h : f_X9_margin T M a0 i1 = some o) (hR : Acc (some (.int o.1)) ad T o.2) : gG Z ad T M 0 0 0 [(0, .ref a0), (1, .int i1)] [] := by
  unfold f_X9_margin at h
  refine g_aload_n hF 0 rfl rfl dX9_margin_0 ?_
  refine g_iconst (v := (0 : Int32)) hF rfl dX9_margin_1 ?_
  refine g_put_i hF rfl rfl fl_RX9_59 q0 dX9_margin_2 ?_
  refine g_aload_n hF 0 rfl rfl dX9_margin_5 ?_
  refine g_iload_n hF 1 rfl rfl dX9_margin_6 ?_
  obtain ⟨x14, h14, h⟩ := gbnd h
  refine g_callV hF my_X9_noName kw_1372 kw_1374 kw_94 gC_9.1 (by decide) q0 (c_X9_noName (d := d - 1) (by omega) q0 h14) (by omega) (Nat.zero_le _) (Nat.zero_le _) rfl rfl (Nat.le_of_ble_eq_true rfl) dX9_margin_7 (g_sameS ?_)
  refine g_if_eq (tgt := 15) hF dX9_margin_10 (by decide) (fun c15 => ?_) (fun c15 => ?_)
  · replace h := gif_t c15 h
    refine g_aload_n hF 0 rfl rfl dX9_margin_15 ?_
    obtain ⟨x16, h16, h⟩ := gbnd h
    refine g_callV hF my_X9_layAll kw_1400 kw_1402 kw_98 gC_9.1 (by decide) q0 (c_X9_layAll (d := d - 1) (by omega) q0 h16) (by omega) (Nat.zero_le _) (Nat.zero_le _) rfl rfl (Nat.le_of_ble_eq_true rfl) dX9_margin_16 (g_sameN ?_)
    refine g_aload_n hF 0 rfl rfl dX9_margin_19 ?_
    obtain ⟨b17, h17, h⟩ := gbnd h
    obtain ⟨g17, l17, q_b17⟩ := ldr_sp h17
    refine g_get_r hF g17 fl_RX9_44 q0 dX9_margin_20 ?_
    refine g_iload_n hF 1 rfl rfl dX9_margin_23 ?_
    obtain ⟨v18, h18, h⟩ := gbnd h
    obtain ⟨i18h, e18v⟩ := ald_sp q_b17 h18
    refine g_iald hF q_b17 i18h dX9_margin_24 ?_
    rw [← e18v]
    refine g_istore_n (ls' := [(2, .int v18), (0, .ref a0), (1, .int i1)]) hF rfl (by rw [hn]; decide) rfl dX9_margin_25 ?_
    refine g_iconst (v := (0 : Int32)) hF rfl dX9_margin_26 ?_
    refine g_istore_n (ls' := [(3, .int (0 : Int32)), (2, .int v18), (0, .ref a0), (1, .int i1)]) hF rfl (by rw [hn]; decide) rfl dX9_margin_27 ?_
    refine g_iload_n hF 1 rfl rfl dX9_margin_28 ?_
    refine g_iconst (v := (-1 : Int32)) hF rfl dX9_margin_29 ?_
    refine g_icmp_ne (tgt := 35) hF dX9_margin_30 (by decide) (fun c19 => ?_) (fun c19 => ?_)
    · replace h := gif_t c19 h
      refine g_iconst (v := (0 : Int32)) hF rfl dX9_margin_35 ?_
      refine g_istore (ls' := [(4, .int (0 : Int32)), (3, .int (0 : Int32)), (2, .int v18), (0, .ref a0), (1, .int i1)]) hF (by rw [hn]; decide) rfl dX9_margin_36 ?_
      obtain ⟨x20, h20, h⟩ := gbnd h
      refine gG_sub [3, 4, 2, 1, 0] rfl (t_X9_margin_L38 hF hn hd q0 h20 ?_)
      refine g_aload_n hF 0 rfl rfl dX9_margin_94 ?_
      obtain ⟨b21, h21, h⟩ := gbnd h
      obtain ⟨g21, l21, q_b21⟩ := ldr_sp h21
      refine g_get_r hF g21 fl_RX9_47 q0 dX9_margin_95 ?_
      refine g_iload_n hF 2 rfl rfl dX9_margin_98 ?_
      obtain ⟨b22, h22, h⟩ := gbnd h
      obtain ⟨i22h, g22, l22, q_b22⟩ := aldr_sp q_b21 h22
      refine g_aald2 hF q_b21 i22h g22 dX9_margin_99 ?_
      refine g_iload_n hF 1 rfl rfl dX9_margin_100 ?_
      obtain ⟨v23, h23, h⟩ := gbnd h
      obtain ⟨i23h, e23v⟩ := ald_sp q_b22 h23
      refine g_iald hF q_b22 i23h dX9_margin_101 ?_
      rw [← e23v]
      refine g_iload_n hF 3 rfl rfl dX9_margin_102 ?_
      refine g_isub hF dX9_margin_103 ?_
      cases h
      exact g_ret_i hF rfl rfl dX9_margin_104 hR (Nat.zero_le _) (Nat.zero_le _)
    · replace h := gif_n c19 h
      refine g_iconst (v := (-1 : Int32)) hF rfl dX9_margin_33 ?_
      cases h
      exact g_ret_i hF rfl rfl dX9_margin_34 hR (Nat.zero_le _) (Nat.zero_le _)
  · replace h := gif_f c15 h
    refine g_iconst (v := (0 : Int32)) hF rfl dX9_margin_13 ?_
    cases h
    exact g_ret_i hF rfl rfl dX9_margin_14 hR (Nat.zero_le _) (Nat.zero_le _)
theorem c_X9_margin {d : Nat} {T : gT} {M : gM} {m_a0 : Nat} {a0 : Nat} {i1 : Int32} {r : Int32 × gM} (hd : 7 ≤ d) (q0 : T[a0]? = some (9, m_a0)) (h : f_X9_margin T M a0 i1 = some (r)) : gRet d yX9_margin cX9_margin 5 (some .int) 0 0 [.ref a0, .int i1] T M (gSame T (some (.int r.1)) r.2) := by
  refine gRet_of (own := RX9) (by decide) rfl (Nat.le_of_ble_eq_true rfl) (fun Z ad0 hn h0 hF => ?_)
  exact t_X9_margin hF hn hd q0 h ⟨rfl, rfl, rfl, rfl⟩
theorem t_X9_binding {Z : gZ} {d mc ms : Nat} {Acc : Option Value → (Nat → Nat) → gT → gM → Prop} {AccX : Nat → (Nat → Nat) → gT → gM → Prop} {ad : Nat → Nat} {T : gT} {M : gM} {m_a0 : Nat} {a0 : Nat} {i1 : Int32} {i2 : Int32} {o : Int32 × gM} (hF : gFix Z cX9_binding RX9 "binding" (some .int) d mc ms Acc AccX) (hn : Z.2.2.2.2.2.1 = 3) (hd : 8 ≤ d) (q0 : T[a0]? = some (9, m_a0)) (h : f_X9_binding T M a0 i1 i2 = some o) (hR : Acc (some (.int o.1)) ad T o.2) : gG Z ad T M 0 0 0 [(0, .ref a0), (1, .int i1), (2, .int i2)] [] := by
  unfold f_X9_binding at h
  refine g_aload_n hF 0 rfl rfl dX9_binding_0 ?_
  refine g_iconst (v := (0 : Int32)) hF rfl dX9_binding_1 ?_
  refine g_put_i hF rfl rfl fl_RX9_59 q0 dX9_binding_2 ?_
  refine g_aload_n hF 0 rfl rfl dX9_binding_5 ?_
  refine g_iload_n hF 1 rfl rfl dX9_binding_6 ?_
  refine g_iload_n hF 2 rfl rfl dX9_binding_7 ?_
  obtain ⟨x1, h1, h⟩ := gbnd h
  refine g_callV hF my_X9_isMissing kw_1396 kw_1398 kw_97 gC_9.1 (by decide) q0 (c_X9_isMissing (d := d - 1) (by omega) q0 h1) (by omega) (Nat.zero_le _) (Nat.zero_le _) rfl rfl (Nat.le_of_ble_eq_true rfl) dX9_binding_8 (g_sameS ?_)
  refine g_if_eq (tgt := 18) hF dX9_binding_11 (by decide) (fun c2 => ?_) (fun c2 => ?_)
  · replace h := gif_t c2 h
    refine g_aload_n hF 0 rfl rfl dX9_binding_18 ?_
    obtain ⟨b3, h3, h⟩ := gbnd h
    obtain ⟨g3, l3, q_b3⟩ := ldr_sp h3
    refine g_get_r hF g3 fl_RX9_50 q0 dX9_binding_19 ?_
    refine g_iload_n hF 1 rfl rfl dX9_binding_22 ?_
    obtain ⟨b4, h4, h⟩ := gbnd h
    obtain ⟨i4h, g4, l4, q_b4⟩ := aldr_sp q_b3 h4
    refine g_aald2 hF q_b3 i4h g4 dX9_binding_23 ?_
    refine g_iload_n hF 2 rfl rfl dX9_binding_24 ?_
    obtain ⟨v5, h5, h⟩ := gbnd h
    obtain ⟨i5h, e5v⟩ := ald_sp q_b4 h5
    refine g_iald hF q_b4 i5h dX9_binding_25 ?_
    rw [← e5v]
    cases h
    exact g_ret_i hF rfl rfl dX9_binding_26 hR (Nat.zero_le _) (Nat.zero_le _)
  · replace h := gif_f c2 h
    refine g_iconst (v := (0 : Int32)) hF rfl dX9_binding_14 ?_
    refine g_goto (tgt := 26) hF dX9_binding_15 (by decide) ?_
    cases h
    exact g_ret_i hF rfl rfl dX9_binding_26 hR (Nat.zero_le _) (Nat.zero_le _)
theorem c_X9_binding {d : Nat} {T : gT} {M : gM} {m_a0 : Nat} {a0 : Nat} {i1 : Int32} {i2 : Int32} {r : Int32 × gM} (hd : 8 ≤ d) (q0 : T[a0]? = some (9, m_a0)) (h : f_X9_binding T M a0 i1 i2 = some (r)) : gRet d yX9_binding cX9_binding 3 (some .int) 0 0 [.ref a0, .int i1, .int i2] T M (gSame T (some (.int r.1)) r.2) := by
  refine gRet_of (own := RX9) (by decide) rfl (Nat.le_of_ble_eq_true rfl) (fun Z ad0 hn h0 hF => ?_)
  exact t_X9_binding hF hn hd q0 h ⟨rfl, rfl, rfl, rfl⟩
theorem t_X9_minority_64 {Z : gZ} {d mc ms : Nat} {Acc : Option Value → (Nat → Nat) → gT → gM → Prop} {AccX : Nat → (Nat → Nat) → gT → gM → Prop} {ad : Nat → Nat} {T : gT} {M : gM} {m_a0 : Nat} {a0 : Nat} {i1 : Int32} {i3 : Int32} {k0 : Int32} {k1 : Int32} {o : (Int32) ⊕ (Int32 × Int32)} (hF : gFix Z cX9_minority RX9 "minority" (some .int) d mc ms Acc AccX) (hn : Z.2.2.2.2.2.1 = 4) (hd : 7 ≤ d) (q0 : T[a0]? = some (9, m_a0)) (h : f_X9_minority_64 T M a0 i1 i3 k0 k1 = some o) (hE : ∀ e9, o = .inl e9 → gG Z ad T M 0 0 72 [(2, .int e9)] []) (hN : ∀ n9, o = .inr n9 → gG Z ad T M 0 0 23 [(0, .ref a0), (1, .int i1), (2, .int n9.1), (3, .int n9.2)] []) : gG Z ad T M 0 0 64 [(0, .ref a0), (1, .int i1), (3, .int i3)] [.int k1, .int k0] := by
  unfold f_X9_minority_64 at h
  refine g_iadd hF dX9_minority_64 ?_
  refine g_istore_n (ls' := [(2, .int (k0 + k1)), (0, .ref a0), (1, .int i1), (3, .int i3)]) hF rfl (by rw [hn]; decide) rfl dX9_minority_65 ?_
  refine g_iinc (n := 1) (v := (i3 + (1 : Int32))) (ls' := [(3, .int (i3 + (1 : Int32))), (2, .int (k0 + k1)), (0, .ref a0), (1, .int i1)]) hF 3 rfl rfl (by rw [hn]; decide) rfl dX9_minority_66 ?_
  refine g_goto (tgt := 23) hF dX9_minority_69 (by decide) ?_
  exact gG_sub [2, 3, 1, 0] rfl (hN _ (Option.some.inj h).symm)
theorem t_X9_minority_63 {Z : gZ} {d mc ms : Nat} {Acc : Option Value → (Nat → Nat) → gT → gM → Prop} {AccX : Nat → (Nat → Nat) → gT → gM → Prop} {ad : Nat → Nat} {T : gT} {M : gM} {m_a0 : Nat} {a0 : Nat} {i1 : Int32} {i3 : Int32} {k0 : Int32} {o : (Int32) ⊕ (Int32 × Int32)} (hF : gFix Z cX9_minority RX9 "minority" (some .int) d mc ms Acc AccX) (hn : Z.2.2.2.2.2.1 = 4) (hd : 7 ≤ d) (q0 : T[a0]? = some (9, m_a0)) (h : f_X9_minority_63 T M a0 i1 i3 k0 = some o) (hE : ∀ e9, o = .inl e9 → gG Z ad T M 0 0 72 [(2, .int e9)] []) (hN : ∀ n9, o = .inr n9 → gG Z ad T M 0 0 23 [(0, .ref a0), (1, .int i1), (2, .int n9.1), (3, .int n9.2)] []) : gG Z ad T M 0 0 63 [(0, .ref a0), (1, .int i1), (3, .int i3)] [.int k0] := by
  unfold f_X9_minority_63 at h
  refine g_iconst (v := (0 : Int32)) hF rfl dX9_minority_63 ?_
  exact gG_sub [0, 1, 2] rfl (t_X9_minority_64 hF hn hd q0 h hE hN)
theorem t_X9_minority_B23 {Z : gZ} {d mc ms : Nat} {Acc : Option Value → (Nat → Nat) → gT → gM → Prop} {AccX : Nat → (Nat → Nat) → gT → gM → Prop} {ad : Nat → Nat} {T : gT} {M : gM} {m_a0 : Nat} {a0 : Nat} {i1 : Int32} {i2 : Int32} {i3 : Int32} {o : (Int32) ⊕ (Int32 × Int32)} (hF : gFix Z cX9_minority RX9 "minority" (some .int) d mc ms Acc AccX) (hn : Z.2.2.2.2.2.1 = 4) (hd : 7 ≤ d) (q0 : T[a0]? = some (9, m_a0)) (h : f_X9_minority_B23 T M a0 i1 i2 i3 = some o) (hE : ∀ e9, o = .inl e9 → gG Z ad T M 0 0 72 [(2, .int e9)] []) (hN : ∀ n9, o = .inr n9 → gG Z ad T M 0 0 23 [(0, .ref a0), (1, .int i1), (2, .int n9.1), (3, .int n9.2)] []) : gG Z ad T M 0 0 23 [(0, .ref a0), (1, .int i1), (2, .int i2), (3, .int i3)] [] := by
  unfold f_X9_minority_B23 at h
  refine g_iload_n hF 3 rfl rfl dX9_minority_23 ?_
  refine g_aload_n hF 0 rfl rfl dX9_minority_24 ?_
  obtain ⟨b1, h1, h⟩ := gbnd h
  obtain ⟨g1, l1, q_b1⟩ := ldr_sp h1
  refine g_get_r hF g1 fl_RX9_17 q0 dX9_minority_25 ?_
  refine g_iconst (v := (1 : Int32)) hF rfl dX9_minority_28 ?_
  obtain ⟨v2, h2, h⟩ := gbnd h
  obtain ⟨i2h, e2v⟩ := ald_sp q_b1 h2
  refine g_iald hF q_b1 i2h dX9_minority_29 ?_
  rw [← e2v]
  refine g_icmp_ge (tgt := 72) hF dX9_minority_30 (by decide) (fun c3 => ?_) (fun c3 => ?_)
  · replace h := gif_t c3 h
    exact gG_sub [2] rfl (hE _ (Option.some.inj h).symm)
  · replace h := gif_f c3 h
    refine g_iload_n hF 2 rfl rfl dX9_minority_33 ?_
    refine g_aload_n hF 0 rfl rfl dX9_minority_34 ?_
    refine g_iload_n hF 3 rfl rfl dX9_minority_35 ?_
    obtain ⟨x4, h4, h⟩ := gbnd h
    refine g_callV hF my_X9_isLoaded kw_1343 kw_1345 kw_90 gC_9.1 (by decide) q0 (c_X9_isLoaded (d := d - 1) (by omega) q0 h4) (by omega) (Nat.zero_le _) (Nat.zero_le _) rfl rfl (Nat.le_of_ble_eq_true rfl) dX9_minority_36 (g_sameS ?_)
    refine g_if_eq (tgt := 63) hF dX9_minority_39 (by decide) (fun c5 => ?_) (fun c5 => ?_)
    · replace h := gif_t c5 h
      exact gG_sub [0, 1, 3] rfl (t_X9_minority_63 hF hn hd q0 h hE hN)
    · replace h := gif_f c5 h
      refine g_aload_n hF 0 rfl rfl dX9_minority_42 ?_
      obtain ⟨b6, h6, h⟩ := gbnd h
      obtain ⟨g6, l6, q_b6⟩ := ldr_sp h6
      refine g_get_r hF g6 fl_RX9_50 q0 dX9_minority_43 ?_
      refine g_iload_n hF 3 rfl rfl dX9_minority_46 ?_
      obtain ⟨b7, h7, h⟩ := gbnd h
      obtain ⟨i7h, g7, l7, q_b7⟩ := aldr_sp q_b6 h7
      refine g_aald2 hF q_b6 i7h g7 dX9_minority_47 ?_
      refine g_iload_n hF 1 rfl rfl dX9_minority_48 ?_
      obtain ⟨v8, h8, h⟩ := gbnd h
      obtain ⟨i8h, e8v⟩ := ald_sp q_b7 h8
      refine g_iald hF q_b7 i8h dX9_minority_49 ?_
      rw [← e8v]
      refine g_aload_n hF 0 rfl rfl dX9_minority_50 ?_
      obtain ⟨b9, h9, h⟩ := gbnd h
      obtain ⟨g9, l9, q_b9⟩ := ldr_sp h9
      refine g_get_r hF g9 fl_RX9_44 q0 dX9_minority_51 ?_
      refine g_iload_n hF 1 rfl rfl dX9_minority_54 ?_
      obtain ⟨v10, h10, h⟩ := gbnd h
      obtain ⟨i10h, e10v⟩ := ald_sp q_b9 h10
      refine g_iald hF q_b9 i10h dX9_minority_55 ?_
      rw [← e10v]
      refine g_icmp_eq (tgt := 63) hF dX9_minority_56 (by decide) (fun c11 => ?_) (fun c11 => ?_)
      · replace h := gif_t c11 h
        exact gG_sub [0, 1, 3] rfl (t_X9_minority_63 hF hn hd q0 h hE hN)
      · replace h := gif_f c11 h
        refine g_iconst (v := (1 : Int32)) hF rfl dX9_minority_59 ?_
        refine g_goto (tgt := 64) hF dX9_minority_60 (by decide) ?_
        exact gG_sub [0, 1, 3] rfl (t_X9_minority_64 hF hn hd q0 h hE hN)
theorem t_X9_minority_L23 {Z : gZ} {d mc ms : Nat} {Acc : Option Value → (Nat → Nat) → gT → gM → Prop} {AccX : Nat → (Nat → Nat) → gT → gM → Prop} {ad : Nat → Nat} {T : gT} {M : gM} {m_a0 : Nat} {a0 : Nat} {i1 : Int32} {i2 : Int32} {i3 : Int32} {o : Int32} (hF : gFix Z cX9_minority RX9 "minority" (some .int) d mc ms Acc AccX) (hn : Z.2.2.2.2.2.1 = 4) (hd : 7 ≤ d) (q0 : T[a0]? = some (9, m_a0)) (h : gloop (fun x => f_X9_minority_B23 T M a0 i1 x.1 x.2) gFU (i2, i3) = some o) (hE : gG Z ad T M 0 0 72 [(2, .int o)] []) : gG Z ad T M 0 0 23 [(0, .ref a0), (1, .int i1), (2, .int i2), (3, .int i3)] [] := by
  refine gloop_ind (P := fun x0 : Int32 × Int32 => gG Z ad T M 0 0 23 [(0, .ref a0), (1, .int i1), (2, .int x0.1), (3, .int x0.2)] []) (e := o) (fun x0 y hy hl hr => ?_) gFU (i2, i3) h
  exact t_X9_minority_B23 hF hn hd q0 hy (fun e9 q9 => by rw [hl _ q9]; exact hE) (fun n9 q9 => hr n9 q9)
theorem t_X9_minority {Z : gZ} {d mc ms : Nat} {Acc : Option Value → (Nat → Nat) → gT → gM → Prop} {AccX : Nat → (Nat → Nat) → gT → gM → Prop} {ad : Nat → Nat} {T : gT} {M : gM} {m_a0 : Nat} {a0 : Nat} {i1 : Int32} {o : Int32 × gM} (hF : gFix Z cX9_minority RX9 "minority" (some .int) d mc ms Acc AccX) (hn : Z.2.2.2.2.2.1 = 4) (hd : 7 ≤ d) (q0 : T[a0]? = some (9, m_a0)) (h : f_X9_minority T M a0 i1 = some o) (hR : Acc (some (.int o.1)) ad T o.2) : gG Z ad T M 0 0 0 [(0, .ref a0), (1, .int i1)] [] := by
  unfold f_X9_minority at h
  refine g_aload_n hF 0 rfl rfl dX9_minority_0 ?_
  refine g_iconst (v := (0 : Int32)) hF rfl dX9_minority_1 ?_
  refine g_put_i hF rfl rfl fl_RX9_59 q0 dX9_minority_2 ?_
  refine g_aload_n hF 0 rfl rfl dX9_minority_5 ?_
  refine g_iload_n hF 1 rfl rfl dX9_minority_6 ?_
  obtain ⟨x12, h12, h⟩ := gbnd h
  refine g_callV hF my_X9_noName kw_1372 kw_1374 kw_94 gC_9.1 (by decide) q0 (c_X9_noName (d := d - 1) (by omega) q0 h12) (by omega) (Nat.zero_le _) (Nat.zero_le _) rfl rfl (Nat.le_of_ble_eq_true rfl) dX9_minority_7 (g_sameS ?_)
  refine g_if_eq (tgt := 15) hF dX9_minority_10 (by decide) (fun c13 => ?_) (fun c13 => ?_)
  · replace h := gif_t c13 h
    refine g_aload_n hF 0 rfl rfl dX9_minority_15 ?_
    obtain ⟨x14, h14, h⟩ := gbnd h
    refine g_callV hF my_X9_layAll kw_1400 kw_1402 kw_98 gC_9.1 (by decide) q0 (c_X9_layAll (d := d - 1) (by omega) q0 h14) (by omega) (Nat.zero_le _) (Nat.zero_le _) rfl rfl (Nat.le_of_ble_eq_true rfl) dX9_minority_16 (g_sameN ?_)
    refine g_iconst (v := (0 : Int32)) hF rfl dX9_minority_19 ?_
    refine g_istore_n (ls' := [(2, .int (0 : Int32)), (0, .ref a0), (1, .int i1)]) hF rfl (by rw [hn]; decide) rfl dX9_minority_20 ?_
    refine g_iconst (v := (0 : Int32)) hF rfl dX9_minority_21 ?_
    refine g_istore_n (ls' := [(3, .int (0 : Int32)), (2, .int (0 : Int32)), (0, .ref a0), (1, .int i1)]) hF rfl (by rw [hn]; decide) rfl dX9_minority_22 ?_
    obtain ⟨x15, h15, h⟩ := gbnd h
    refine gG_sub [2, 3, 1, 0] rfl (t_X9_minority_L23 hF hn hd q0 h15 ?_)
    refine g_iload_n hF 0 rfl rfl dX9_minority_72 ?_
    cases h
    exact g_ret_i hF rfl rfl dX9_minority_73 hR (Nat.zero_le _) (Nat.zero_le _)
  · replace h := gif_f c13 h
    refine g_iconst (v := (0 : Int32)) hF rfl dX9_minority_13 ?_
    cases h
    exact g_ret_i hF rfl rfl dX9_minority_14 hR (Nat.zero_le _) (Nat.zero_le _)
theorem c_X9_minority {d : Nat} {T : gT} {M : gM} {m_a0 : Nat} {a0 : Nat} {i1 : Int32} {r : Int32 × gM} (hd : 7 ≤ d) (q0 : T[a0]? = some (9, m_a0)) (h : f_X9_minority T M a0 i1 = some (r)) : gRet d yX9_minority cX9_minority 4 (some .int) 0 0 [.ref a0, .int i1] T M (gSame T (some (.int r.1)) r.2) := by
  refine gRet_of (own := RX9) (by decide) rfl (Nat.le_of_ble_eq_true rfl) (fun Z ad0 hn h0 hF => ?_)
  exact t_X9_minority hF hn hd q0 h ⟨rfl, rfl, rfl, rfl⟩
