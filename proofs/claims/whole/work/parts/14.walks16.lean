theorem t_X9_readOffer_67 {Z : gZ} {d mc ms : Nat} {Acc : Option Value → (Nat → Nat) → gT → gM → Prop} {AccX : Nat → (Nat → Nat) → gT → gM → Prop} {ad : Nat → Nat} {T : gT} {M : gM} {m_a0 : Nat} {a0 : Nat} {i3 : Int32} {o : gM} (hF : gFix Z cX9_readOffer RX9 "readOffer" none d mc ms Acc AccX) (hn : Z.2.2.2.2.2.1 = 4) (hd : 5 ≤ d) (q0 : T[a0]? = some (9, m_a0)) (h : f_X9_readOffer_67 T M a0 i3 = some o) (hR : Acc none ad T o) : gG Z ad T M 0 0 67 [(0, .ref a0), (3, .int i3)] [] := by
  unfold f_X9_readOffer_67 at h
  refine g_aload_n hF 0 rfl rfl dX9_readOffer_67 ?_
  obtain ⟨x1, h1, h⟩ := gbnd h
  refine g_callV hF my_X9_isGood kw_1195 kw_1197 kw_66 gC_9.1 (by decide) q0 (c_X9_isGood (d := d - 1) (by omega) q0 h1) (by omega) (Nat.zero_le _) (Nat.zero_le _) rfl rfl (Nat.le_of_ble_eq_true rfl) dX9_readOffer_68 (g_sameS ?_)
  refine g_if_ne (tgt := 75) hF dX9_readOffer_71 (by decide) (fun c2 => ?_) (fun c2 => ?_)
  · replace h := gif_t c2 h
    refine g_aload_n hF 0 rfl rfl dX9_readOffer_75 ?_
    refine g_ldcS (tx := "to") (a := gSB + 8) hF (by decide +kernel) (Nat.le_add_right _ _) dX9_readOffer_76 ?_
    obtain ⟨x3, h3, h⟩ := gbnd h
    refine g_callV hF my_X9_takeWord kw_1191 kw_1193 kw_65 gC_9.1 (by decide) q0 (c_X9_takeWord (d := d - 1) (by omega) q0 h3) (by omega) (Nat.zero_le _) (Nat.zero_le _) rfl rfl (Nat.le_of_ble_eq_true rfl) dX9_readOffer_78 (g_sameS ?_)
    refine g_if_eq (tgt := 110) hF dX9_readOffer_81 (by decide) (fun c4 => ?_) (fun c4 => ?_)
    · replace h := gif_t c4 h
      refine g_aload_n hF 0 rfl rfl dX9_readOffer_110 ?_
      obtain ⟨b5, h5, h⟩ := gbnd h
      obtain ⟨g5, l5, q_b5⟩ := ldr_sp h5
      refine g_get_r hF g5 fl_RX9_20 q0 dX9_readOffer_111 ?_
      refine g_iload_n hF 1 rfl rfl dX9_readOffer_114 ?_
      refine g_aload_n hF 0 rfl rfl dX9_readOffer_115 ?_
      refine g_iconst (v := (0 : Int32)) hF rfl dX9_readOffer_116 ?_
      refine g_sipush (v := (9999 : Int32)) hF rfl dX9_readOffer_117 ?_
      obtain ⟨x6, h6, h⟩ := gbnd h
      refine g_callV hF my_X9_number kw_1247 kw_1249 kw_76 gC_9.1 (by decide) q0 (c_X9_number (d := d - 1) (by omega) q0 h6) (by omega) (Nat.zero_le _) (Nat.zero_le _) rfl rfl (Nat.le_of_ble_eq_true rfl) dX9_readOffer_120 (g_sameS ?_)
      obtain ⟨M7, h7, h⟩ := gbnd h
      obtain ⟨i7h, e7v⟩ := ast_sp q_b5 h7
      refine g_iast hF q_b5 i7h dX9_readOffer_123 ?_
      rw [← e7v]
      cases h
      exact g_ret_v hF rfl dX9_readOffer_124 hR (Nat.zero_le _) (Nat.zero_le _)
    · replace h := gif_f c4 h
      refine g_aload_n hF 0 rfl rfl dX9_readOffer_84 ?_
      obtain ⟨b8, h8, h⟩ := gbnd h
      obtain ⟨g8, l8, q_b8⟩ := ldr_sp h8
      refine g_get_r hF g8 fl_RX9_20 q0 dX9_readOffer_85 ?_
      refine g_iload_n hF 1 rfl rfl dX9_readOffer_88 ?_
      refine g_bipush (v := (-2 : Int32)) hF rfl dX9_readOffer_89 ?_
      refine g_aload_n hF 0 rfl rfl dX9_readOffer_91 ?_
      refine g_aload_n hF 0 rfl rfl dX9_readOffer_92 ?_
      obtain ⟨b9, h9, h⟩ := gbnd h
      obtain ⟨g9, l9, q_b9⟩ := ldr_sp h9
      refine g_get_r hF g9 fl_RX9_32 q0 dX9_readOffer_93 ?_
      refine g_aload_n hF 0 rfl rfl dX9_readOffer_96 ?_
      obtain ⟨b10, h10, h⟩ := gbnd h
      obtain ⟨g10, l10, q_b10⟩ := ldr_sp h10
      refine g_get_r hF g10 fl_RX9_20 q0 dX9_readOffer_97 ?_
      refine g_iconst (v := (2 : Int32)) hF rfl dX9_readOffer_100 ?_
      obtain ⟨v11, h11, h⟩ := gbnd h
      obtain ⟨i11h, e11v⟩ := ald_sp q_b10 h11
      refine g_iald hF q_b10 i11h dX9_readOffer_101 ?_
      rw [← e11v]
      obtain ⟨x12, h12, h⟩ := gbnd h
      refine g_callV hF my_X9_readKnown kw_1264 kw_1266 kw_78 gC_9.1 (by decide) q0 (c_X9_readKnown (d := d - 1) (by omega) q0 q_b9 h12) (by omega) (Nat.zero_le _) (Nat.zero_le _) rfl rfl (Nat.le_of_ble_eq_true rfl) dX9_readOffer_102 (g_sameS ?_)
      refine g_isub hF dX9_readOffer_105 ?_
      obtain ⟨M13, h13, h⟩ := gbnd h
      obtain ⟨i13h, e13v⟩ := ast_sp q_b8 h13
      refine g_iast hF q_b8 i13h dX9_readOffer_106 ?_
      rw [← e13v]
      refine g_goto (tgt := 124) hF dX9_readOffer_107 (by decide) ?_
      cases h
      exact g_ret_v hF rfl dX9_readOffer_124 hR (Nat.zero_le _) (Nat.zero_le _)
  · replace h := gif_n c2 h
    cases h
    exact g_ret_v hF rfl dX9_readOffer_74 hR (Nat.zero_le _) (Nat.zero_le _)
theorem t_X9_readOffer {Z : gZ} {d mc ms : Nat} {Acc : Option Value → (Nat → Nat) → gT → gM → Prop} {AccX : Nat → (Nat → Nat) → gT → gM → Prop} {ad : Nat → Nat} {T : gT} {M : gM} {m_a0 : Nat} {a0 : Nat} {o : gM} (hF : gFix Z cX9_readOffer RX9 "readOffer" none d mc ms Acc AccX) (hn : Z.2.2.2.2.2.1 = 4) (hd : 5 ≤ d) (q0 : T[a0]? = some (9, m_a0)) (h : f_X9_readOffer T M a0 = some o) (hR : Acc none ad T o) : gG Z ad T M 0 0 0 [(0, .ref a0)] [] := by
  unfold f_X9_readOffer at h
  refine g_aload_n hF 0 rfl rfl dX9_readOffer_0 ?_
  refine g_aload_n hF 0 rfl rfl dX9_readOffer_1 ?_
  obtain ⟨b14, h14, h⟩ := gbnd h
  obtain ⟨g14, l14, q_b14⟩ := ldr_sp h14
  refine g_get_r hF g14 fl_RX9_28 q0 dX9_readOffer_2 ?_
  refine g_aload_n hF 0 rfl rfl dX9_readOffer_5 ?_
  obtain ⟨b15, h15, h⟩ := gbnd h
  obtain ⟨g15, l15, q_b15⟩ := ldr_sp h15
  refine g_get_r hF g15 fl_RX9_20 q0 dX9_readOffer_6 ?_
  refine g_iconst (v := (1 : Int32)) hF rfl dX9_readOffer_9 ?_
  obtain ⟨v16, h16, h⟩ := gbnd h
  obtain ⟨i16h, e16v⟩ := ald_sp q_b15 h16
  refine g_iald hF q_b15 i16h dX9_readOffer_10 ?_
  rw [← e16v]
  obtain ⟨x17, h17, h⟩ := gbnd h
  refine g_callV hF my_X9_readKnown kw_1264 kw_1266 kw_78 gC_9.1 (by decide) q0 (c_X9_readKnown (d := d - 1) (by omega) q0 q_b14 h17) (by omega) (Nat.zero_le _) (Nat.zero_le _) rfl rfl (Nat.le_of_ble_eq_true rfl) dX9_readOffer_11 (g_sameS ?_)
  refine g_istore_n (ls' := [(1, .int x17.1), (0, .ref a0)]) hF rfl (by rw [hn]; decide) rfl dX9_readOffer_14 ?_
  refine g_aload_n hF 1 rfl rfl dX9_readOffer_15 ?_
  refine g_aload_n hF 1 rfl rfl dX9_readOffer_16 ?_
  obtain ⟨b18, h18, h⟩ := gbnd h
  obtain ⟨g18, l18, q_b18⟩ := ldr_sp h18
  refine g_get_r hF g18 fl_RX9_32 q0 dX9_readOffer_17 ?_
  refine g_aload_n hF 1 rfl rfl dX9_readOffer_20 ?_
  obtain ⟨b19, h19, h⟩ := gbnd h
  obtain ⟨g19, l19, q_b19⟩ := ldr_sp h19
  refine g_get_r hF g19 fl_RX9_20 q0 dX9_readOffer_21 ?_
  refine g_iconst (v := (2 : Int32)) hF rfl dX9_readOffer_24 ?_
  obtain ⟨v20, h20, h⟩ := gbnd h
  obtain ⟨i20h, e20v⟩ := ald_sp q_b19 h20
  refine g_iald hF q_b19 i20h dX9_readOffer_25 ?_
  rw [← e20v]
  obtain ⟨x21, h21, h⟩ := gbnd h
  refine g_callV hF my_X9_readKnown kw_1264 kw_1266 kw_78 gC_9.1 (by decide) q0 (c_X9_readKnown (d := d - 1) (by omega) q0 q_b18 h21) (by omega) (Nat.zero_le _) (Nat.zero_le _) rfl rfl (Nat.le_of_ble_eq_true rfl) dX9_readOffer_26 (g_sameS ?_)
  refine g_istore_n (ls' := [(2, .int x21.1), (1, .int x17.1), (0, .ref a0)]) hF rfl (by rw [hn]; decide) rfl dX9_readOffer_29 ?_
  refine g_iload_n hF 1 rfl rfl dX9_readOffer_30 ?_
  obtain ⟨x22, h22, h⟩ := gbnd h
  refine g_callS hF my_X9_at kw_1244 kw_1245 (c_X9_at (d := d - 1) (by omega)  h22) (by omega) (Nat.zero_le _) (Nat.zero_le _) rfl rfl (Nat.le_of_ble_eq_true rfl) dX9_readOffer_31 (g_sameS ?_)
  refine g_bipush (v := (12 : Int32)) hF rfl dX9_readOffer_34 ?_
  refine g_iadd hF dX9_readOffer_36 ?_
  refine g_iload_n hF 0 rfl rfl dX9_readOffer_37 ?_
  refine g_iadd hF dX9_readOffer_38 ?_
  refine g_istore_n (ls' := [(3, .int ((x22 + (12 : Int32)) + x21.1)), (2, .int x21.1), (1, .int x17.1), (0, .ref a0)]) hF rfl (by rw [hn]; decide) rfl dX9_readOffer_39 ?_
  refine g_aload_n hF 3 rfl rfl dX9_readOffer_40 ?_
  obtain ⟨x23, h23, h⟩ := gbnd h
  refine g_callV hF my_X9_isGood kw_1195 kw_1197 kw_66 gC_9.1 (by decide) q0 (c_X9_isGood (d := d - 1) (by omega) q0 h23) (by omega) (Nat.zero_le _) (Nat.zero_le _) rfl rfl (Nat.le_of_ble_eq_true rfl) dX9_readOffer_41 (g_sameS ?_)
  refine g_if_eq (tgt := 67) hF dX9_readOffer_44 (by decide) (fun c24 => ?_) (fun c24 => ?_)
  · replace h := gif_t c24 h
    exact gG_sub [3, 0] rfl (t_X9_readOffer_67 hF hn hd q0 h hR)
  · replace h := gif_f c24 h
    refine g_aload_n hF 3 rfl rfl dX9_readOffer_47 ?_
    obtain ⟨b25, h25, h⟩ := gbnd h
    obtain ⟨g25, l25, q_b25⟩ := ldr_sp h25
    refine g_get_r hF g25 fl_RX9_20 q0 dX9_readOffer_48 ?_
    refine g_iload_n hF 0 rfl rfl dX9_readOffer_51 ?_
    obtain ⟨v26, h26, h⟩ := gbnd h
    obtain ⟨i26h, e26v⟩ := ald_sp q_b25 h26
    refine g_iald hF q_b25 i26h dX9_readOffer_52 ?_
    rw [← e26v]
    refine g_iconst (v := (-1 : Int32)) hF rfl dX9_readOffer_53 ?_
    refine g_icmp_eq (tgt := 67) hF dX9_readOffer_54 (by decide) (fun c27 => ?_) (fun c27 => ?_)
    · replace h := gif_t c27 h
      exact gG_sub [3, 0] rfl (t_X9_readOffer_67 hF hn hd q0 h hR)
    · replace h := gif_f c27 h
      refine g_aload_n hF 3 rfl rfl dX9_readOffer_57 ?_
      refine g_bipush (v := (-5 : Int32)) hF rfl dX9_readOffer_58 ?_
      refine g_aload_n hF 3 rfl rfl dX9_readOffer_60 ?_
      refine g_get_i hF fl_RX9_155 q0 dX9_readOffer_61 ?_
      obtain ⟨x28, h28, h⟩ := gbnd h
      refine g_callV hF my_X9_report kw_1209 kw_1211 kw_69 gC_9.1 (by decide) q0 (c_X9_report (d := d - 1) (by omega) q0 h28) (by omega) (Nat.zero_le _) (Nat.zero_le _) rfl rfl (Nat.le_of_ble_eq_true rfl) dX9_readOffer_64 (g_sameN ?_)
      exact gG_sub [3, 0] rfl (t_X9_readOffer_67 hF hn hd q0 h hR)
theorem c_X9_readOffer {d : Nat} {T : gT} {M : gM} {m_a0 : Nat} {a0 : Nat} {r : gM} (hd : 5 ≤ d) (q0 : T[a0]? = some (9, m_a0)) (h : f_X9_readOffer T M a0 = some (r)) : gRet d yX9_readOffer cX9_readOffer 4 none 0 0 [.ref a0] T M (gSame T none r) := by
  refine gRet_of (own := RX9) (by decide) rfl (Nat.le_of_ble_eq_true rfl) (fun Z ad0 hn h0 hF => ?_)
  exact t_X9_readOffer hF hn hd q0 h ⟨rfl, rfl, rfl, rfl⟩
theorem t_X9_prefers_B3 {Z : gZ} {d mc ms : Nat} {Acc : Option Value → (Nat → Nat) → gT → gM → Prop} {AccX : Nat → (Nat → Nat) → gT → gM → Prop} {ad : Nat → Nat} {T : gT} {M : gM} {m_a1 : Nat} {a1 : Nat} {i2 : Int32} {i3 : Int32} {i4 : Int32} {o : (Int32) ⊕ (Int32)} (hF : gFix Z cX9_prefers RX9 "prefers" (some .boolean) d mc ms Acc AccX) (hn : Z.2.2.2.2.2.1 = 5) (hd : 2 ≤ d) (q1 : T[a1]? = some (11, m_a1)) (h : f_X9_prefers_B3 T M a1 i2 i3 i4 = some o) (hR : ∀ r9, o = .inl r9 → Acc (some (.int r9)) ad T M) (hN : ∀ n9, o = .inr n9 → gG Z ad T M 0 0 3 [(1, .ref a1), (2, .int i2), (3, .int i3), (4, .int n9)] []) : gG Z ad T M 0 0 3 [(1, .ref a1), (2, .int i2), (3, .int i3), (4, .int i4)] [] := by
  unfold f_X9_prefers_B3 at h
  refine g_iload hF 3 rfl dX9_prefers_3 ?_
  refine g_aload_n hF 0 rfl rfl dX9_prefers_5 ?_
  refine g_iload_n hF 1 rfl rfl dX9_prefers_6 ?_
  obtain ⟨x1, h1, h⟩ := gbnd h
  refine g_callS hF my_X9_at kw_1244 kw_1245 (c_X9_at (d := d - 1) (by omega)  h1) (by omega) (Nat.zero_le _) (Nat.zero_le _) rfl rfl (Nat.le_of_ble_eq_true rfl) dX9_prefers_7 (g_sameS ?_)
  refine g_iconst (v := (3 : Int32)) hF rfl dX9_prefers_10 ?_
  refine g_iadd hF dX9_prefers_11 ?_
  obtain ⟨v2, h2, h⟩ := gbnd h
  obtain ⟨i2h, e2v⟩ := ald_sp q1 h2
  refine g_iald hF q1 i2h dX9_prefers_12 ?_
  rw [← e2v]
  refine g_icmp_ge (tgt := 39) hF dX9_prefers_13 (by decide) (fun c3 => ?_) (fun c3 => ?_)
  · replace h := gif_t c3 h
    refine g_iconst (v := (0 : Int32)) hF rfl dX9_prefers_39 ?_
    cases h
    exact g_ret_i hF rfl rfl dX9_prefers_40 (hR _ rfl) (Nat.zero_le _) (Nat.zero_le _)
  · replace h := gif_f c3 h
    refine g_aload_n hF 0 rfl rfl dX9_prefers_16 ?_
    refine g_iload_n hF 1 rfl rfl dX9_prefers_17 ?_
    obtain ⟨x4, h4, h⟩ := gbnd h
    refine g_callS hF my_X9_at kw_1244 kw_1245 (c_X9_at (d := d - 1) (by omega)  h4) (by omega) (Nat.zero_le _) (Nat.zero_le _) rfl rfl (Nat.le_of_ble_eq_true rfl) dX9_prefers_18 (g_sameS ?_)
    refine g_iconst (v := (4 : Int32)) hF rfl dX9_prefers_21 ?_
    refine g_iadd hF dX9_prefers_22 ?_
    refine g_iload hF 3 rfl dX9_prefers_23 ?_
    refine g_iadd hF dX9_prefers_25 ?_
    obtain ⟨v5, h5, h⟩ := gbnd h
    obtain ⟨i5h, e5v⟩ := ald_sp q1 h5
    refine g_iald hF q1 i5h dX9_prefers_26 ?_
    rw [← e5v]
    refine g_iload_n hF 2 rfl rfl dX9_prefers_27 ?_
    refine g_icmp_ne (tgt := 33) hF dX9_prefers_28 (by decide) (fun c6 => ?_) (fun c6 => ?_)
    · replace h := gif_t c6 h
      refine g_iinc (n := 1) (v := (i4 + (1 : Int32))) (ls' := [(4, .int (i4 + (1 : Int32))), (1, .ref a1), (2, .int i2), (3, .int i3)]) hF 3 rfl rfl (by rw [hn]; decide) rfl dX9_prefers_33 ?_
      refine g_goto (tgt := 3) hF dX9_prefers_36 (by decide) ?_
      exact gG_sub [1, 2, 3, 0] rfl (hN _ (Option.some.inj h).symm)
    · replace h := gif_n c6 h
      refine g_iconst (v := (1 : Int32)) hF rfl dX9_prefers_31 ?_
      cases h
      exact g_ret_i hF rfl rfl dX9_prefers_32 (hR _ rfl) (Nat.zero_le _) (Nat.zero_le _)
theorem t_X9_prefers_L3 {Z : gZ} {d mc ms : Nat} {Acc : Option Value → (Nat → Nat) → gT → gM → Prop} {AccX : Nat → (Nat → Nat) → gT → gM → Prop} {ad : Nat → Nat} {T : gT} {M : gM} {m_a1 : Nat} {a1 : Nat} {i2 : Int32} {i3 : Int32} {i4 : Int32} {o : Int32} (hF : gFix Z cX9_prefers RX9 "prefers" (some .boolean) d mc ms Acc AccX) (hn : Z.2.2.2.2.2.1 = 5) (hd : 2 ≤ d) (q1 : T[a1]? = some (11, m_a1)) (h : gloop (fun x => f_X9_prefers_B3 T M a1 i2 i3 x) gFU i4 = some o) (hR : Acc (some (.int o)) ad T M) : gG Z ad T M 0 0 3 [(1, .ref a1), (2, .int i2), (3, .int i3), (4, .int i4)] [] := by
  refine gloop_ind (P := fun x0 : Int32 => gG Z ad T M 0 0 3 [(1, .ref a1), (2, .int i2), (3, .int i3), (4, .int x0)] []) (e := o) (fun x0 y hy hl hr => ?_) gFU i4 h
  exact t_X9_prefers_B3 hF hn hd q1 hy (fun r9 q9 => by rw [hl _ q9]; exact hR) (fun n9 q9 => hr n9 q9)
theorem t_X9_prefers {Z : gZ} {d mc ms : Nat} {Acc : Option Value → (Nat → Nat) → gT → gM → Prop} {AccX : Nat → (Nat → Nat) → gT → gM → Prop} {ad : Nat → Nat} {T : gT} {M : gM} {m_a0 m_a1 : Nat} {a0 : Nat} {a1 : Nat} {i2 : Int32} {i3 : Int32} {o : Int32} (hF : gFix Z cX9_prefers RX9 "prefers" (some .boolean) d mc ms Acc AccX) (hn : Z.2.2.2.2.2.1 = 5) (hd : 2 ≤ d) (q0 : T[a0]? = some (9, m_a0)) (q1 : T[a1]? = some (11, m_a1)) (h : f_X9_prefers T M a0 a1 i2 i3 = some o) (hR : Acc (some (.int o)) ad T M) : gG Z ad T M 0 0 0 [(0, .ref a0), (1, .ref a1), (2, .int i2), (3, .int i3)] [] := by
  unfold f_X9_prefers at h
  refine g_iconst (v := (0 : Int32)) hF rfl dX9_prefers_0 ?_
  refine g_istore (ls' := [(4, .int (0 : Int32)), (0, .ref a0), (1, .ref a1), (2, .int i2), (3, .int i3)]) hF (by rw [hn]; decide) rfl dX9_prefers_1 ?_
  obtain ⟨x7, h7, h⟩ := gbnd h
  cases h
  exact gG_sub [2, 3, 4, 0] rfl (t_X9_prefers_L3 hF hn hd q1 h7 hR)
theorem c_X9_prefers {d : Nat} {T : gT} {M : gM} {m_a0 m_a1 : Nat} {a0 : Nat} {a1 : Nat} {i2 : Int32} {i3 : Int32} {r : Int32} (hd : 2 ≤ d) (q0 : T[a0]? = some (9, m_a0)) (q1 : T[a1]? = some (11, m_a1)) (h : f_X9_prefers T M a0 a1 i2 i3 = some (r)) : gRet d yX9_prefers cX9_prefers 5 (some .boolean) 0 0 [.ref a0, .ref a1, .int i2, .int i3] T M (gSame T (some (.int r)) M) := by
  refine gRet_of (own := RX9) (by decide) rfl (Nat.le_of_ble_eq_true rfl) (fun Z ad0 hn h0 hF => ?_)
  exact t_X9_prefers hF hn hd q0 q1 h ⟨rfl, rfl, rfl, rfl⟩
theorem t_X9_readPreference_65 {Z : gZ} {d mc ms : Nat} {Acc : Option Value → (Nat → Nat) → gT → gM → Prop} {AccX : Nat → (Nat → Nat) → gT → gM → Prop} {ad : Nat → Nat} {T : gT} {M : gM} {m_a0 : Nat} {a0 : Nat} {i1 : Int32} {i2 : Int32} {o : gM} (hF : gFix Z cX9_readPreference RX9 "readPreference" none d mc ms Acc AccX) (hn : Z.2.2.2.2.2.1 = 3) (hd : 5 ≤ d) (q0 : T[a0]? = some (9, m_a0)) (h : f_X9_readPreference_65 T M a0 i1 i2 = some o) (hR : Acc none ad T o) : gG Z ad T M 0 0 65 [(0, .ref a0), (1, .int i1), (2, .int i2)] [] := by
  unfold f_X9_readPreference_65 at h
  refine g_aload_n hF 0 rfl rfl dX9_readPreference_65 ?_
  obtain ⟨x1, h1, h⟩ := gbnd h
  refine g_callV hF my_X9_isGood kw_1195 kw_1197 kw_66 gC_9.1 (by decide) q0 (c_X9_isGood (d := d - 1) (by omega) q0 h1) (by omega) (Nat.zero_le _) (Nat.zero_le _) rfl rfl (Nat.le_of_ble_eq_true rfl) dX9_readPreference_66 (g_sameS ?_)
  refine g_if_ne (tgt := 73) hF dX9_readPreference_69 (by decide) (fun c2 => ?_) (fun c2 => ?_)
  · replace h := gif_t c2 h
    refine g_aload_n hF 0 rfl rfl dX9_readPreference_73 ?_
    obtain ⟨b3, h3, h⟩ := gbnd h
    obtain ⟨g3, l3, q_b3⟩ := ldr_sp h3
    refine g_get_r hF g3 fl_RX9_20 q0 dX9_readPreference_74 ?_
    refine g_iload_n hF 1 rfl rfl dX9_readPreference_77 ?_
    obtain ⟨x4, h4, h⟩ := gbnd h
    refine g_callS hF my_X9_at kw_1244 kw_1245 (c_X9_at (d := d - 1) (by omega)  h4) (by omega) (Nat.zero_le _) (Nat.zero_le _) rfl rfl (Nat.le_of_ble_eq_true rfl) dX9_readPreference_78 (g_sameS ?_)
    refine g_iconst (v := (4 : Int32)) hF rfl dX9_readPreference_81 ?_
    refine g_iadd hF dX9_readPreference_82 ?_
    refine g_aload_n hF 0 rfl rfl dX9_readPreference_83 ?_
    obtain ⟨b5, h5, h⟩ := gbnd h
    obtain ⟨g5, l5, q_b5⟩ := ldr_sp h5
    refine g_get_r hF g5 fl_RX9_20 q0 dX9_readPreference_84 ?_
    refine g_iload_n hF 1 rfl rfl dX9_readPreference_87 ?_
    obtain ⟨x6, h6, h⟩ := gbnd h
    refine g_callS hF my_X9_at kw_1244 kw_1245 (c_X9_at (d := d - 1) (by omega)  h6) (by omega) (Nat.zero_le _) (Nat.zero_le _) rfl rfl (Nat.le_of_ble_eq_true rfl) dX9_readPreference_88 (g_sameS ?_)
    refine g_iconst (v := (3 : Int32)) hF rfl dX9_readPreference_91 ?_
    refine g_iadd hF dX9_readPreference_92 ?_
    obtain ⟨v7, h7, h⟩ := gbnd h
    obtain ⟨i7h, e7v⟩ := ald_sp q_b5 h7
    refine g_iald hF q_b5 i7h dX9_readPreference_93 ?_
    rw [← e7v]
    refine g_iadd hF dX9_readPreference_94 ?_
    refine g_iload_n hF 2 rfl rfl dX9_readPreference_95 ?_
    obtain ⟨M8, h8, h⟩ := gbnd h
    obtain ⟨i8h, e8v⟩ := ast_sp q_b3 h8
    refine g_iast hF q_b3 i8h dX9_readPreference_96 ?_
    rw [← e8v]
    refine g_aload_n hF 0 rfl rfl dX9_readPreference_97 ?_
    obtain ⟨b9, h9, h⟩ := gbnd h
    obtain ⟨g9, l9, q_b9⟩ := ldr_sp h9
    refine g_get_r hF g9 fl_RX9_20 q0 dX9_readPreference_98 ?_
    refine g_iload_n hF 1 rfl rfl dX9_readPreference_101 ?_
    obtain ⟨x10, h10, h⟩ := gbnd h
    refine g_callS hF my_X9_at kw_1244 kw_1245 (c_X9_at (d := d - 1) (by omega)  h10) (by omega) (Nat.zero_le _) (Nat.zero_le _) rfl rfl (Nat.le_of_ble_eq_true rfl) dX9_readPreference_102 (g_sameS ?_)
    refine g_iconst (v := (3 : Int32)) hF rfl dX9_readPreference_105 ?_
    refine g_iadd hF dX9_readPreference_106 ?_
    refine g_dup2 hF rfl rfl dX9_readPreference_107 ?_
    obtain ⟨v11, h11, h⟩ := gbnd h
    obtain ⟨i11h, e11v⟩ := ald_sp q_b9 h11
    refine g_iald hF q_b9 i11h dX9_readPreference_108 ?_
    rw [← e11v]
    refine g_iconst (v := (1 : Int32)) hF rfl dX9_readPreference_109 ?_
    refine g_iadd hF dX9_readPreference_110 ?_
    obtain ⟨M12, h12, h⟩ := gbnd h
    obtain ⟨i12h, e12v⟩ := ast_sp q_b9 h12
    refine g_iast hF q_b9 i12h dX9_readPreference_111 ?_
    rw [← e12v]
    cases h
    exact g_ret_v hF rfl dX9_readPreference_112 hR (Nat.zero_le _) (Nat.zero_le _)
  · replace h := gif_n c2 h
    cases h
    exact g_ret_v hF rfl dX9_readPreference_72 hR (Nat.zero_le _) (Nat.zero_le _)
theorem t_X9_readPreference_55 {Z : gZ} {d mc ms : Nat} {Acc : Option Value → (Nat → Nat) → gT → gM → Prop} {AccX : Nat → (Nat → Nat) → gT → gM → Prop} {ad : Nat → Nat} {T : gT} {M : gM} {m_a0 : Nat} {a0 : Nat} {i1 : Int32} {i2 : Int32} {o : gM} (hF : gFix Z cX9_readPreference RX9 "readPreference" none d mc ms Acc AccX) (hn : Z.2.2.2.2.2.1 = 3) (hd : 5 ≤ d) (q0 : T[a0]? = some (9, m_a0)) (h : f_X9_readPreference_55 T M a0 i1 i2 = some o) (hR : Acc none ad T o) : gG Z ad T M 0 0 55 [(0, .ref a0), (1, .int i1), (2, .int i2)] [] := by
  unfold f_X9_readPreference_55 at h
  refine g_aload_n hF 0 rfl rfl dX9_readPreference_55 ?_
  refine g_bipush (v := (-5 : Int32)) hF rfl dX9_readPreference_56 ?_
  refine g_aload_n hF 0 rfl rfl dX9_readPreference_58 ?_
  refine g_get_i hF fl_RX9_155 q0 dX9_readPreference_59 ?_
  obtain ⟨x13, h13, h⟩ := gbnd h
  refine g_callV hF my_X9_report kw_1209 kw_1211 kw_69 gC_9.1 (by decide) q0 (c_X9_report (d := d - 1) (by omega) q0 h13) (by omega) (Nat.zero_le _) (Nat.zero_le _) rfl rfl (Nat.le_of_ble_eq_true rfl) dX9_readPreference_62 (g_sameN ?_)
  exact gG_sub [0, 1, 2] rfl (t_X9_readPreference_65 hF hn hd q0 h hR)
theorem t_X9_readPreference {Z : gZ} {d mc ms : Nat} {Acc : Option Value → (Nat → Nat) → gT → gM → Prop} {AccX : Nat → (Nat → Nat) → gT → gM → Prop} {ad : Nat → Nat} {T : gT} {M : gM} {m_a0 : Nat} {a0 : Nat} {o : gM} (hF : gFix Z cX9_readPreference RX9 "readPreference" none d mc ms Acc AccX) (hn : Z.2.2.2.2.2.1 = 3) (hd : 5 ≤ d) (q0 : T[a0]? = some (9, m_a0)) (h : f_X9_readPreference T M a0 = some o) (hR : Acc none ad T o) : gG Z ad T M 0 0 0 [(0, .ref a0)] [] := by
  unfold f_X9_readPreference at h
  refine g_aload_n hF 0 rfl rfl dX9_readPreference_0 ?_
  refine g_aload_n hF 0 rfl rfl dX9_readPreference_1 ?_
  obtain ⟨b14, h14, h⟩ := gbnd h
  obtain ⟨g14, l14, q_b14⟩ := ldr_sp h14
  refine g_get_r hF g14 fl_RX9_28 q0 dX9_readPreference_2 ?_
  refine g_aload_n hF 0 rfl rfl dX9_readPreference_5 ?_
  obtain ⟨b15, h15, h⟩ := gbnd h
  obtain ⟨g15, l15, q_b15⟩ := ldr_sp h15
  refine g_get_r hF g15 fl_RX9_20 q0 dX9_readPreference_6 ?_
  refine g_iconst (v := (1 : Int32)) hF rfl dX9_readPreference_9 ?_
  obtain ⟨v16, h16, h⟩ := gbnd h
  obtain ⟨i16h, e16v⟩ := ald_sp q_b15 h16
  refine g_iald hF q_b15 i16h dX9_readPreference_10 ?_
  rw [← e16v]
  obtain ⟨x17, h17, h⟩ := gbnd h
  refine g_callV hF my_X9_readKnown kw_1264 kw_1266 kw_78 gC_9.1 (by decide) q0 (c_X9_readKnown (d := d - 1) (by omega) q0 q_b14 h17) (by omega) (Nat.zero_le _) (Nat.zero_le _) rfl rfl (Nat.le_of_ble_eq_true rfl) dX9_readPreference_11 (g_sameS ?_)
  refine g_istore_n (ls' := [(1, .int x17.1), (0, .ref a0)]) hF rfl (by rw [hn]; decide) rfl dX9_readPreference_14 ?_
  refine g_aload_n hF 1 rfl rfl dX9_readPreference_15 ?_
  refine g_aload_n hF 1 rfl rfl dX9_readPreference_16 ?_
  obtain ⟨b18, h18, h⟩ := gbnd h
  obtain ⟨g18, l18, q_b18⟩ := ldr_sp h18
  refine g_get_r hF g18 fl_RX9_28 q0 dX9_readPreference_17 ?_
  refine g_aload_n hF 1 rfl rfl dX9_readPreference_20 ?_
  obtain ⟨b19, h19, h⟩ := gbnd h
  obtain ⟨g19, l19, q_b19⟩ := ldr_sp h19
  refine g_get_r hF g19 fl_RX9_20 q0 dX9_readPreference_21 ?_
  refine g_iconst (v := (1 : Int32)) hF rfl dX9_readPreference_24 ?_
  obtain ⟨v20, h20, h⟩ := gbnd h
  obtain ⟨i20h, e20v⟩ := ald_sp q_b19 h20
  refine g_iald hF q_b19 i20h dX9_readPreference_25 ?_
  rw [← e20v]
  obtain ⟨x21, h21, h⟩ := gbnd h
  refine g_callV hF my_X9_readKnown kw_1264 kw_1266 kw_78 gC_9.1 (by decide) q0 (c_X9_readKnown (d := d - 1) (by omega) q0 q_b18 h21) (by omega) (Nat.zero_le _) (Nat.zero_le _) rfl rfl (Nat.le_of_ble_eq_true rfl) dX9_readPreference_26 (g_sameS ?_)
  refine g_istore_n (ls' := [(2, .int x21.1), (1, .int x17.1), (0, .ref a0)]) hF rfl (by rw [hn]; decide) rfl dX9_readPreference_29 ?_
  refine g_aload_n hF 2 rfl rfl dX9_readPreference_30 ?_
  obtain ⟨x22, h22, h⟩ := gbnd h
  refine g_callV hF my_X9_isGood kw_1195 kw_1197 kw_66 gC_9.1 (by decide) q0 (c_X9_isGood (d := d - 1) (by omega) q0 h22) (by omega) (Nat.zero_le _) (Nat.zero_le _) rfl rfl (Nat.le_of_ble_eq_true rfl) dX9_readPreference_31 (g_sameS ?_)
  refine g_if_eq (tgt := 65) hF dX9_readPreference_34 (by decide) (fun c23 => ?_) (fun c23 => ?_)
  · replace h := gif_t c23 h
    exact gG_sub [2, 1, 0] rfl (t_X9_readPreference_65 hF hn hd q0 h hR)
  · replace h := gif_f c23 h
    refine g_iload_n hF 1 rfl rfl dX9_readPreference_37 ?_
    refine g_iload_n hF 0 rfl rfl dX9_readPreference_38 ?_
    refine g_icmp_eq (tgt := 55) hF dX9_readPreference_39 (by decide) (fun c24 => ?_) (fun c24 => ?_)
    · replace h := gif_t c24 h
      exact gG_sub [2, 1, 0] rfl (t_X9_readPreference_55 hF hn hd q0 h hR)
    · replace h := gif_f c24 h
      refine g_aload_n hF 2 rfl rfl dX9_readPreference_42 ?_
      refine g_aload_n hF 2 rfl rfl dX9_readPreference_43 ?_
      obtain ⟨b25, h25, h⟩ := gbnd h
      obtain ⟨g25, l25, q_b25⟩ := ldr_sp h25
      refine g_get_r hF g25 fl_RX9_20 q0 dX9_readPreference_44 ?_
      refine g_iload_n hF 1 rfl rfl dX9_readPreference_47 ?_
      refine g_iload_n hF 0 rfl rfl dX9_readPreference_48 ?_
      obtain ⟨x26, h26, h⟩ := gbnd h
      refine g_callV hF my_X9_prefers kw_1274 kw_1276 kw_80 gC_9.1 (by decide) q0 (c_X9_prefers (d := d - 1) (by omega) q0 q_b25 h26) (by omega) (Nat.zero_le _) (Nat.zero_le _) rfl rfl (Nat.le_of_ble_eq_true rfl) dX9_readPreference_49 (g_sameS ?_)
      refine g_if_eq (tgt := 65) hF dX9_readPreference_52 (by decide) (fun c27 => ?_) (fun c27 => ?_)
      · replace h := gif_t c27 h
        exact gG_sub [2, 1, 0] rfl (t_X9_readPreference_65 hF hn hd q0 h hR)
      · replace h := gif_f c27 h
        exact gG_sub [2, 1, 0] rfl (t_X9_readPreference_55 hF hn hd q0 h hR)
theorem c_X9_readPreference {d : Nat} {T : gT} {M : gM} {m_a0 : Nat} {a0 : Nat} {r : gM} (hd : 5 ≤ d) (q0 : T[a0]? = some (9, m_a0)) (h : f_X9_readPreference T M a0 = some (r)) : gRet d yX9_readPreference cX9_readPreference 3 none 0 0 [.ref a0] T M (gSame T none r) := by
  refine gRet_of (own := RX9) (by decide) rfl (Nat.le_of_ble_eq_true rfl) (fun Z ad0 hn h0 hF => ?_)
  exact t_X9_readPreference hF hn hd q0 h ⟨rfl, rfl, rfl, rfl⟩
theorem t_X9_statement_143 {Z : gZ} {d mc ms : Nat} {Acc : Option Value → (Nat → Nat) → gT → gM → Prop} {AccX : Nat → (Nat → Nat) → gT → gM → Prop} {ad : Nat → Nat} {T : gT} {M : gM} {m_a0 : Nat} {a0 : Nat} {o : gM} (hF : gFix Z cX9_statement RX9 "statement" none d mc ms Acc AccX) (hn : Z.2.2.2.2.2.1 = 2) (hd : 53 ≤ d) (q0 : T[a0]? = some (9, m_a0)) (h : f_X9_statement_143 T M a0 = some o) (hR : Acc none ad T o) : gG Z ad T M 0 0 143 [(0, .ref a0)] [] := by
  unfold f_X9_statement_143 at h
  refine g_aload_n hF 0 rfl rfl dX9_statement_143 ?_
  refine g_bipush (v := (59 : Int32)) hF rfl dX9_statement_144 ?_
  obtain ⟨x1, h1, h⟩ := gbnd h
  refine g_callV hF my_X9_expect kw_1213 kw_1215 kw_70 gC_9.1 (by decide) q0 (c_X9_expect (d := d - 1) (by omega) q0 h1) (by omega) (Nat.zero_le _) (Nat.zero_le _) rfl rfl (Nat.le_of_ble_eq_true rfl) dX9_statement_146 (g_sameN ?_)
  cases h
  exact g_ret_v hF rfl dX9_statement_149 hR (Nat.zero_le _) (Nat.zero_le _)
theorem t_X9_statement {Z : gZ} {d mc ms : Nat} {Acc : Option Value → (Nat → Nat) → gT → gM → Prop} {AccX : Nat → (Nat → Nat) → gT → gM → Prop} {ad : Nat → Nat} {T : gT} {M : gM} {m_a0 : Nat} {a0 : Nat} {o : gM} (hF : gFix Z cX9_statement RX9 "statement" none d mc ms Acc AccX) (hn : Z.2.2.2.2.2.1 = 2) (hd : 53 ≤ d) (q0 : T[a0]? = some (9, m_a0)) (h : f_X9_statement T M a0 = some o) (hR : Acc none ad T o) : gG Z ad T M 0 0 0 [(0, .ref a0)] [] := by
  unfold f_X9_statement at h
  refine g_aload_n hF 0 rfl rfl dX9_statement_0 ?_
  obtain ⟨x2, h2, h⟩ := gbnd h
  refine g_callV hF my_X9_next kw_1199 kw_1201 kw_67 gC_9.1 (by decide) q0 (c_X9_next (d := d - 1) (by omega) q0 h2) (by omega) (Nat.zero_le _) (Nat.zero_le _) rfl rfl (Nat.le_of_ble_eq_true rfl) dX9_statement_1 (g_sameS ?_)
  refine g_pop hF rfl dX9_statement_4 ?_
  refine g_aload_n hF 0 rfl rfl dX9_statement_5 ?_
  refine g_get_i hF fl_RX9_68 q0 dX9_statement_6 ?_
  refine g_istore_n (ls' := [(1, .int (gi x2.2 a0 4)), (0, .ref a0)]) hF rfl (by rw [hn]; decide) rfl dX9_statement_9 ?_
  refine g_aload_n hF 1 rfl rfl dX9_statement_10 ?_
  refine g_ldcS (tx := "name") (a := gSB + 1) hF (by decide +kernel) (Nat.le_add_right _ _) dX9_statement_11 ?_
  obtain ⟨x3, h3, h⟩ := gbnd h
  refine g_callV hF my_X9_takeWord kw_1191 kw_1193 kw_65 gC_9.1 (by decide) q0 (c_X9_takeWord (d := d - 1) (by omega) q0 h3) (by omega) (Nat.zero_le _) (Nat.zero_le _) rfl rfl (Nat.le_of_ble_eq_true rfl) dX9_statement_13 (g_sameS ?_)
  refine g_if_eq (tgt := 27) hF dX9_statement_16 (by decide) (fun c4 => ?_) (fun c4 => ?_)
  · replace h := gif_t c4 h
    refine g_aload_n hF 1 rfl rfl dX9_statement_27 ?_
    refine g_ldcS (tx := "library") (a := gSB + 2) hF (by decide +kernel) (Nat.le_add_right _ _) dX9_statement_28 ?_
    obtain ⟨x5, h5, h⟩ := gbnd h
    refine g_callV hF my_X9_takeWord kw_1191 kw_1193 kw_65 gC_9.1 (by decide) q0 (c_X9_takeWord (d := d - 1) (by omega) q0 h5) (by omega) (Nat.zero_le _) (Nat.zero_le _) rfl rfl (Nat.le_of_ble_eq_true rfl) dX9_statement_30 (g_sameS ?_)
    refine g_if_eq (tgt := 44) hF dX9_statement_33 (by decide) (fun c6 => ?_) (fun c6 => ?_)
    · replace h := gif_t c6 h
      refine g_aload_n hF 1 rfl rfl dX9_statement_44 ?_
      refine g_ldcS (tx := "offer") (a := gSB + 3) hF (by decide +kernel) (Nat.le_add_right _ _) dX9_statement_45 ?_
      obtain ⟨x7, h7, h⟩ := gbnd h
      refine g_callV hF my_X9_takeWord kw_1191 kw_1193 kw_65 gC_9.1 (by decide) q0 (c_X9_takeWord (d := d - 1) (by omega) q0 h7) (by omega) (Nat.zero_le _) (Nat.zero_le _) rfl rfl (Nat.le_of_ble_eq_true rfl) dX9_statement_47 (g_sameS ?_)
      refine g_if_eq (tgt := 60) hF dX9_statement_50 (by decide) (fun c8 => ?_) (fun c8 => ?_)
      · replace h := gif_t c8 h
        refine g_aload_n hF 1 rfl rfl dX9_statement_60 ?_
        refine g_ldcS (tx := "prefer") (a := gSB + 4) hF (by decide +kernel) (Nat.le_add_right _ _) dX9_statement_61 ?_
        obtain ⟨x9, h9, h⟩ := gbnd h
        refine g_callV hF my_X9_takeWord kw_1191 kw_1193 kw_65 gC_9.1 (by decide) q0 (c_X9_takeWord (d := d - 1) (by omega) q0 h9) (by omega) (Nat.zero_le _) (Nat.zero_le _) rfl rfl (Nat.le_of_ble_eq_true rfl) dX9_statement_63 (g_sameS ?_)
        refine g_if_eq (tgt := 76) hF dX9_statement_66 (by decide) (fun c10 => ?_) (fun c10 => ?_)
        · replace h := gif_t c10 h
          refine g_aload_n hF 1 rfl rfl dX9_statement_76 ?_
          refine g_ldcS (tx := "share") (a := gSB + 5) hF (by decide +kernel) (Nat.le_add_right _ _) dX9_statement_77 ?_
          obtain ⟨x11, h11, h⟩ := gbnd h
          refine g_callV hF my_X9_takeWord kw_1191 kw_1193 kw_65 gC_9.1 (by decide) q0 (c_X9_takeWord (d := d - 1) (by omega) q0 h11) (by omega) (Nat.zero_le _) (Nat.zero_le _) rfl rfl (Nat.le_of_ble_eq_true rfl) dX9_statement_79 (g_sameS ?_)
          refine g_if_eq (tgt := 107) hF dX9_statement_82 (by decide) (fun c12 => ?_) (fun c12 => ?_)
          · replace h := gif_t c12 h
            refine g_aload_n hF 1 rfl rfl dX9_statement_107 ?_
            refine g_ldcS (tx := "weight") (a := gSB + 6) hF (by decide +kernel) (Nat.le_add_right _ _) dX9_statement_108 ?_
            obtain ⟨x13, h13, h⟩ := gbnd h
            refine g_callV hF my_X9_takeWord kw_1191 kw_1193 kw_65 gC_9.1 (by decide) q0 (c_X9_takeWord (d := d - 1) (by omega) q0 h13) (by omega) (Nat.zero_le _) (Nat.zero_le _) rfl rfl (Nat.le_of_ble_eq_true rfl) dX9_statement_110 (g_sameS ?_)
            refine g_if_eq (tgt := 136) hF dX9_statement_113 (by decide) (fun c14 => ?_) (fun c14 => ?_)
            · replace h := gif_t c14 h
              refine g_aload_n hF 1 rfl rfl dX9_statement_136 ?_
              refine g_bipush (v := (-2 : Int32)) hF rfl dX9_statement_137 ?_
              refine g_iload_n hF 0 rfl rfl dX9_statement_139 ?_
              obtain ⟨x15, h15, h⟩ := gbnd h
              refine g_callV hF my_X9_report kw_1209 kw_1211 kw_69 gC_9.1 (by decide) q0 (c_X9_report (d := d - 1) (by omega) q0 h15) (by omega) (Nat.zero_le _) (Nat.zero_le _) rfl rfl (Nat.le_of_ble_eq_true rfl) dX9_statement_140 (g_sameN ?_)
              exact gG_sub [1] rfl (t_X9_statement_143 hF hn hd q0 h hR)
            · replace h := gif_f c14 h
              refine g_aload_n hF 1 rfl rfl dX9_statement_116 ?_
              refine g_iconst (v := (1 : Int32)) hF rfl dX9_statement_117 ?_
              refine g_iload_n hF 0 rfl rfl dX9_statement_118 ?_
              obtain ⟨x16, h16, h⟩ := gbnd h
              refine g_callV hF my_X9_once kw_1279 kw_1281 kw_81 gC_9.1 (by decide) q0 (c_X9_once (d := d - 1) (by omega) q0 h16) (by omega) (Nat.zero_le _) (Nat.zero_le _) rfl rfl (Nat.le_of_ble_eq_true rfl) dX9_statement_119 (g_sameN ?_)
              refine g_aload_n hF 1 rfl rfl dX9_statement_122 ?_
              obtain ⟨b17, h17, h⟩ := gbnd h
              obtain ⟨g17, l17, q_b17⟩ := ldr_sp h17
              refine g_get_r hF g17 fl_RX9_20 q0 dX9_statement_123 ?_
              refine g_iconst (v := (4 : Int32)) hF rfl dX9_statement_126 ?_
              refine g_iconst (v := (1 : Int32)) hF rfl dX9_statement_127 ?_
              obtain ⟨M18, h18, h⟩ := gbnd h
              obtain ⟨i18h, e18v⟩ := ast_sp q_b17 h18
              refine g_iast hF q_b17 i18h dX9_statement_128 ?_
              rw [← e18v]
              refine g_aload_n hF 1 rfl rfl dX9_statement_129 ?_
              obtain ⟨x19, h19, h⟩ := gbnd h
              refine g_callV hF my_X9_sum kw_1284 kw_1286 kw_82 gC_9.1 (by decide) q0 (c_X9_sum_c (d := d - 1) (by omega) q0 h19) (by omega) (Nat.zero_le _) (Nat.zero_le _) rfl rfl (Nat.le_of_ble_eq_true rfl) dX9_statement_130 (g_sameN ?_)
              refine g_goto (tgt := 143) hF dX9_statement_133 (by decide) ?_
              exact gG_sub [1] rfl (t_X9_statement_143 hF hn hd q0 h hR)
          · replace h := gif_f c12 h
            refine g_aload_n hF 1 rfl rfl dX9_statement_85 ?_
            refine g_iconst (v := (0 : Int32)) hF rfl dX9_statement_86 ?_
            refine g_iload_n hF 0 rfl rfl dX9_statement_87 ?_
            obtain ⟨x20, h20, h⟩ := gbnd h
            refine g_callV hF my_X9_once kw_1279 kw_1281 kw_81 gC_9.1 (by decide) q0 (c_X9_once (d := d - 1) (by omega) q0 h20) (by omega) (Nat.zero_le _) (Nat.zero_le _) rfl rfl (Nat.le_of_ble_eq_true rfl) dX9_statement_88 (g_sameN ?_)
            refine g_aload_n hF 1 rfl rfl dX9_statement_91 ?_
            obtain ⟨b21, h21, h⟩ := gbnd h
            obtain ⟨g21, l21, q_b21⟩ := ldr_sp h21
            refine g_get_r hF g21 fl_RX9_20 q0 dX9_statement_92 ?_
            refine g_iconst (v := (0 : Int32)) hF rfl dX9_statement_95 ?_
            refine g_aload_n hF 1 rfl rfl dX9_statement_96 ?_
            refine g_iconst (v := (0 : Int32)) hF rfl dX9_statement_97 ?_
            refine g_bipush (v := (100 : Int32)) hF rfl dX9_statement_98 ?_
            obtain ⟨x22, h22, h⟩ := gbnd h
            refine g_callV hF my_X9_number kw_1247 kw_1249 kw_76 gC_9.1 (by decide) q0 (c_X9_number (d := d - 1) (by omega) q0 h22) (by omega) (Nat.zero_le _) (Nat.zero_le _) rfl rfl (Nat.le_of_ble_eq_true rfl) dX9_statement_100 (g_sameS ?_)
            obtain ⟨M23, h23, h⟩ := gbnd h
            obtain ⟨i23h, e23v⟩ := ast_sp q_b21 h23
            refine g_iast hF q_b21 i23h dX9_statement_103 ?_
            rw [← e23v]
            refine g_goto (tgt := 143) hF dX9_statement_104 (by decide) ?_
            exact gG_sub [1] rfl (t_X9_statement_143 hF hn hd q0 h hR)
        · replace h := gif_f c10 h
          refine g_aload_n hF 1 rfl rfl dX9_statement_69 ?_
          obtain ⟨x24, h24, h⟩ := gbnd h
          refine g_callV hF my_X9_readPreference kw_1270 kw_1272 kw_79 gC_9.1 (by decide) q0 (c_X9_readPreference (d := d - 1) (by omega) q0 h24) (by omega) (Nat.zero_le _) (Nat.zero_le _) rfl rfl (Nat.le_of_ble_eq_true rfl) dX9_statement_70 (g_sameN ?_)
          refine g_goto (tgt := 143) hF dX9_statement_73 (by decide) ?_
          exact gG_sub [1] rfl (t_X9_statement_143 hF hn hd q0 h hR)
      · replace h := gif_f c8 h
        refine g_aload_n hF 1 rfl rfl dX9_statement_53 ?_
        obtain ⟨x25, h25, h⟩ := gbnd h
        refine g_callV hF my_X9_readOffer kw_1260 kw_1262 kw_77 gC_9.1 (by decide) q0 (c_X9_readOffer (d := d - 1) (by omega) q0 h25) (by omega) (Nat.zero_le _) (Nat.zero_le _) rfl rfl (Nat.le_of_ble_eq_true rfl) dX9_statement_54 (g_sameN ?_)
        refine g_goto (tgt := 143) hF dX9_statement_57 (by decide) ?_
        exact gG_sub [1] rfl (t_X9_statement_143 hF hn hd q0 h hR)
    · replace h := gif_f c6 h
      refine g_aload_n hF 1 rfl rfl dX9_statement_36 ?_
      refine g_iload_n hF 0 rfl rfl dX9_statement_37 ?_
      obtain ⟨x26, h26, h⟩ := gbnd h
      refine g_callV hF my_X9_readLibrary kw_1240 kw_1242 kw_75 gC_9.1 (by decide) q0 (c_X9_readLibrary (d := d - 1) (by omega) q0 h26) (by omega) (Nat.zero_le _) (Nat.zero_le _) rfl rfl (Nat.le_of_ble_eq_true rfl) dX9_statement_38 (g_sameN ?_)
      refine g_goto (tgt := 143) hF dX9_statement_41 (by decide) ?_
      exact gG_sub [1] rfl (t_X9_statement_143 hF hn hd q0 h hR)
  · replace h := gif_f c4 h
    refine g_aload_n hF 1 rfl rfl dX9_statement_19 ?_
    refine g_iload_n hF 0 rfl rfl dX9_statement_20 ?_
    obtain ⟨x27, h27, h⟩ := gbnd h
    refine g_callV hF my_X9_readName kw_1222 kw_1224 kw_72 gC_9.1 (by decide) q0 (c_X9_readName (d := d - 1) (by omega) q0 h27) (by omega) (Nat.zero_le _) (Nat.zero_le _) rfl rfl (Nat.le_of_ble_eq_true rfl) dX9_statement_21 (g_sameN ?_)
    refine g_goto (tgt := 143) hF dX9_statement_24 (by decide) ?_
    exact gG_sub [1] rfl (t_X9_statement_143 hF hn hd q0 h hR)
theorem c_X9_statement {d : Nat} {T : gT} {M : gM} {m_a0 : Nat} {a0 : Nat} {r : gM} (hd : 53 ≤ d) (q0 : T[a0]? = some (9, m_a0)) (h : f_X9_statement T M a0 = some (r)) : gRet d yX9_statement cX9_statement 2 none 0 0 [.ref a0] T M (gSame T none r) := by
  refine gRet_of (own := RX9) (by decide) rfl (Nat.le_of_ble_eq_true rfl) (fun Z ad0 hn h0 hF => ?_)
  exact t_X9_statement hF hn hd q0 h ⟨rfl, rfl, rfl, rfl⟩
theorem t_X9_remember_B11 {Z : gZ} {d mc ms : Nat} {Acc : Option Value → (Nat → Nat) → gT → gM → Prop} {AccX : Nat → (Nat → Nat) → gT → gM → Prop} {ad : Nat → Nat} {T : gT} {M : gM} {m_a0 : Nat} {a0 : Nat} {i1 : Int32} {o : (gM) ⊕ (Int32 × gM)} (hF : gFix Z cX9_remember RX9 "remember" none d mc ms Acc AccX) (hn : Z.2.2.2.2.2.1 = 2) (hd : 2 ≤ d) (q0 : T[a0]? = some (9, m_a0)) (h : f_X9_remember_B11 T M a0 i1 = some o) (hE : ∀ e9, o = .inl e9 → gG Z ad T e9 0 0 40 [(0, .ref a0)] []) (hN : ∀ n9, o = .inr n9 → gG Z ad T n9.2 0 0 11 [(0, .ref a0), (1, .int n9.1)] []) : gG Z ad T M 0 0 11 [(0, .ref a0), (1, .int i1)] [] := by
  unfold f_X9_remember_B11 at h
  refine g_iload_n hF 1 rfl rfl dX9_remember_11 ?_
  refine g_bipush (v := (8 : Int32)) hF rfl dX9_remember_12 ?_
  refine g_icmp_ge (tgt := 40) hF dX9_remember_14 (by decide) (fun c1 => ?_) (fun c1 => ?_)
  · replace h := gif_t c1 h
    exact gG_sub [0] rfl (hE _ (Option.some.inj h).symm)
  · replace h := gif_f c1 h
    refine g_aload_n hF 0 rfl rfl dX9_remember_17 ?_
    obtain ⟨b2, h2, h⟩ := gbnd h
    obtain ⟨g2, l2, q_b2⟩ := ldr_sp h2
    refine g_get_r hF g2 fl_RX9_25 q0 dX9_remember_18 ?_
    refine g_iload_n hF 1 rfl rfl dX9_remember_21 ?_
    obtain ⟨b3, h3, h⟩ := gbnd h
    obtain ⟨i3h, g3, l3, q_b3⟩ := aldr_sp q_b2 h3
    refine g_aald2 hF q_b2 i3h g3 dX9_remember_22 ?_
    refine g_aload_n hF 0 rfl rfl dX9_remember_23 ?_
    obtain ⟨b4, h4, h⟩ := gbnd h
    obtain ⟨g4, l4, q_b4⟩ := ldr_sp h4
    refine g_get_r hF g4 fl_RX9_25 q0 dX9_remember_24 ?_
    refine g_iload_n hF 1 rfl rfl dX9_remember_27 ?_
    refine g_iconst (v := (1 : Int32)) hF rfl dX9_remember_28 ?_
    refine g_isub hF dX9_remember_29 ?_
    obtain ⟨b5, h5, h⟩ := gbnd h
    obtain ⟨i5h, g5, l5, q_b5⟩ := aldr_sp q_b4 h5
    refine g_aald2 hF q_b4 i5h g5 dX9_remember_30 ?_
    obtain ⟨x6, h6, h⟩ := gbnd h
    refine g_callS hF my_X9_copy kw_1308 kw_1309 (c_X9_copy (d := d - 1) (by omega) q_b3 q_b5 h6) (by omega) (Nat.zero_le _) (Nat.zero_le _) rfl rfl (Nat.le_of_ble_eq_true rfl) dX9_remember_31 (g_sameN ?_)
    refine g_iinc (n := 1) (v := (i1 + (1 : Int32))) (ls' := [(1, .int (i1 + (1 : Int32))), (0, .ref a0)]) hF 1 rfl rfl (by rw [hn]; decide) rfl dX9_remember_34 ?_
    refine g_goto (tgt := 11) hF dX9_remember_37 (by decide) ?_
    exact gG_sub [1, 0] rfl (hN _ (Option.some.inj h).symm)
theorem t_X9_remember_L11 {Z : gZ} {d mc ms : Nat} {Acc : Option Value → (Nat → Nat) → gT → gM → Prop} {AccX : Nat → (Nat → Nat) → gT → gM → Prop} {ad : Nat → Nat} {T : gT} {M : gM} {m_a0 : Nat} {a0 : Nat} {i1 : Int32} {o : gM} (hF : gFix Z cX9_remember RX9 "remember" none d mc ms Acc AccX) (hn : Z.2.2.2.2.2.1 = 2) (hd : 2 ≤ d) (q0 : T[a0]? = some (9, m_a0)) (h : gloop (fun x => f_X9_remember_B11 T x.2 a0 x.1) gFU (i1, M) = some o) (hE : gG Z ad T o 0 0 40 [(0, .ref a0)] []) : gG Z ad T M 0 0 11 [(0, .ref a0), (1, .int i1)] [] := by
  refine gloop_ind (P := fun x0 : Int32 × gM => gG Z ad T x0.2 0 0 11 [(0, .ref a0), (1, .int x0.1)] []) (e := o) (fun x0 y hy hl hr => ?_) gFU (i1, M) h
  exact t_X9_remember_B11 hF hn hd q0 hy (fun e9 q9 => by rw [hl _ q9]; exact hE) (fun n9 q9 => hr n9 q9)
theorem t_X9_remember_50 {Z : gZ} {d mc ms : Nat} {Acc : Option Value → (Nat → Nat) → gT → gM → Prop} {AccX : Nat → (Nat → Nat) → gT → gM → Prop} {ad : Nat → Nat} {T : gT} {M : gM} {m_a0 : Nat} {a0 : Nat} {o : gM} (hF : gFix Z cX9_remember RX9 "remember" none d mc ms Acc AccX) (hn : Z.2.2.2.2.2.1 = 2) (hd : 2 ≤ d) (q0 : T[a0]? = some (9, m_a0)) (h : f_X9_remember_50 T M a0 = some o) (hR : Acc none ad T o) : gG Z ad T M 0 0 50 [(0, .ref a0)] [] := by
  unfold f_X9_remember_50 at h
  refine g_aload_n hF 0 rfl rfl dX9_remember_50 ?_
  obtain ⟨b7, h7, h⟩ := gbnd h
  obtain ⟨g7, l7, q_b7⟩ := ldr_sp h7
  refine g_get_r hF g7 fl_RX9_17 q0 dX9_remember_51 ?_
  refine g_aload_n hF 0 rfl rfl dX9_remember_54 ?_
  obtain ⟨b8, h8, h⟩ := gbnd h
  obtain ⟨g8, l8, q_b8⟩ := ldr_sp h8
  refine g_get_r hF g8 fl_RX9_25 q0 dX9_remember_55 ?_
  refine g_aload_n hF 0 rfl rfl dX9_remember_58 ?_
  refine g_get_i hF fl_RX9_292 q0 dX9_remember_59 ?_
  obtain ⟨b9, h9, h⟩ := gbnd h
  obtain ⟨i9h, g9, l9, q_b9⟩ := aldr_sp q_b8 h9
  refine g_aald2 hF q_b8 i9h g9 dX9_remember_62 ?_
  obtain ⟨x10, h10, h⟩ := gbnd h
  refine g_callS hF my_X9_copy kw_1308 kw_1309 (c_X9_copy (d := d - 1) (by omega) q_b7 q_b9 h10) (by omega) (Nat.zero_le _) (Nat.zero_le _) rfl rfl (Nat.le_of_ble_eq_true rfl) dX9_remember_63 (g_sameN ?_)
  refine g_aload_n hF 0 rfl rfl dX9_remember_66 ?_
  refine g_dup hF rfl dX9_remember_67 ?_
  refine g_get_i hF fl_RX9_292 q0 dX9_remember_68 ?_
  refine g_iconst (v := (1 : Int32)) hF rfl dX9_remember_71 ?_
  refine g_iadd hF dX9_remember_72 ?_
  refine g_put_i hF rfl rfl fl_RX9_292 q0 dX9_remember_73 ?_
  cases h
  exact g_ret_v hF rfl dX9_remember_76 hR (Nat.zero_le _) (Nat.zero_le _)
theorem t_X9_remember {Z : gZ} {d mc ms : Nat} {Acc : Option Value → (Nat → Nat) → gT → gM → Prop} {AccX : Nat → (Nat → Nat) → gT → gM → Prop} {ad : Nat → Nat} {T : gT} {M : gM} {m_a0 : Nat} {a0 : Nat} {o : gM} (hF : gFix Z cX9_remember RX9 "remember" none d mc ms Acc AccX) (hn : Z.2.2.2.2.2.1 = 2) (hd : 2 ≤ d) (q0 : T[a0]? = some (9, m_a0)) (h : f_X9_remember T M a0 = some o) (hR : Acc none ad T o) : gG Z ad T M 0 0 0 [(0, .ref a0)] [] := by
  unfold f_X9_remember at h
  refine g_aload_n hF 0 rfl rfl dX9_remember_0 ?_
  refine g_get_i hF fl_RX9_292 q0 dX9_remember_1 ?_
  refine g_bipush (v := (8 : Int32)) hF rfl dX9_remember_4 ?_
  refine g_icmp_ne (tgt := 50) hF dX9_remember_6 (by decide) (fun c11 => ?_) (fun c11 => ?_)
  · replace h := gif_t c11 h
    exact gG_sub [0] rfl (t_X9_remember_50 hF hn hd q0 h hR)
  · replace h := gif_n c11 h
    refine g_iconst (v := (1 : Int32)) hF rfl dX9_remember_9 ?_
    refine g_istore_n (ls' := [(1, .int (1 : Int32)), (0, .ref a0)]) hF rfl (by rw [hn]; decide) rfl dX9_remember_10 ?_
    obtain ⟨x12, h12, h⟩ := gbnd h
    refine gG_sub [1, 0] rfl (t_X9_remember_L11 hF hn hd q0 h12 ?_)
    refine g_aload_n hF 0 rfl rfl dX9_remember_40 ?_
    refine g_dup hF rfl dX9_remember_41 ?_
    refine g_get_i hF fl_RX9_292 q0 dX9_remember_42 ?_
    refine g_iconst (v := (1 : Int32)) hF rfl dX9_remember_45 ?_
    refine g_isub hF dX9_remember_46 ?_
    refine g_put_i hF rfl rfl fl_RX9_292 q0 dX9_remember_47 ?_
    exact gG_sub [0] rfl (t_X9_remember_50 hF hn hd q0 h hR)
theorem c_X9_remember {d : Nat} {T : gT} {M : gM} {m_a0 : Nat} {a0 : Nat} {r : gM} (hd : 2 ≤ d) (q0 : T[a0]? = some (9, m_a0)) (h : f_X9_remember T M a0 = some (r)) : gRet d yX9_remember cX9_remember 2 none 0 0 [.ref a0] T M (gSame T none r) := by
  refine gRet_of (own := RX9) (by decide) rfl (Nat.le_of_ble_eq_true rfl) (fun Z ad0 hn h0 hF => ?_)
  exact t_X9_remember hF hn hd q0 h ⟨rfl, rfl, rfl, rfl⟩
theorem t_X9_load_B122 {Z : gZ} {d mc ms : Nat} {Acc : Option Value → (Nat → Nat) → gT → gM → Prop} {AccX : Nat → (Nat → Nat) → gT → gM → Prop} {ad : Nat → Nat} {T : gT} {M : gM} {m_a0 : Nat} {a0 : Nat} {o : (gM) ⊕ (gM)} (hF : gFix Z cX9_load RX9 "load" (some .int) d mc ms Acc AccX) (hn : Z.2.2.2.2.2.1 = 3) (hd : 54 ≤ d) (q0 : T[a0]? = some (9, m_a0)) (h : f_X9_load_B122 T M a0 = some o) (hE : ∀ e9, o = .inl e9 → gG Z ad T e9 0 0 144 [(0, .ref a0)] []) (hN : ∀ n9, o = .inr n9 → gG Z ad T n9 0 0 122 [(0, .ref a0)] []) : gG Z ad T M 0 0 122 [(0, .ref a0)] [] := by
  unfold f_X9_load_B122 at h
  refine g_aload_n hF 0 rfl rfl dX9_load_122 ?_
  obtain ⟨x1, h1, h⟩ := gbnd h
  refine g_callV hF my_X9_isGood kw_1195 kw_1197 kw_66 gC_9.1 (by decide) q0 (c_X9_isGood (d := d - 1) (by omega) q0 h1) (by omega) (Nat.zero_le _) (Nat.zero_le _) rfl rfl (Nat.le_of_ble_eq_true rfl) dX9_load_123 (g_sameS ?_)
  refine g_if_eq (tgt := 144) hF dX9_load_126 (by decide) (fun c2 => ?_) (fun c2 => ?_)
  · replace h := gif_t c2 h
    exact gG_sub [0] rfl (hE _ (Option.some.inj h).symm)
  · replace h := gif_f c2 h
    refine g_aload_n hF 0 rfl rfl dX9_load_129 ?_
    obtain ⟨x3, h3, h⟩ := gbnd h
    refine g_callV hF my_X9_next kw_1199 kw_1201 kw_67 gC_9.1 (by decide) q0 (c_X9_next (d := d - 1) (by omega) q0 h3) (by omega) (Nat.zero_le _) (Nat.zero_le _) rfl rfl (Nat.le_of_ble_eq_true rfl) dX9_load_130 (g_sameS ?_)
    refine g_iconst (v := (-1 : Int32)) hF rfl dX9_load_133 ?_
    refine g_icmp_eq (tgt := 144) hF dX9_load_134 (by decide) (fun c4 => ?_) (fun c4 => ?_)
    · replace h := gif_t c4 h
      exact gG_sub [0] rfl (hE _ (Option.some.inj h).symm)
    · replace h := gif_f c4 h
      refine g_aload_n hF 0 rfl rfl dX9_load_137 ?_
      obtain ⟨x5, h5, h⟩ := gbnd h
      refine g_callV hF my_X9_statement kw_1217 kw_1219 kw_71 gC_9.1 (by decide) q0 (c_X9_statement (d := d - 1) (by omega) q0 h5) (by omega) (Nat.zero_le _) (Nat.zero_le _) rfl rfl (Nat.le_of_ble_eq_true rfl) dX9_load_138 (g_sameN ?_)
      refine g_goto (tgt := 122) hF dX9_load_141 (by decide) ?_
      exact gG_sub [0] rfl (hN _ (Option.some.inj h).symm)
theorem t_X9_load_L122 {Z : gZ} {d mc ms : Nat} {Acc : Option Value → (Nat → Nat) → gT → gM → Prop} {AccX : Nat → (Nat → Nat) → gT → gM → Prop} {ad : Nat → Nat} {T : gT} {M : gM} {m_a0 : Nat} {a0 : Nat} {o : gM} (hF : gFix Z cX9_load RX9 "load" (some .int) d mc ms Acc AccX) (hn : Z.2.2.2.2.2.1 = 3) (hd : 54 ≤ d) (q0 : T[a0]? = some (9, m_a0)) (h : gloop (fun x => f_X9_load_B122 T x a0) gFU M = some o) (hE : gG Z ad T o 0 0 144 [(0, .ref a0)] []) : gG Z ad T M 0 0 122 [(0, .ref a0)] [] := by
  refine gloop_ind (P := fun x0 : gM => gG Z ad T x0 0 0 122 [(0, .ref a0)] []) (e := o) (fun x0 y hy hl hr => ?_) gFU M h
  exact t_X9_load_B122 hF hn hd q0 hy (fun e9 q9 => by rw [hl _ q9]; exact hE) (fun n9 q9 => hr n9 q9)
theorem t_X9_load_B69 {Z : gZ} {d mc ms : Nat} {Acc : Option Value → (Nat → Nat) → gT → gM → Prop} {AccX : Nat → (Nat → Nat) → gT → gM → Prop} {ad : Nat → Nat} {T : gT} {M : gM} {m_a0 : Nat} {a0 : Nat} {i2 : Int32} {o : (gM) ⊕ (Int32 × gM)} (hF : gFix Z cX9_load RX9 "load" (some .int) d mc ms Acc AccX) (hn : Z.2.2.2.2.2.1 = 3) (hd : 54 ≤ d) (q0 : T[a0]? = some (9, m_a0)) (h : f_X9_load_B69 T M a0 i2 = some o) (hE : ∀ e9, o = .inl e9 → gG Z ad T e9 0 0 89 [(0, .ref a0)] []) (hN : ∀ n9, o = .inr n9 → gG Z ad T n9.2 0 0 69 [(0, .ref a0), (2, .int n9.1)] []) : gG Z ad T M 0 0 69 [(0, .ref a0), (2, .int i2)] [] := by
  unfold f_X9_load_B69 at h
  refine g_iload_n hF 1 rfl rfl dX9_load_69 ?_
  refine g_sipush (v := (1498 : Int32)) hF rfl dX9_load_70 ?_
  refine g_icmp_ge (tgt := 89) hF dX9_load_73 (by decide) (fun c6 => ?_) (fun c6 => ?_)
  · replace h := gif_t c6 h
    exact gG_sub [0] rfl (hE _ (Option.some.inj h).symm)
  · replace h := gif_f c6 h
    refine g_aload_n hF 0 rfl rfl dX9_load_76 ?_
    obtain ⟨b7, h7, h⟩ := gbnd h
    obtain ⟨g7, l7, q_b7⟩ := ldr_sp h7
    refine g_get_r hF g7 fl_RX9_20 q0 dX9_load_77 ?_
    refine g_iload_n hF 1 rfl rfl dX9_load_80 ?_
    refine g_iconst (v := (0 : Int32)) hF rfl dX9_load_81 ?_
    obtain ⟨M8, h8, h⟩ := gbnd h
    obtain ⟨i8h, e8v⟩ := ast_sp q_b7 h8
    refine g_iast hF q_b7 i8h dX9_load_82 ?_
    rw [← e8v]
    refine g_iinc (n := 1) (v := (i2 + (1 : Int32))) (ls' := [(2, .int (i2 + (1 : Int32))), (0, .ref a0)]) hF 1 rfl rfl (by rw [hn]; decide) rfl dX9_load_83 ?_
    refine g_goto (tgt := 69) hF dX9_load_86 (by decide) ?_
    exact gG_sub [1, 0] rfl (hN _ (Option.some.inj h).symm)
theorem t_X9_load_L69 {Z : gZ} {d mc ms : Nat} {Acc : Option Value → (Nat → Nat) → gT → gM → Prop} {AccX : Nat → (Nat → Nat) → gT → gM → Prop} {ad : Nat → Nat} {T : gT} {M : gM} {m_a0 : Nat} {a0 : Nat} {i2 : Int32} {o : gM} (hF : gFix Z cX9_load RX9 "load" (some .int) d mc ms Acc AccX) (hn : Z.2.2.2.2.2.1 = 3) (hd : 54 ≤ d) (q0 : T[a0]? = some (9, m_a0)) (h : gloop (fun x => f_X9_load_B69 T x.2 a0 x.1) gFU (i2, M) = some o) (hE : gG Z ad T o 0 0 89 [(0, .ref a0)] []) : gG Z ad T M 0 0 69 [(0, .ref a0), (2, .int i2)] [] := by
  refine gloop_ind (P := fun x0 : Int32 × gM => gG Z ad T x0.2 0 0 69 [(0, .ref a0), (2, .int x0.1)] []) (e := o) (fun x0 y hy hl hr => ?_) gFU (i2, M) h
  exact t_X9_load_B69 hF hn hd q0 hy (fun e9 q9 => by rw [hl _ q9]; exact hE) (fun n9 q9 => hr n9 q9)
theorem t_X9_load_116 {Z : gZ} {d mc ms : Nat} {Acc : Option Value → (Nat → Nat) → gT → gM → Prop} {AccX : Nat → (Nat → Nat) → gT → gM → Prop} {ad : Nat → Nat} {T : gT} {M : gM} {m_a0 : Nat} {a0 : Nat} {o : Int32 × gM} (hF : gFix Z cX9_load RX9 "load" (some .int) d mc ms Acc AccX) (hn : Z.2.2.2.2.2.1 = 3) (hd : 54 ≤ d) (q0 : T[a0]? = some (9, m_a0)) (h : f_X9_load_116 T M a0 = some o) (hR : Acc (some (.int o.1)) ad T o.2) : gG Z ad T M 0 0 116 [(0, .ref a0)] [] := by
  unfold f_X9_load_116 at h
  refine g_aload_n hF 0 rfl rfl dX9_load_116 ?_
  refine g_bipush (v := (59 : Int32)) hF rfl dX9_load_117 ?_
  obtain ⟨x9, h9, h⟩ := gbnd h
  refine g_callV hF my_X9_expect kw_1213 kw_1215 kw_70 gC_9.1 (by decide) q0 (c_X9_expect (d := d - 1) (by omega) q0 h9) (by omega) (Nat.zero_le _) (Nat.zero_le _) rfl rfl (Nat.le_of_ble_eq_true rfl) dX9_load_119 (g_sameN ?_)
  obtain ⟨x10, h10, h⟩ := gbnd h
  refine gG_sub [0] rfl (t_X9_load_L122 hF hn hd q0 h10 ?_)
  refine g_aload_n hF 0 rfl rfl dX9_load_144 ?_
  refine g_aload_n hF 0 rfl rfl dX9_load_145 ?_
  refine g_get_i hF fl_RX9_78 q0 dX9_load_146 ?_
  refine g_put_i hF rfl rfl fl_RX9_13 q0 dX9_load_149 ?_
  refine g_aload_n hF 0 rfl rfl dX9_load_152 ?_
  obtain ⟨x11, h11, h⟩ := gbnd h
  refine g_callV hF my_X9_isGood kw_1195 kw_1197 kw_66 gC_9.1 (by decide) q0 (c_X9_isGood (d := d - 1) (by omega) q0 h11) (by omega) (Nat.zero_le _) (Nat.zero_le _) rfl rfl (Nat.le_of_ble_eq_true rfl) dX9_load_153 (g_sameS ?_)
  refine g_if_ne (tgt := 164) hF dX9_load_156 (by decide) (fun c12 => ?_) (fun c12 => ?_)
  · replace h := gif_t c12 h
    refine g_aload_n hF 0 rfl rfl dX9_load_164 ?_
    obtain ⟨x13, h13, h⟩ := gbnd h
    refine g_callV hF my_X9_remember kw_1304 kw_1306 kw_86 gC_9.1 (by decide) q0 (c_X9_remember (d := d - 1) (by omega) q0 h13) (by omega) (Nat.zero_le _) (Nat.zero_le _) rfl rfl (Nat.le_of_ble_eq_true rfl) dX9_load_165 (g_sameN ?_)
    refine g_aload_n hF 0 rfl rfl dX9_load_168 ?_
    obtain ⟨b14, h14, h⟩ := gbnd h
    obtain ⟨g14, l14, q_b14⟩ := ldr_sp h14
    refine g_get_r hF g14 fl_RX9_20 q0 dX9_load_169 ?_
    refine g_aload_n hF 0 rfl rfl dX9_load_172 ?_
    obtain ⟨b15, h15, h⟩ := gbnd h
    obtain ⟨g15, l15, q_b15⟩ := ldr_sp h15
    refine g_get_r hF g15 fl_RX9_17 q0 dX9_load_173 ?_
    obtain ⟨x16, h16, h⟩ := gbnd h
    refine g_callS hF my_X9_copy kw_1308 kw_1309 (c_X9_copy (d := d - 1) (by omega) q_b14 q_b15 h16) (by omega) (Nat.zero_le _) (Nat.zero_le _) rfl rfl (Nat.le_of_ble_eq_true rfl) dX9_load_176 (g_sameN ?_)
    refine g_aload_n hF 0 rfl rfl dX9_load_179 ?_
    obtain ⟨b17, h17, h⟩ := gbnd h
    obtain ⟨g17, l17, q_b17⟩ := ldr_sp h17
    refine g_get_r hF g17 fl_RX9_17 q0 dX9_load_180 ?_
    refine g_iconst (v := (1 : Int32)) hF rfl dX9_load_183 ?_
    obtain ⟨v18, h18, h⟩ := gbnd h
    obtain ⟨i18h, e18v⟩ := ald_sp q_b17 h18
    refine g_iald hF q_b17 i18h dX9_load_184 ?_
    rw [← e18v]
    cases h
    exact g_ret_i hF rfl rfl dX9_load_185 hR (Nat.zero_le _) (Nat.zero_le _)
  · replace h := gif_n c12 h
    refine g_aload_n hF 0 rfl rfl dX9_load_159 ?_
    refine g_get_i hF fl_RX9_75 q0 dX9_load_160 ?_
    cases h
    exact g_ret_i hF rfl rfl dX9_load_163 hR (Nat.zero_le _) (Nat.zero_le _)
theorem t_X9_load_23 {Z : gZ} {d mc ms : Nat} {Acc : Option Value → (Nat → Nat) → gT → gM → Prop} {AccX : Nat → (Nat → Nat) → gT → gM → Prop} {ad : Nat → Nat} {T : gT} {M : gM} {m_a0 m_b0 : Nat} {a0 : Nat} {i1 : Int32} {b0 : Nat} {k1 : Int32} {o : Int32 × gM} (hF : gFix Z cX9_load RX9 "load" (some .int) d mc ms Acc AccX) (hn : Z.2.2.2.2.2.1 = 3) (hd : 54 ≤ d) (q0 : T[a0]? = some (9, m_a0)) (p0 : T[b0]? = some (9, m_b0)) (h : f_X9_load_23 T M a0 i1 b0 k1 = some o) (hR : Acc (some (.int o.1)) ad T o.2) : gG Z ad T M 0 0 23 [(0, .ref a0), (1, .int i1)] [.int k1, .ref b0] := by
  unfold f_X9_load_23 at h
  refine g_iconst (v := (1 : Int32)) hF rfl dX9_load_23 ?_
  obtain ⟨x19, h19, h⟩ := gbnd h
  refine g_callV hF my_X9_fails kw_1186 kw_1188 kw_64 gC_9.1 (by decide) p0 (c_X9_fails (d := d - 1) (by omega) p0 h19) (by omega) (Nat.zero_le _) (Nat.zero_le _) rfl rfl (Nat.le_of_ble_eq_true rfl) dX9_load_24 (g_sameS ?_)
  refine g_if_eq (tgt := 32) hF dX9_load_27 (by decide) (fun c20 => ?_) (fun c20 => ?_)
  · replace h := gif_t c20 h
    refine g_aload_n hF 0 rfl rfl dX9_load_32 ?_
    refine g_iconst (v := (0 : Int32)) hF rfl dX9_load_33 ?_
    refine g_put_i hF rfl rfl fl_RX9_62 q0 dX9_load_34 ?_
    refine g_aload_n hF 0 rfl rfl dX9_load_37 ?_
    refine g_iload_n hF 1 rfl rfl dX9_load_38 ?_
    refine g_put_i hF rfl rfl fl_RX9_65 q0 dX9_load_39 ?_
    refine g_aload_n hF 0 rfl rfl dX9_load_42 ?_
    refine g_iconst (v := (0 : Int32)) hF rfl dX9_load_43 ?_
    refine g_put_i hF rfl rfl fl_RX9_68 q0 dX9_load_44 ?_
    refine g_aload_n hF 0 rfl rfl dX9_load_47 ?_
    refine g_iconst (v := (0 : Int32)) hF rfl dX9_load_48 ?_
    refine g_put_i hF rfl rfl fl_RX9_75 q0 dX9_load_49 ?_
    refine g_aload_n hF 0 rfl rfl dX9_load_52 ?_
    refine g_iconst (v := (-1 : Int32)) hF rfl dX9_load_53 ?_
    refine g_put_i hF rfl rfl fl_RX9_78 q0 dX9_load_54 ?_
    refine g_aload_n hF 0 rfl rfl dX9_load_57 ?_
    refine g_iconst (v := (0 : Int32)) hF rfl dX9_load_58 ?_
    refine g_put_i hF rfl rfl fl_RX9_118 q0 dX9_load_59 ?_
    refine g_aload_n hF 0 rfl rfl dX9_load_62 ?_
    refine g_iconst (v := (0 : Int32)) hF rfl dX9_load_63 ?_
    refine g_put_i hF rfl rfl fl_RX9_152 q0 dX9_load_64 ?_
    refine g_iconst (v := (0 : Int32)) hF rfl dX9_load_67 ?_
    refine g_istore_n (ls' := [(2, .int (0 : Int32)), (0, .ref a0), (1, .int i1)]) hF rfl (by rw [hn]; decide) rfl dX9_load_68 ?_
    obtain ⟨x21, h21, h⟩ := gbnd h
    refine gG_sub [1, 0] rfl (t_X9_load_L69 hF hn hd q0 h21 ?_)
    refine g_aload_n hF 0 rfl rfl dX9_load_89 ?_
    obtain ⟨b22, h22, h⟩ := gbnd h
    obtain ⟨g22, l22, q_b22⟩ := ldr_sp h22
    refine g_get_r hF g22 fl_RX9_20 q0 dX9_load_90 ?_
    refine g_iconst (v := (0 : Int32)) hF rfl dX9_load_93 ?_
    refine g_bipush (v := (50 : Int32)) hF rfl dX9_load_94 ?_
    obtain ⟨M23, h23, h⟩ := gbnd h
    obtain ⟨i23h, e23v⟩ := ast_sp q_b22 h23
    refine g_iast hF q_b22 i23h dX9_load_96 ?_
    rw [← e23v]
    refine g_aload_n hF 0 rfl rfl dX9_load_97 ?_
    refine g_ldcS (tx := "link") (a := gSB + 0) hF (by decide +kernel) (Nat.le_add_right _ _) dX9_load_98 ?_
    obtain ⟨x24, h24, h⟩ := gbnd h
    refine g_callV hF my_X9_takeWord kw_1191 kw_1193 kw_65 gC_9.1 (by decide) q0 (c_X9_takeWord (d := d - 1) (by omega) q0 h24) (by omega) (Nat.zero_le _) (Nat.zero_le _) rfl rfl (Nat.le_of_ble_eq_true rfl) dX9_load_100 (g_sameS ?_)
    refine g_if_ne (tgt := 116) hF dX9_load_103 (by decide) (fun c25 => ?_) (fun c25 => ?_)
    · replace h := gif_t c25 h
      exact gG_sub [0] rfl (t_X9_load_116 hF hn hd q0 h hR)
    · replace h := gif_n c25 h
      refine g_aload_n hF 0 rfl rfl dX9_load_106 ?_
      refine g_bipush (v := (-2 : Int32)) hF rfl dX9_load_107 ?_
      refine g_aload_n hF 0 rfl rfl dX9_load_109 ?_
      refine g_get_i hF fl_RX9_68 q0 dX9_load_110 ?_
      obtain ⟨x26, h26, h⟩ := gbnd h
      refine g_callV hF my_X9_report kw_1209 kw_1211 kw_69 gC_9.1 (by decide) q0 (c_X9_report (d := d - 1) (by omega) q0 h26) (by omega) (Nat.zero_le _) (Nat.zero_le _) rfl rfl (Nat.le_of_ble_eq_true rfl) dX9_load_113 (g_sameN ?_)
      exact gG_sub [0] rfl (t_X9_load_116 hF hn hd q0 h hR)
  · replace h := gif_f c20 h
    refine g_iconst (v := (0 : Int32)) hF rfl dX9_load_30 ?_
    cases h
    exact g_ret_i hF rfl rfl dX9_load_31 hR (Nat.zero_le _) (Nat.zero_le _)
theorem t_X9_load {Z : gZ} {d mc ms : Nat} {Acc : Option Value → (Nat → Nat) → gT → gM → Prop} {AccX : Nat → (Nat → Nat) → gT → gM → Prop} {ad : Nat → Nat} {T : gT} {M : gM} {m_a0 : Nat} {a0 : Nat} {i1 : Int32} {o : Int32 × gM} (hF : gFix Z cX9_load RX9 "load" (some .int) d mc ms Acc AccX) (hn : Z.2.2.2.2.2.1 = 3) (hd : 54 ≤ d) (q0 : T[a0]? = some (9, m_a0)) (h : f_X9_load T M a0 i1 = some o) (hR : Acc (some (.int o.1)) ad T o.2) : gG Z ad T M 0 0 0 [(0, .ref a0), (1, .int i1)] [] := by
  unfold f_X9_load at h
  refine g_aload_n hF 0 rfl rfl dX9_load_0 ?_
  refine g_iconst (v := (0 : Int32)) hF rfl dX9_load_1 ?_
  refine g_put_i hF rfl rfl fl_RX9_59 q0 dX9_load_2 ?_
  refine g_aload_n hF 0 rfl rfl dX9_load_5 ?_
  refine g_iload_n hF 1 rfl rfl dX9_load_6 ?_
  refine g_iconst (v := (0 : Int32)) hF rfl dX9_load_7 ?_
  refine g_aload_n hF 0 rfl rfl dX9_load_8 ?_
  refine g_get_i hF fl_RX9_62 q0 dX9_load_9 ?_
  obtain ⟨x27, h27, h⟩ := gbnd h
  refine g_callS hF my_X9_in kw_1183 kw_1184 (c_X9_in (d := d - 1) (by omega)  h27) (by omega) (Nat.zero_le _) (Nat.zero_le _) rfl rfl (Nat.le_of_ble_eq_true rfl) dX9_load_12 (g_sameS ?_)
  refine g_if_ne (tgt := 22) hF dX9_load_15 (by decide) (fun c28 => ?_) (fun c28 => ?_)
  · replace h := gif_t c28 h
    refine g_iconst (v := (0 : Int32)) hF rfl dX9_load_22 ?_
    exact gG_sub [0, 1] rfl (t_X9_load_23 hF hn hd q0 q0 h hR)
  · replace h := gif_n c28 h
    refine g_iconst (v := (1 : Int32)) hF rfl dX9_load_18 ?_
    refine g_goto (tgt := 23) hF dX9_load_19 (by decide) ?_
    exact gG_sub [0, 1] rfl (t_X9_load_23 hF hn hd q0 q0 h hR)
theorem c_X9_load {d : Nat} {T : gT} {M : gM} {m_a0 : Nat} {a0 : Nat} {i1 : Int32} {r : Int32 × gM} (hd : 54 ≤ d) (q0 : T[a0]? = some (9, m_a0)) (h : f_X9_load T M a0 i1 = some (r)) : gRet d yX9_load cX9_load 3 (some .int) 0 0 [.ref a0, .int i1] T M (gSame T (some (.int r.1)) r.2) := by
  refine gRet_of (own := RX9) (by decide) rfl (Nat.le_of_ble_eq_true rfl) (fun Z ad0 hn h0 hF => ?_)
  exact t_X9_load hF hn hd q0 h ⟨rfl, rfl, rfl, rfl⟩
