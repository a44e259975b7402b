/-! WALKS of the law's methods -/
theorem t_J0_coder_7d493_14 {Z : gZ} {d mc ms : Nat} {Acc : Option Value → (Nat → Nat) → gT → gM → Prop} {AccX : Nat → (Nat → Nat) → gT → gM → Prop} {ad : Nat → Nat} {T : gT} {M : gM} {ce so : Nat}  {k0 : Int32} {o : Int32} (hF : gFix Z cJ0_coder_7d493 RJ0 "coder" (some .byte) d mc ms Acc AccX) (hn : Z.2.2.2.2.2.1 = 1) (hd : 1 ≤ d) (hk1 : ce ≤ mc) (hk2 : so ≤ ms)  (h : f_J0_coder_7d493_14 T M k0 = some o) (hR : Acc (some (.int o)) ad T M) : gG Z ad T M ce so 14 [] [.int k0] := by
  unfold f_J0_coder_7d493_14 at h
  obtain ⟨_, h1, h⟩ := gbnd h
  obtain rfl := Option.some.inj h
  exact g_ret_i hF rfl (chk_sp h1) dJ0_coder_7d493_14 hR (by omega) (by omega)
theorem t_J0_coder_7d493 {Z : gZ} {d mc ms : Nat} {Acc : Option Value → (Nat → Nat) → gT → gM → Prop} {AccX : Nat → (Nat → Nat) → gT → gM → Prop} {ad : Nat → Nat} {T : gT} {M : gM} {ce so : Nat} {m_a0 : Nat} {a0 : Nat} {o : Int32} (hF : gFix Z cJ0_coder_7d493 RJ0 "coder" (some .byte) d mc ms Acc AccX) (hn : Z.2.2.2.2.2.1 = 1) (hd : 1 ≤ d) (hk1 : ce ≤ mc) (hk2 : so ≤ ms) (q0 : T[a0]? = some (19, m_a0)) (h : f_J0_coder_7d493 T M a0 = some o) (hR : Acc (some (.int o)) ad T M) : gG Z ad T M ce so 0 [(0, .ref a0)] [] := by
  unfold f_J0_coder_7d493 at h
  refine g_compact hF kw_773 dJ0_coder_7d493_0 ?_
  refine g_if_eq (tgt := 13) hF dJ0_coder_7d493_3 (by decide) (fun q => absurd q (by decide)) (fun _ => ?_)
  refine g_aload_n hF 0 rfl rfl dJ0_coder_7d493_6 ?_
  refine g_get_i hF fl_RJ0_15 q0 dJ0_coder_7d493_7 ?_
  refine g_goto (tgt := 14) hF dJ0_coder_7d493_10 (by decide) ?_
  exact gG_sub [] rfl (t_J0_coder_7d493_14 hF hn hd (by omega) (by omega)  h hR)
theorem c_J0_coder_7d493 {d : Nat} {T : gT} {M : gM} {m_a0 : Nat} {a0 : Nat} {o : Int32} (hd : 1 ≤ d) (q0 : T[a0]? = some (19, m_a0)) (h : f_J0_coder_7d493 T M a0 = some o) : gRet d yJ0_coder_7d493 cJ0_coder_7d493 1 (some .byte) 0 0 [.ref a0] T M (gSame T (some (.int o)) M) := by
  refine gRet_of (own := RJ0) (by decide) rfl (Nat.le_of_ble_eq_true rfl) (fun Z ad0 hn h0 hF => ?_)
  exact t_J0_coder_7d493 (ce := 0) (so := 0) hF hn hd (Nat.le_refl _) (Nat.le_refl _) q0 h ⟨rfl, rfl, rfl, rfl⟩
theorem t_J0_length_8abf5 {Z : gZ} {d mc ms : Nat} {Acc : Option Value → (Nat → Nat) → gT → gM → Prop} {AccX : Nat → (Nat → Nat) → gT → gM → Prop} {ad : Nat → Nat} {T : gT} {M : gM} {ce so : Nat} {m_a0 : Nat} {a0 : Nat} {o : Int32} (hF : gFix Z cJ0_length_8abf5 RJ0 "length" (some .int) d mc ms Acc AccX) (hn : Z.2.2.2.2.2.1 = 1) (hd : 2 ≤ d) (hk1 : ce ≤ mc) (hk2 : so ≤ ms) (q0 : T[a0]? = some (19, m_a0)) (h : f_J0_length_8abf5 T M a0 = some o) (hR : Acc (some (.int o)) ad T M) : gG Z ad T M ce so 0 [(0, .ref a0)] [] := by
  unfold f_J0_length_8abf5 at h
  refine g_aload_n hF 0 rfl rfl dJ0_length_8abf5_0 ?_
  obtain ⟨b1, h1, h⟩ := gbnd h
  obtain ⟨g1, l1, q_b1⟩ := ldr_sp h1
  refine g_get_r hF g1 fl_RJ0_9 q0 dJ0_length_8abf5_1 ?_
  refine g_alenA hF q_b1 (by decide) dJ0_length_8abf5_4 ?_
  refine g_aload_n hF 0 rfl rfl dJ0_length_8abf5_5 ?_
  obtain ⟨x2, h2, h⟩ := gbnd h
  refine g_callV hF my_J0_coder_7d493 kw_769 kw_770 kw_771 gC_19.1 (by decide) q0 (c_J0_coder_7d493 (d := d - 1) (by omega) q0 h2) (by omega) (by omega) (by omega) rfl rfl (Nat.le_of_ble_eq_true rfl) dJ0_length_8abf5_6 (g_sameS ?_)
  refine g_ishr hF dJ0_length_8abf5_9 ?_
  obtain rfl := Option.some.inj h
  exact g_ret_i hF rfl rfl dJ0_length_8abf5_10 hR (by omega) (by omega)
theorem c_J0_length_8abf5 {d : Nat} {T : gT} {M : gM} {m_a0 : Nat} {a0 : Nat} {o : Int32} (hd : 2 ≤ d) (q0 : T[a0]? = some (19, m_a0)) (h : f_J0_length_8abf5 T M a0 = some o) : gRet d yJ0_length_8abf5 cJ0_length_8abf5 1 (some .int) 0 0 [.ref a0] T M (gSame T (some (.int o)) M) := by
  refine gRet_of (own := RJ0) (by decide) rfl (Nat.le_of_ble_eq_true rfl) (fun Z ad0 hn h0 hF => ?_)
  exact t_J0_length_8abf5 (ce := 0) (so := 0) hF hn hd (Nat.le_refl _) (Nat.le_refl _) q0 h ⟨rfl, rfl, rfl, rfl⟩
theorem t_J0_isLatin1_aae02_18 {Z : gZ} {d mc ms : Nat} {Acc : Option Value → (Nat → Nat) → gT → gM → Prop} {AccX : Nat → (Nat → Nat) → gT → gM → Prop} {ad : Nat → Nat} {T : gT} {M : gM} {ce so : Nat}  {k0 : Int32} {o : Int32} (hF : gFix Z cJ0_isLatin1_aae02 RJ0 "isLatin1" (some .boolean) d mc ms Acc AccX) (hn : Z.2.2.2.2.2.1 = 1) (hd : 1 ≤ d) (hk1 : ce ≤ mc) (hk2 : so ≤ ms)  (h : f_J0_isLatin1_aae02_18 T M k0 = some o) (hR : Acc (some (.int o)) ad T M) : gG Z ad T M ce so 18 [] [.int k0] := by
  unfold f_J0_isLatin1_aae02_18 at h
  obtain ⟨_, h1, h⟩ := gbnd h
  obtain rfl := Option.some.inj h
  exact g_ret_i hF rfl (gbool (chk_sp h1)) dJ0_isLatin1_aae02_18 hR (by omega) (by omega)
theorem t_J0_isLatin1_aae02_17 {Z : gZ} {d mc ms : Nat} {Acc : Option Value → (Nat → Nat) → gT → gM → Prop} {AccX : Nat → (Nat → Nat) → gT → gM → Prop} {ad : Nat → Nat} {T : gT} {M : gM} {ce so : Nat}  {o : Int32} (hF : gFix Z cJ0_isLatin1_aae02 RJ0 "isLatin1" (some .boolean) d mc ms Acc AccX) (hn : Z.2.2.2.2.2.1 = 1) (hd : 1 ≤ d) (hk1 : ce ≤ mc) (hk2 : so ≤ ms)  (h : f_J0_isLatin1_aae02_17 T M  = some o) (hR : Acc (some (.int o)) ad T M) : gG Z ad T M ce so 17 [] [] := by
  unfold f_J0_isLatin1_aae02_17 at h
  refine g_iconst (v := (0 : Int32)) hF rfl dJ0_isLatin1_aae02_17 ?_
  exact gG_sub [] rfl (t_J0_isLatin1_aae02_18 hF hn hd (by omega) (by omega)  h hR)
theorem t_J0_isLatin1_aae02 {Z : gZ} {d mc ms : Nat} {Acc : Option Value → (Nat → Nat) → gT → gM → Prop} {AccX : Nat → (Nat → Nat) → gT → gM → Prop} {ad : Nat → Nat} {T : gT} {M : gM} {ce so : Nat} {m_a0 : Nat} {a0 : Nat} {o : Int32} (hF : gFix Z cJ0_isLatin1_aae02 RJ0 "isLatin1" (some .boolean) d mc ms Acc AccX) (hn : Z.2.2.2.2.2.1 = 1) (hd : 1 ≤ d) (hk1 : ce ≤ mc) (hk2 : so ≤ ms) (q0 : T[a0]? = some (19, m_a0)) (h : f_J0_isLatin1_aae02 T M a0 = some o) (hR : Acc (some (.int o)) ad T M) : gG Z ad T M ce so 0 [(0, .ref a0)] [] := by
  unfold f_J0_isLatin1_aae02 at h
  refine g_compact hF kw_773 dJ0_isLatin1_aae02_0 ?_
  refine g_if_eq (tgt := 17) hF dJ0_isLatin1_aae02_3 (by decide) (fun q => absurd q (by decide)) (fun _ => ?_)
  refine g_aload_n hF 0 rfl rfl dJ0_isLatin1_aae02_6 ?_
  refine g_get_i hF fl_RJ0_15 q0 dJ0_isLatin1_aae02_7 ?_
  refine g_if_ne (tgt := 17) hF dJ0_isLatin1_aae02_10 (by decide) (fun c2 => ?_) (fun c2 => ?_)
  · replace h := gif_t c2 h
    exact gG_sub [] rfl (t_J0_isLatin1_aae02_17 hF hn hd (by omega) (by omega)  h hR)
  · replace h := gif_n c2 h
    refine g_iconst (v := (1 : Int32)) hF rfl dJ0_isLatin1_aae02_13 ?_
    refine g_goto (tgt := 18) hF dJ0_isLatin1_aae02_14 (by decide) ?_
    exact gG_sub [] rfl (t_J0_isLatin1_aae02_18 hF hn hd (by omega) (by omega)  h hR)
theorem c_J0_isLatin1_aae02 {d : Nat} {T : gT} {M : gM} {m_a0 : Nat} {a0 : Nat} {o : Int32} (hd : 1 ≤ d) (q0 : T[a0]? = some (19, m_a0)) (h : f_J0_isLatin1_aae02 T M a0 = some o) : gRet d yJ0_isLatin1_aae02 cJ0_isLatin1_aae02 1 (some .boolean) 0 0 [.ref a0] T M (gSame T (some (.int o)) M) := by
  refine gRet_of (own := RJ0) (by decide) rfl (Nat.le_of_ble_eq_true rfl) (fun Z ad0 hn h0 hF => ?_)
  exact t_J0_isLatin1_aae02 (ce := 0) (so := 0) hF hn hd (Nat.le_refl _) (Nat.le_refl _) q0 h ⟨rfl, rfl, rfl, rfl⟩
theorem t_J1_charAt_3b067 {Z : gZ} {d mc ms : Nat} {Acc : Option Value → (Nat → Nat) → gT → gM → Prop} {AccX : Nat → (Nat → Nat) → gT → gM → Prop} {ad : Nat → Nat} {T : gT} {M : gM} {ce so : Nat} {m_a0 : Nat} {a0 : Nat} {i1 : Int32} {o : Int32} (hF : gFix Z cJ1_charAt_3b067 RJ1 "charAt" (some .char) d mc ms Acc AccX) (hn : Z.2.2.2.2.2.1 = 2) (hd : 3 ≤ d) (hk1 : ce ≤ mc) (hk2 : so ≤ ms) (q0 : T[a0]? = some (10, m_a0)) (h : f_J1_charAt_3b067 T M a0 i1 = some o) (hR : Acc (some (.int o)) ad T M) : gG Z ad T M ce so 0 [(0, .ref a0), (1, .int i1)] [] := by
  unfold f_J1_charAt_3b067 at h
  refine g_iload_n hF 1 rfl rfl dJ1_charAt_3b067_0 ?_
  refine g_aload_n hF 0 rfl rfl dJ1_charAt_3b067_1 ?_
  refine g_alenA hF q0 (by decide) dJ1_charAt_3b067_2 ?_
  obtain ⟨_, h1, h⟩ := gbnd h
  refine g_callS hF my_J0_checkIndex kw_786 kw_787 (c_J0_checkIndex (d := d - 1) (by omega) (chk_sp h1).1 (chk_sp h1).2) (by omega) (by omega) (by omega) rfl rfl (Nat.le_of_ble_eq_true rfl) dJ1_charAt_3b067_3 (g_sameN ?_)
  refine g_aload_n hF 0 rfl rfl dJ1_charAt_3b067_6 ?_
  refine g_iload_n hF 1 rfl rfl dJ1_charAt_3b067_7 ?_
  obtain ⟨v2, h2, h⟩ := gbnd h
  obtain ⟨i2h, e2v⟩ := ald_sp q0 h2
  refine g_bald hF q0 i2h dJ1_charAt_3b067_8 ?_
  rw [← e2v]
  refine g_sipush (v := (255 : Int32)) hF rfl dJ1_charAt_3b067_9 ?_
  refine g_iand hF dJ1_charAt_3b067_12 ?_
  refine g_i2c (v := (((v2 &&& (255 : Int32))).toUInt32 % 65536).toInt32) hF rfl dJ1_charAt_3b067_13 ?_
  obtain ⟨_, h3, h⟩ := gbnd h
  obtain rfl := Option.some.inj h
  exact g_ret_i hF rfl (chk_sp h3) dJ1_charAt_3b067_14 hR (by omega) (by omega)
theorem c_J1_charAt_3b067 {d : Nat} {T : gT} {M : gM} {m_a0 : Nat} {a0 : Nat} {i1 : Int32} {o : Int32} (hd : 3 ≤ d) (q0 : T[a0]? = some (10, m_a0)) (h : f_J1_charAt_3b067 T M a0 i1 = some o) : gRet d yJ1_charAt_3b067 cJ1_charAt_3b067 2 (some .char) 0 0 [.ref a0, .int i1] T M (gSame T (some (.int o)) M) := by
  refine gRet_of (own := RJ1) (by decide) rfl (Nat.le_of_ble_eq_true rfl) (fun Z ad0 hn h0 hF => ?_)
  exact t_J1_charAt_3b067 (ce := 0) (so := 0) hF hn hd (Nat.le_refl _) (Nat.le_refl _) q0 h ⟨rfl, rfl, rfl, rfl⟩
theorem t_J0_charAt_5068e {Z : gZ} {d mc ms : Nat} {Acc : Option Value → (Nat → Nat) → gT → gM → Prop} {AccX : Nat → (Nat → Nat) → gT → gM → Prop} {ad : Nat → Nat} {T : gT} {M : gM} {ce so : Nat} {m_a0 : Nat} {a0 : Nat} {i1 : Int32} {o : Int32} (hF : gFix Z cJ0_charAt_5068e RJ0 "charAt" (some .char) d mc ms Acc AccX) (hn : Z.2.2.2.2.2.1 = 2) (hd : 4 ≤ d) (hk1 : ce ≤ mc) (hk2 : so ≤ ms) (q0 : T[a0]? = some (19, m_a0)) (h : f_J0_charAt_5068e T M a0 i1 = some o) (hR : Acc (some (.int o)) ad T M) : gG Z ad T M ce so 0 [(0, .ref a0), (1, .int i1)] [] := by
  unfold f_J0_charAt_5068e at h
  refine g_aload_n hF 0 rfl rfl dJ0_charAt_5068e_0 ?_
  obtain ⟨x1, h1, h⟩ := gbnd h
  refine g_callV hF my_J0_isLatin1_aae02 kw_779 kw_780 kw_781 gC_19.1 (by decide) q0 (c_J0_isLatin1_aae02 (d := d - 1) (by omega) q0 h1) (by omega) (by omega) (by omega) rfl rfl (Nat.le_of_ble_eq_true rfl) dJ0_charAt_5068e_1 (g_sameS ?_)
  refine g_if_eq (tgt := 16) hF dJ0_charAt_5068e_4 (by decide) (fun c2 => ?_) (fun c2 => ?_)
  · replace h := gif_t c2 h
    refine g_aload_n hF 0 rfl rfl dJ0_charAt_5068e_16 ?_
    obtain ⟨b3, h3, h⟩ := gbnd h
    obtain ⟨g3, l3, q_b3⟩ := ldr_sp h3
    refine g_get_r hF g3 fl_RJ0_9 q0 dJ0_charAt_5068e_17 ?_
    refine g_iload_n hF 1 rfl rfl dJ0_charAt_5068e_20 ?_
    cases h
  · replace h := gif_f c2 h
    refine g_aload_n hF 0 rfl rfl dJ0_charAt_5068e_7 ?_
    obtain ⟨b5, h5, h⟩ := gbnd h
    obtain ⟨g5, l5, q_b5⟩ := ldr_sp h5
    refine g_get_r hF g5 fl_RJ0_9 q0 dJ0_charAt_5068e_8 ?_
    refine g_iload_n hF 1 rfl rfl dJ0_charAt_5068e_11 ?_
    obtain ⟨x6, h6, h⟩ := gbnd h
    refine g_callS hF my_J1_charAt_3b067 kw_783 kw_784 (c_J1_charAt_3b067 (d := d - 1) (by omega) q_b5 h6) (by omega) (by omega) (by omega) rfl rfl (Nat.le_of_ble_eq_true rfl) dJ0_charAt_5068e_12 (g_sameS ?_)
    obtain ⟨_, h7, h⟩ := gbnd h
    obtain rfl := Option.some.inj h
    exact g_ret_i hF rfl (chk_sp h7) dJ0_charAt_5068e_15 hR (by omega) (by omega)
theorem c_J0_charAt_5068e {d : Nat} {T : gT} {M : gM} {m_a0 : Nat} {a0 : Nat} {i1 : Int32} {o : Int32} (hd : 4 ≤ d) (q0 : T[a0]? = some (19, m_a0)) (h : f_J0_charAt_5068e T M a0 i1 = some o) : gRet d yJ0_charAt_5068e cJ0_charAt_5068e 2 (some .char) 0 0 [.ref a0, .int i1] T M (gSame T (some (.int o)) M) := by
  refine gRet_of (own := RJ0) (by decide) rfl (Nat.le_of_ble_eq_true rfl) (fun Z ad0 hn h0 hF => ?_)
  exact t_J0_charAt_5068e (ce := 0) (so := 0) hF hn hd (Nat.le_refl _) (Nat.le_refl _) q0 h ⟨rfl, rfl, rfl, rfl⟩
theorem t_J0_getBytes_840e7 {Z : gZ} {d mc ms : Nat} {Acc : Option Value → (Nat → Nat) → gT → gM → Prop} {AccX : Nat → (Nat → Nat) → gT → gM → Prop} {ad : Nat → Nat} {T : gT} {M : gM} {ce so : Nat} {m_a0 m_a1 : Nat} {a0 : Nat} {a1 : Nat} {i2 : Int32} {i3 : Int32} {o : gM} (hF : gFix Z cJ0_getBytes_840e7 RJ0 "getBytes" none d mc ms Acc AccX) (hn : Z.2.2.2.2.2.1 = 4) (hd : 2 ≤ d) (hk1 : ce ≤ mc) (hk2 : so ≤ ms) (q0 : T[a0]? = some (19, m_a0)) (q1 : T[a1]? = some (10, m_a1)) (h : f_J0_getBytes_840e7 T M a0 a1 i2 i3 = some o) (hR : Acc (none) ad T o) : gG Z ad T M ce so 0 [(0, .ref a0), (1, .ref a1), (2, .int i2), (3, .int i3)] [] := by
  unfold f_J0_getBytes_840e7 at h
  refine g_aload_n hF 0 rfl rfl dJ0_getBytes_840e7_0 ?_
  obtain ⟨x1, h1, h⟩ := gbnd h
  refine g_callV hF my_J0_coder_7d493 kw_769 kw_770 kw_771 gC_19.1 (by decide) q0 (c_J0_coder_7d493 (d := d - 1) (by omega) q0 h1) (by omega) (by omega) (by omega) rfl rfl (Nat.le_of_ble_eq_true rfl) dJ0_getBytes_840e7_1 (g_sameS ?_)
  refine g_iload_n hF 3 rfl rfl dJ0_getBytes_840e7_4 ?_
  refine g_icmp_ne (tgt := 28) hF dJ0_getBytes_840e7_5 (by decide) (fun c2 => ?_) (fun c2 => ?_)
  · replace h := gif_t c2 h
    refine g_aload_n hF 0 rfl rfl dJ0_getBytes_840e7_28 ?_
    obtain ⟨b3, h3, h⟩ := gbnd h
    obtain ⟨g3, l3, q_b3⟩ := ldr_sp h3
    refine g_get_r hF g3 fl_RJ0_9 q0 dJ0_getBytes_840e7_29 ?_
    refine g_iconst (v := (0 : Int32)) hF rfl dJ0_getBytes_840e7_32 ?_
    refine g_aload_n hF 1 rfl rfl dJ0_getBytes_840e7_33 ?_
    refine g_iload_n hF 2 rfl rfl dJ0_getBytes_840e7_34 ?_
    refine g_aload_n hF 0 rfl rfl dJ0_getBytes_840e7_35 ?_
    obtain ⟨b4, h4, h⟩ := gbnd h
    obtain ⟨g4, l4, q_b4⟩ := ldr_sp h4
    refine g_get_r hF g4 fl_RJ0_9 q0 dJ0_getBytes_840e7_36 ?_
    refine g_alenA hF q_b4 (by decide) dJ0_getBytes_840e7_39 ?_
    cases h
  · replace h := gif_n c2 h
    refine g_aload_n hF 0 rfl rfl dJ0_getBytes_840e7_8 ?_
    obtain ⟨b6, h6, h⟩ := gbnd h
    obtain ⟨g6, l6, q_b6⟩ := ldr_sp h6
    refine g_get_r hF g6 fl_RJ0_9 q0 dJ0_getBytes_840e7_9 ?_
    refine g_iconst (v := (0 : Int32)) hF rfl dJ0_getBytes_840e7_12 ?_
    refine g_aload_n hF 1 rfl rfl dJ0_getBytes_840e7_13 ?_
    refine g_iload_n hF 2 rfl rfl dJ0_getBytes_840e7_14 ?_
    refine g_iload_n hF 3 rfl rfl dJ0_getBytes_840e7_15 ?_
    refine g_ishl hF dJ0_getBytes_840e7_16 ?_
    refine g_aload_n hF 0 rfl rfl dJ0_getBytes_840e7_17 ?_
    obtain ⟨b7, h7, h⟩ := gbnd h
    obtain ⟨g7, l7, q_b7⟩ := ldr_sp h7
    refine g_get_r hF g7 fl_RJ0_9 q0 dJ0_getBytes_840e7_18 ?_
    refine g_alenA hF q_b7 (by decide) dJ0_getBytes_840e7_21 ?_
    obtain ⟨M8, h8, h⟩ := gbnd h
    obtain ⟨k8a, k8b, k8c, k8d, k8e, k8f, e8v⟩ := acpb_sp q_b6 q1 h8
    refine g_copy_b hF kw_1250 q_b6 q1 k8a k8b k8c k8d k8e k8f (by omega) (Nat.le_of_ble_eq_true rfl) dJ0_getBytes_840e7_22 ?_
    rw [← e8v]
    refine g_goto (tgt := 43) hF dJ0_getBytes_840e7_25 (by decide) ?_
    obtain rfl := Option.some.inj h
    exact g_ret_v hF rfl dJ0_getBytes_840e7_43 hR (by omega) (by omega)
theorem c_J0_getBytes_840e7 {d : Nat} {T : gT} {M : gM} {m_a0 m_a1 : Nat} {a0 : Nat} {a1 : Nat} {i2 : Int32} {i3 : Int32} {o : gM} (hd : 2 ≤ d) (q0 : T[a0]? = some (19, m_a0)) (q1 : T[a1]? = some (10, m_a1)) (h : f_J0_getBytes_840e7 T M a0 a1 i2 i3 = some o) : gRet d yJ0_getBytes_840e7 cJ0_getBytes_840e7 4 none 0 0 [.ref a0, .ref a1, .int i2, .int i3] T M (gSame T (none) o) := by
  refine gRet_of (own := RJ0) (by decide) rfl (Nat.le_of_ble_eq_true rfl) (fun Z ad0 hn h0 hF => ?_)
  exact t_J0_getBytes_840e7 (ce := 0) (so := 0) hF hn hd (Nat.le_refl _) (Nat.le_refl _) q0 q1 h ⟨rfl, rfl, rfl, rfl⟩
theorem trip {α : Type} {e : Option (α × Nat × Nat)} {x : α × Nat × Nat} (h : e = some x) : e = some (x.1, x.2.1, x.2.2) := h
theorem alen_at {T : gT} {a k n : Nat} (h : T[a]? = some (k, n)) : T[a]? = some (k, alen T a) := by rw [alen_of h]; exact h
theorem gBy_c (i k : Nat) : ((gStrs.map (fun l => l.map Int32.ofNat)).getD i []).getD k 0 = gSc i k := by
  rw [gSc]
  simp only [List.getD_eq_getElem?_getD, List.getElem?_map]
  cases gStrs[i]? with
  | none => rfl
  | some l =>
    simp only [Option.map_some, Option.getD_some, List.getElem?_map]
    cases l[k]? <;> rfl
theorem gSc_fit : ∀ i, i < 34 → ∀ k, k < gSl i → fits .byte (.int (gSc i k)) = true := by decide +kernel
theorem gE_gcs {dA : Nat → ClassId} {ad : Nat → Nat} {M : gM} {i a dp : Nat} : ∀ b sh', b ≠ a → gE dA ad (gcs M i a dp) b sh' = gE dA ad M b sh' := fun b sh' hb => gE_ext (fun j => by rw [gi_gcs, if_neg (fun z => hb z.1)]) (fun j => rfl) (fun j => rfl)
theorem g_copyC {Z : gZ} {cc : ByteArray} {own nm : String} {rt : Option FieldType} {d mc ms : Nat} {Acc : Option Value → (Nat → Nat) → gT → gM → Prop} {AccX : Nat → (Nat → Nat) → gT → gM → Prop} {ad : Nat → Nat} {T : gT} {M : gM} {ce so pc : Nat} {ls : List (Nat × Value)} {st : List Value} (hF : gFix Z cc own nm rt d mc ms Acc AccX) {idx i a n1 : Nat} {dp : Int32} (hi : i < 34) (hw : Cond.methodLink own idx arraycopyName ∈ gWS) (ha0 : T[a]? = some (10, n1)) (h2 : ¬ dp < 0) (h5 : dp.toNatClampNeg + gSl i ≤ n1) (hdd : 1 ≤ d) (hcat : (st.map fun v => v.category).sum ≤ 8) (hd : decode cc pc = .ok (.invokestatic idx, 3))
    (k : gG Z ad T (gcs M i a dp.toNatClampNeg) ce so (pc + 3) ls st) : gG Z ad T M ce so pc ls (.int (Int32.ofNat (gSl i)) :: .int dp :: .ref a :: .int 0 :: .ref (gSB + 1000 + i) :: st) := by
  obtain ⟨p, l, e, R, s, m, args, below, meth, c, Q, adV, hKq, hx, hb, hml, hown, hts, hK, hH, hA, hE, hRm, hnm, hlk9, hst9, -⟩ := hF
  intro H locs la hR hl
  have k := fun H1 locs1 hR1 => k H1 locs1 la hR1 hl
  rw [hKq] at k ⊢
  have hea := gW_get (dA := Z.2.2.2.2.1) (ad := ad) (M := M) ha0
  rw [gE_b] at hea
  have hS9 := hR.2.2.1
  rw [hH] at hS9
  have hlen : (gStrs.map List.length).getD i 0 = gSl i := by
    rw [gSl, List.getD_eq_getElem?_getD, List.getElem?_map, List.getD_eq_getElem?_getD]
    cases gStrs[i]? <;> rfl
  have hsm := gSl_sm i hi
  have hcl : (Int32.ofNat (gSl i)).toNatClampNeg = gSl i := nI_clamp (by omega)
  have hX := (hE.2.2.1.1 i hi).2.2.2
  rw [hlen] at hX
  have e1 : gv ad (.ref (gSB + 1000 + i)) = .ref (adV i) := by
    show Value.ref (ad _) = _
    rw [hR.2.2.2.2 _ (by omega), hE.2.2.2.2.2.2.2.2.2.2.2.2.2.1 i hi]
  have hset := gW_set (dA := Z.2.2.2.2.1) (ad := ad) (M := M) (M' := gcs M i a dp.toNatClampNeg) (e := .inl (Z.2.2.2.2.1 10, n1, .inl (va_cpy (fun j => ((gStrs.map (fun l => l.map Int32.ofNat)).getD i []).getD j 0) (fun j => gi M a j) (0 : Int32).toNatClampNeg dp.toNatClampNeg (Int32.ofNat (gSl i)).toNatClampNeg))) ha0 (by
    rw [gE_b]
    congr 4
    funext j
    rw [hcl]
    simp only [gi_gcs, true_and, va_cpy, gBy_c, show (0 : Int32).toNatClampNeg = 0 from rfl, Nat.zero_add]) gE_gcs
  simp only [List.map_cons, e1]
  refine vk_copyt hx hb (hml.trans hl.1.symm) hown (hts _ hw) (hts _ gm_ac2) (hts _ gm_ac1) (hts _ gm_ac3) hK hR.1 hR.2.1 hS9 hX a 0 hea rfl (by decide) h2 (nI_pos (by omega)) (by rw [hcl]; exact Nat.le_of_eq (Nat.zero_add _)) (by rw [hcl]; exact h5) (fun j hj => ?_) (by have := hRm.1; omega) (by
    have h9 : (((st.map (gv ad)).map fun v => v.category).sum) ≤ 8 := by
      rw [List.map_map, show ((fun v : Value => v.category) ∘ gv ad) = (fun v => v.category) from funext fun v => gv_cat ad v]
      exact hcat
    have := hRm.2.1
    rw [gm_ac4]; omega) hd (fun H1 locs1 hP hD hS => k H1 locs1 ⟨by rw [← hset]; exact hP, by rw [← hset]; exact hD, by rw [hH]; exact hS, hR.2.2.2.1, hR.2.2.2.2⟩)
  rw [hcl] at hj
  show fits .byte (.int (((gStrs.map (fun l => l.map Int32.ofNat)).getD i []).getD (0 + j) 0)) = true
  rw [Nat.zero_add, gBy_c]
  exact gSc_fit i hi j hj
theorem gst_c {T : gT} {s : Nat} (hs : gStr T s) (hz : ¬ (T[s]?).map Prod.fst = some 19) : ∃ i, i < 34 ∧ s = gSB + i := by
  rcases hs with h | ⟨n, q⟩
  · exact h
  · exact absurd (by rw [q]; rfl) hz
theorem cS_length {T : gT} {M : gM} {s d : Nat} {v : Int32} (hd : 2 ≤ d) (hs : gStr T s) (h : fS_length T M s = some v) : gRet d yJ0_length_8abf5 cJ0_length_8abf5 1 (some .int) 0 0 [.ref s] T M (gSame T (some (.int v)) M) := by
  unfold fS_length at h
  by_cases hz : (T[s]?).map Prod.fst = some 19
  · rw [if_pos hz] at h
    obtain ⟨n, q⟩ := gzT_sp hz
    exact c_J0_length_8abf5 (by omega) q h
  · rw [if_neg hz] at h
    obtain ⟨_, -, h⟩ := gbnd h
    obtain ⟨i, hi, rfl⟩ := gst_c hs hz
    rw [Nat.add_sub_cancel_left] at h
    exact c_slen h hd
theorem cS_charAt {T : gT} {M : gM} {s d : Nat} {k v : Int32} (hd : 4 ≤ d) (hs : gStr T s) (h : fS_charAt T M s k = some v) : gRet d yJ0_charAt_5068e cJ0_charAt_5068e 2 (some .char) 0 0 [.ref s, .int k] T M (gSame T (some (.int v)) M) := by
  unfold fS_charAt at h
  by_cases hz : (T[s]?).map Prod.fst = some 19
  · rw [if_pos hz] at h
    obtain ⟨n, q⟩ := gzT_sp hz
    exact c_J0_charAt_5068e (by omega) q h
  · rw [if_neg hz] at h
    obtain ⟨_, -, h⟩ := gbnd h
    obtain ⟨i, hi, rfl⟩ := gst_c hs hz
    rw [Nat.add_sub_cancel_left] at h
    exact c_sch h (by omega)
theorem cS_coder {T : gT} {M : gM} {s d : Nat} {v : Int32} (hd : 1 ≤ d) (hs : gStr T s) (h : fS_coder T M s = some v) : gRet d yJ0_coder_7d493 cJ0_coder_7d493 1 (some .byte) 0 0 [.ref s] T M (gSame T (some (.int v)) M) := by
  unfold fS_coder at h
  by_cases hz : (T[s]?).map Prod.fst = some 19
  · rw [if_pos hz] at h
    obtain ⟨n, q⟩ := gzT_sp hz
    exact c_J0_coder_7d493 (by omega) q h
  · rw [if_neg hz] at h
    obtain ⟨_, -, h⟩ := gbnd h
    obtain ⟨i, hi, rfl⟩ := gst_c hs hz
    obtain ⟨_, -, h⟩ := gbnd h
    cases h
    exact c_J0_coder hi hd
theorem cS_getBytes {T : gT} {M M' : gM} {s a d m_a1 : Nat} {dp cd : Int32} (hd : 2 ≤ d) (hs : gStr T s) (qa : T[a]? = some (10, m_a1)) (h : fS_getBytes T M s a dp cd = some M') : gRet d yJ0_getBytes_840e7 cJ0_getBytes_840e7 4 none 0 0 [.ref s, .ref a, .int dp, .int cd] T M (gSame T none M') := by
  unfold fS_getBytes at h
  by_cases hz : (T[s]?).map Prod.fst = some 19
  · rw [if_pos hz] at h
    obtain ⟨n, q⟩ := gzT_sp hz
    exact c_J0_getBytes_840e7 (by omega) q qa h
  · rw [if_neg hz] at h
    obtain ⟨_, h1, h⟩ := gbnd h
    obtain ⟨i, hi, rfl⟩ := gst_c hs hz
    rw [Nat.add_sub_cancel_left] at h
    cases h
    obtain ⟨-, -, rfl, h2, h5⟩ := chk_sp h1
    rw [Nat.add_sub_cancel_left, alen_of qa] at h5
    have hsh : dp <<< ((0 : Int32) &&& 31) = dp := by rw [show ((0 : Int32) &&& 31) = 0 from by decide, Int32.shiftLeft_zero]
    refine gRet_of (own := RJ0) (by decide) rfl (Nat.le_of_ble_eq_true rfl) (fun Z ad0 hn h0 hF => ?_)
    refine g_aload_n hF 0 rfl rfl dJ0_getBytes_840e7_0 ?_
    refine g_callVSt (as := []) (st := []) hF my_J0_coder (gws_of 769 (by decide +kernel) (by decide +kernel)) (gws_of 770 (by decide +kernel) (by decide +kernel)) (gws_of 771 (by decide +kernel) (by decide +kernel)) hi rfl (c_J0_coder (d := 1) hi (Nat.le_refl _)) hd (Nat.le_refl _) (Nat.le_refl _) rfl rfl (Nat.le_of_ble_eq_true rfl) dJ0_getBytes_840e7_1 (g_same ?_)
    refine g_iload_n hF 3 rfl rfl dJ0_getBytes_840e7_4 ?_
    refine g_icmp_ne (tgt := 28) hF dJ0_getBytes_840e7_5 (by decide) (fun q => absurd rfl q) (fun _ => ?_)
    refine g_aload_n hF 0 rfl rfl dJ0_getBytes_840e7_8 ?_
    refine g_sval hF hi (gws_of 1343 (by decide +kernel) (by decide +kernel)) dJ0_getBytes_840e7_9 ?_
    refine g_iconst (v := (0 : Int32)) hF rfl dJ0_getBytes_840e7_12 ?_
    refine g_aload_n hF 1 rfl rfl dJ0_getBytes_840e7_13 ?_
    refine g_iload_n hF 2 rfl rfl dJ0_getBytes_840e7_14 ?_
    refine g_iload_n hF 3 rfl rfl dJ0_getBytes_840e7_15 ?_
    refine g_ishl hF dJ0_getBytes_840e7_16 ?_
    refine g_aload_n hF 0 rfl rfl dJ0_getBytes_840e7_17 ?_
    refine g_sval hF hi (gws_of 1343 (by decide +kernel) (by decide +kernel)) dJ0_getBytes_840e7_18 ?_
    refine g_sblen hF hi dJ0_getBytes_840e7_21 ?_
    rw [hsh]
    refine g_copyC hF hi (gws_of 1250 (by decide +kernel) (by decide +kernel)) qa h2 h5 (by omega) (Nat.le_of_ble_eq_true rfl) dJ0_getBytes_840e7_22 ?_
    refine g_goto (tgt := 43) hF dJ0_getBytes_840e7_25 (by decide) ?_
    exact g_ret_v hF rfl dJ0_getBytes_840e7_43 ⟨rfl, rfl, rfl, rfl⟩ (Nat.le_refl _) (Nat.le_refl _)
theorem t_J5_length_8abf5 {Z : gZ} {d mc ms : Nat} {Acc : Option Value → (Nat → Nat) → gT → gM → Prop} {AccX : Nat → (Nat → Nat) → gT → gM → Prop} {ad : Nat → Nat} {T : gT} {M : gM} {ce so : Nat} {m_a0 : Nat} {a0 : Nat} {o : Int32} (hF : gFix Z cJ5_length_8abf5 RJ5 "length" (some .int) d mc ms Acc AccX) (hn : Z.2.2.2.2.2.1 = 1) (hd : 1 ≤ d) (hk1 : ce ≤ mc) (hk2 : so ≤ ms) (q0 : T[a0]? = some (20, m_a0)) (h : f_J5_length_8abf5 T M a0 = some o) (hR : Acc (some (.int o)) ad T M) : gG Z ad T M ce so 0 [(0, .ref a0)] [] := by
  unfold f_J5_length_8abf5 at h
  refine g_aload_n hF 0 rfl rfl dJ5_length_8abf5_0 ?_
  refine g_get_i hF fl_RJ5_79 q0 dJ5_length_8abf5_1 ?_
  obtain rfl := Option.some.inj h
  exact g_ret_i hF rfl rfl dJ5_length_8abf5_4 hR (by omega) (by omega)
theorem c_J5_length_8abf5 {d : Nat} {T : gT} {M : gM} {m_a0 : Nat} {a0 : Nat} {o : Int32} (hd : 1 ≤ d) (q0 : T[a0]? = some (20, m_a0)) (h : f_J5_length_8abf5 T M a0 = some o) : gRet d yJ5_length_8abf5 cJ5_length_8abf5 1 (some .int) 0 0 [.ref a0] T M (gSame T (some (.int o)) M) := by
  refine gRet_of (own := RJ5) (by decide) rfl (Nat.le_of_ble_eq_true rfl) (fun Z ad0 hn h0 hF => ?_)
  exact t_J5_length_8abf5 (ce := 0) (so := 0) hF hn hd (Nat.le_refl _) (Nat.le_refl _) q0 h ⟨rfl, rfl, rfl, rfl⟩
theorem t_J4_length_8abf5 {Z : gZ} {d mc ms : Nat} {Acc : Option Value → (Nat → Nat) → gT → gM → Prop} {AccX : Nat → (Nat → Nat) → gT → gM → Prop} {ad : Nat → Nat} {T : gT} {M : gM} {ce so : Nat} {m_a0 : Nat} {a0 : Nat} {o : Int32} (hF : gFix Z cJ4_length_8abf5 RJ4 "length" (some .int) d mc ms Acc AccX) (hn : Z.2.2.2.2.2.1 = 1) (hd : 2 ≤ d) (hk1 : ce ≤ mc) (hk2 : so ≤ ms) (q0 : T[a0]? = some (20, m_a0)) (h : f_J4_length_8abf5 T M a0 = some o) (hR : Acc (some (.int o)) ad T M) : gG Z ad T M ce so 0 [(0, .ref a0)] [] := by
  unfold f_J4_length_8abf5 at h
  refine g_aload_n hF 0 rfl rfl dJ4_length_8abf5_0 ?_
  obtain ⟨x1, h1, h⟩ := gbnd h
  refine g_callSU hF my_J5_length_8abf5 kw_1289 kw_1285 kw_1159 kw_1284 (by decide) gC_20.1 (by decide) q0 (c_J5_length_8abf5 (d := d - 1) (by omega) q0 h1) (by omega) (by omega) (by omega) rfl rfl (Nat.le_of_ble_eq_true rfl) dJ4_length_8abf5_1 (g_sameS ?_)
  obtain rfl := Option.some.inj h
  exact g_ret_i hF rfl rfl dJ4_length_8abf5_4 hR (by omega) (by omega)
theorem c_J4_length_8abf5 {d : Nat} {T : gT} {M : gM} {m_a0 : Nat} {a0 : Nat} {o : Int32} (hd : 2 ≤ d) (q0 : T[a0]? = some (20, m_a0)) (h : f_J4_length_8abf5 T M a0 = some o) : gRet d yJ4_length_8abf5 cJ4_length_8abf5 1 (some .int) 0 0 [.ref a0] T M (gSame T (some (.int o)) M) := by
  refine gRet_of (own := RJ4) (by decide) rfl (Nat.le_of_ble_eq_true rfl) (fun Z ad0 hn h0 hF => ?_)
  exact t_J4_length_8abf5 (ce := 0) (so := 0) hF hn hd (Nat.le_refl _) (Nat.le_refl _) q0 h ⟨rfl, rfl, rfl, rfl⟩
theorem t_J5_init_d00df {Z : gZ} {d mc ms : Nat} {Acc : Option Value → (Nat → Nat) → gT → gM → Prop} {AccX : Nat → (Nat → Nat) → gT → gM → Prop} {ad : Nat → Nat} {T : gT} {M : gM} {ce so c9 s9 : Nat} {m_a0 : Nat} {a0 : Nat} {i1 : Int32} {o : gT × gM} (hF : gFix Z cJ5_init_d00df RJ5 "<init>" none d mc ms Acc AccX) (hn : Z.2.2.2.2.2.1 = 2) (hd : 1 ≤ d) (hk1 : ce + c9 ≤ mc) (hk2 : so + s9 ≤ ms) (q0 : T[a0]? = some (20, m_a0)) (h : f_J5_init_d00df T M a0 i1 = some (o, c9, s9)) (hR : ∀ ad1 : Nat → Nat, gExt T o.1 → (∀ a : Nat, a < T.length → ad1 a = ad a) → Acc (none) ad1 o.1 o.2) : gG Z ad T M ce so 0 [(0, .ref a0), (1, .int i1)] [] := by
  unfold f_J5_init_d00df at h
  refine g_aload_n hF 0 rfl rfl dJ5_init_d00df_0 ?_
  refine g_obj hF kw_1138 kw_102 kw_103 (by omega) (Nat.le_of_ble_eq_true rfl) dJ5_init_d00df_1 ?_
  refine g_compact hF kw_1139 dJ5_init_d00df_4 ?_
  refine g_if_eq (tgt := 25) hF dJ5_init_d00df_7 (by decide) (fun q => absurd q (by decide)) (fun _ => ?_)
  refine g_aload_n hF 0 rfl rfl dJ5_init_d00df_10 ?_
  refine g_iload_n hF 1 rfl rfl dJ5_init_d00df_11 ?_
  obtain ⟨x2, h2, h⟩ := gbnd h
  obtain ⟨c2, s2, h, ec2, es2⟩ := cadd_sp h
  obtain ⟨n20, n21, n2h⟩ := gnewa_sp h2
  refine g_newa_byte hF n20 rfl n21 kw_145 n2h (gnew_lt n2h) (gFr_r (gT_ne q0) (gFr_i gFr_0)) (gFr_r (gT_ne q0) gFr_0) (by omega) (by omega) dJ5_init_d00df_12 (fun ad2 z2 => ?_)
  have y2 : ∀ b : Nat, b < T.length → ad2 b = ad b := fun b hb => z2 b (by rw [(gnew_sp n2h).1]; omega)
  have X2 := gExt.tr gExt.rf (gnew_ext n2h)
  have W2 := gad_call y2 gExt.rf (fun _ _ => rfl)
  have q_3 := (gnew_ext n2h) _ _ q0
  have q_y2 := gnew_at n2h
  refine g_put_r hF (fun _ => rfl) (fun _ => rfl) (gT_lt q_y2) fl_RJ5_15 q_3 dJ5_init_d00df_14 ?_
  refine g_aload_n hF 0 rfl rfl dJ5_init_d00df_17 ?_
  refine g_iconst (v := (0 : Int32)) hF rfl dJ5_init_d00df_18 ?_
  refine g_put_i hF rfl rfl fl_RJ5_22 q_3 dJ5_init_d00df_19 ?_
  refine g_goto (tgt := 38) hF dJ5_init_d00df_22 (by decide) ?_
  cases h
  exact g_ret_v hF rfl dJ5_init_d00df_38 (hR ad2 X2 W2) (by omega) (by omega)
theorem c_J5_init_d00df {d : Nat} {T : gT} {M : gM} {c9 s9 : Nat} {m_a0 : Nat} {a0 : Nat} {i1 : Int32} {o : gT × gM} (hd : 1 ≤ d) (q0 : T[a0]? = some (20, m_a0)) (h : f_J5_init_d00df T M a0 i1 = some (o, c9, s9)) : gRet d yJ5_init_d00df cJ5_init_d00df 2 none c9 s9 [.ref a0, .int i1] T M (gMade T (none) o.1 o.2) := by
  refine gRet_of (own := RJ5) (by decide) rfl (Nat.le_of_ble_eq_true rfl) (fun Z ad0 hn h0 hF => ?_)
  exact t_J5_init_d00df (ce := 0) (so := 0) hF hn hd (by omega) (by omega) q0 h (fun ad1 x1 y1 => ⟨rfl, rfl, rfl, x1, y1⟩)
theorem t_J8_newLength_cabcc_21 {Z : gZ} {d mc ms : Nat} {Acc : Option Value → (Nat → Nat) → gT → gM → Prop} {AccX : Nat → (Nat → Nat) → gT → gM → Prop} {ad : Nat → Nat} {T : gT} {M : gM} {ce so : Nat}  {i0 : Int32} {i1 : Int32} {o : Int32} (hF : gFix Z cJ8_newLength_cabcc RJ8 "newLength" (some .int) d mc ms Acc AccX) (hn : Z.2.2.2.2.2.1 = 4) (hd : 1 ≤ d) (hk1 : ce ≤ mc) (hk2 : so ≤ ms)  (h : f_J8_newLength_cabcc_21 T M i0 i1 = some o) (hR : Acc (some (.int o)) ad T M) : gG Z ad T M ce so 21 [(0, .int i0), (1, .int i1)] [] := by
  unfold f_J8_newLength_cabcc_21 at h
  refine g_iload_n hF 0 rfl rfl dJ8_newLength_cabcc_21 ?_
  refine g_iload_n hF 1 rfl rfl dJ8_newLength_cabcc_22 ?_
  cases h
theorem t_J8_newLength_cabcc {Z : gZ} {d mc ms : Nat} {Acc : Option Value → (Nat → Nat) → gT → gM → Prop} {AccX : Nat → (Nat → Nat) → gT → gM → Prop} {ad : Nat → Nat} {T : gT} {M : gM} {ce so : Nat}  {i0 : Int32} {i1 : Int32} {i2 : Int32} {o : Int32} (hF : gFix Z cJ8_newLength_cabcc RJ8 "newLength" (some .int) d mc ms Acc AccX) (hn : Z.2.2.2.2.2.1 = 4) (hd : 1 ≤ d) (hk1 : ce ≤ mc) (hk2 : so ≤ ms)  (h : f_J8_newLength_cabcc T M i0 i1 i2 = some o) (hR : Acc (some (.int o)) ad T M) : gG Z ad T M ce so 0 [(0, .int i0), (1, .int i1), (2, .int i2)] [] := by
  unfold f_J8_newLength_cabcc at h
  refine g_iload_n hF 0 rfl rfl dJ8_newLength_cabcc_0 ?_
  refine g_iload_n hF 1 rfl rfl dJ8_newLength_cabcc_1 ?_
  refine g_iload_n hF 2 rfl rfl dJ8_newLength_cabcc_2 ?_
  refine g_max hF kw_1183 (by omega) (by omega) (by omega) (Nat.le_of_ble_eq_true rfl) dJ8_newLength_cabcc_3 ?_
  refine g_iadd hF dJ8_newLength_cabcc_6 ?_
  refine g_istore_n (ls' := [(3, .int (i0 + (imax i1 i2))), (0, .int i0), (1, .int i1), (2, .int i2)]) hF rfl (by rw [hn]; decide) rfl dJ8_newLength_cabcc_7 ?_
  refine g_iconst (v := (0 : Int32)) hF rfl dJ8_newLength_cabcc_8 ?_
  refine g_iload_n hF 0 rfl rfl dJ8_newLength_cabcc_9 ?_
  refine g_icmp_ge (tgt := 21) hF dJ8_newLength_cabcc_10 (by decide) (fun c3 => ?_) (fun c3 => ?_)
  · replace h := gif_t c3 h
    exact gG_sub [1, 2] rfl (t_J8_newLength_cabcc_21 hF hn hd (by omega) (by omega)  h hR)
  · replace h := gif_f c3 h
    refine g_iload_n hF 0 rfl rfl dJ8_newLength_cabcc_13 ?_
    refine g_ldc (v := (2147483639 : Int32)) hF kw_1184 dJ8_newLength_cabcc_14 ?_
    refine g_icmp_gt (tgt := 21) hF dJ8_newLength_cabcc_16 (by decide) (fun c4 => ?_) (fun c4 => ?_)
    · replace h := gif_t c4 h
      exact gG_sub [1, 2] rfl (t_J8_newLength_cabcc_21 hF hn hd (by omega) (by omega)  h hR)
    · replace h := gif_f c4 h
      refine g_iload_n hF 0 rfl rfl dJ8_newLength_cabcc_19 ?_
      obtain rfl := Option.some.inj h
      exact g_ret_i hF rfl rfl dJ8_newLength_cabcc_20 hR (by omega) (by omega)
theorem c_J8_newLength_cabcc {d : Nat} {T : gT} {M : gM}  {i0 : Int32} {i1 : Int32} {i2 : Int32} {o : Int32} (hd : 1 ≤ d)  (h : f_J8_newLength_cabcc T M i0 i1 i2 = some o) : gRet d yJ8_newLength_cabcc cJ8_newLength_cabcc 4 (some .int) 0 0 [.int i0, .int i1, .int i2] T M (gSame T (some (.int o)) M) := by
  refine gRet_of (own := RJ8) (by decide) rfl (Nat.le_of_ble_eq_true rfl) (fun Z ad0 hn h0 hF => ?_)
  exact t_J8_newLength_cabcc (ce := 0) (so := 0) hF hn hd (Nat.le_refl _) (Nat.le_refl _)  h ⟨rfl, rfl, rfl, rfl⟩
theorem t_J5_newCapacity_0f7a4 {Z : gZ} {d mc ms : Nat} {Acc : Option Value → (Nat → Nat) → gT → gM → Prop} {AccX : Nat → (Nat → Nat) → gT → gM → Prop} {ad : Nat → Nat} {T : gT} {M : gM} {ce so : Nat} {m_a0 : Nat} {a0 : Nat} {i1 : Int32} {o : Int32} (hF : gFix Z cJ5_newCapacity_0f7a4 RJ5 "newCapacity" (some .int) d mc ms Acc AccX) (hn : Z.2.2.2.2.2.1 = 6) (hd : 2 ≤ d) (hk1 : ce ≤ mc) (hk2 : so ≤ ms) (q0 : T[a0]? = some (20, m_a0)) (h : f_J5_newCapacity_0f7a4 T M a0 i1 = some o) (hR : Acc (some (.int o)) ad T M) : gG Z ad T M ce so 0 [(0, .ref a0), (1, .int i1)] [] := by
  unfold f_J5_newCapacity_0f7a4 at h
  refine g_aload_n hF 0 rfl rfl dJ5_newCapacity_0f7a4_0 ?_
  obtain ⟨b1, h1, h⟩ := gbnd h
  obtain ⟨g1, l1, q_b1⟩ := ldr_sp h1
  refine g_get_r hF g1 fl_RJ5_15 q0 dJ5_newCapacity_0f7a4_1 ?_
  refine g_alenA hF q_b1 (by decide) dJ5_newCapacity_0f7a4_4 ?_
  refine g_istore_n (ls' := [(2, .int (Int32.ofNat (alen T b1))), (0, .ref a0), (1, .int i1)]) hF rfl (by rw [hn]; decide) rfl dJ5_newCapacity_0f7a4_5 ?_
  refine g_iload_n hF 2 rfl rfl dJ5_newCapacity_0f7a4_6 ?_
  refine g_aload_n hF 1 rfl rfl dJ5_newCapacity_0f7a4_7 ?_
  refine g_get_i hF fl_RJ5_22 q0 dJ5_newCapacity_0f7a4_8 ?_
  refine g_ishl hF dJ5_newCapacity_0f7a4_11 ?_
  refine g_istore_n (ls' := [(3, .int (i1 <<< ((gi M a0 1) &&& 31))), (2, .int (Int32.ofNat (alen T b1))), (0, .ref a0), (1, .int i1)]) hF rfl (by rw [hn]; decide) rfl dJ5_newCapacity_0f7a4_12 ?_
  refine g_iload_n hF 0 rfl rfl dJ5_newCapacity_0f7a4_13 ?_
  refine g_iload_n hF 1 rfl rfl dJ5_newCapacity_0f7a4_14 ?_
  refine g_isub hF dJ5_newCapacity_0f7a4_15 ?_
  refine g_istore (ls' := [(4, .int ((i1 <<< ((gi M a0 1) &&& 31)) - (Int32.ofNat (alen T b1)))), (3, .int (i1 <<< ((gi M a0 1) &&& 31))), (2, .int (Int32.ofNat (alen T b1))), (0, .ref a0), (1, .int i1)]) hF (by rw [hn]; decide) rfl dJ5_newCapacity_0f7a4_16 ?_
  refine g_iload_n hF 2 rfl rfl dJ5_newCapacity_0f7a4_18 ?_
  refine g_iload hF 0 rfl dJ5_newCapacity_0f7a4_19 ?_
  refine g_iload_n hF 2 rfl rfl dJ5_newCapacity_0f7a4_21 ?_
  refine g_iconst (v := (2 : Int32)) hF rfl dJ5_newCapacity_0f7a4_22 ?_
  refine g_aload_n hF 3 rfl rfl dJ5_newCapacity_0f7a4_23 ?_
  refine g_get_i hF fl_RJ5_22 q0 dJ5_newCapacity_0f7a4_24 ?_
  refine g_ishl hF dJ5_newCapacity_0f7a4_27 ?_
  refine g_iadd hF dJ5_newCapacity_0f7a4_28 ?_
  obtain ⟨x2, h2, h⟩ := gbnd h
  refine g_callS hF my_J8_newLength_cabcc kw_1180 kw_1181 (c_J8_newLength_cabcc (d := d - 1) (by omega)  h2) (by omega) (by omega) (by omega) rfl rfl (Nat.le_of_ble_eq_true rfl) dJ5_newCapacity_0f7a4_29 (g_sameS ?_)
  refine g_istore (ls' := [(5, .int x2), (4, .int ((i1 <<< ((gi M a0 1) &&& 31)) - (Int32.ofNat (alen T b1)))), (3, .int (i1 <<< ((gi M a0 1) &&& 31))), (2, .int (Int32.ofNat (alen T b1))), (0, .ref a0), (1, .int i1)]) hF (by rw [hn]; decide) rfl dJ5_newCapacity_0f7a4_32 ?_
  refine g_iload hF 0 rfl dJ5_newCapacity_0f7a4_34 ?_
  refine g_ldc (v := (2147483647 : Int32)) hF kw_1188 dJ5_newCapacity_0f7a4_36 ?_
  refine g_icmp_ne (tgt := 51) hF dJ5_newCapacity_0f7a4_38 (by decide) (fun c3 => ?_) (fun c3 => ?_)
  · replace h := gif_t c3 h
    refine g_iload hF 0 rfl dJ5_newCapacity_0f7a4_51 ?_
    refine g_aload_n hF 4 rfl rfl dJ5_newCapacity_0f7a4_53 ?_
    refine g_get_i hF fl_RJ5_22 q0 dJ5_newCapacity_0f7a4_54 ?_
    refine g_ishr hF dJ5_newCapacity_0f7a4_57 ?_
    obtain rfl := Option.some.inj h
    exact g_ret_i hF rfl rfl dJ5_newCapacity_0f7a4_58 hR (by omega) (by omega)
  · replace h := gif_n c3 h
    cases h
theorem c_J5_newCapacity_0f7a4 {d : Nat} {T : gT} {M : gM} {m_a0 : Nat} {a0 : Nat} {i1 : Int32} {o : Int32} (hd : 2 ≤ d) (q0 : T[a0]? = some (20, m_a0)) (h : f_J5_newCapacity_0f7a4 T M a0 i1 = some o) : gRet d yJ5_newCapacity_0f7a4 cJ5_newCapacity_0f7a4 6 (some .int) 0 0 [.ref a0, .int i1] T M (gSame T (some (.int o)) M) := by
  refine gRet_of (own := RJ5) (by decide) rfl (Nat.le_of_ble_eq_true rfl) (fun Z ad0 hn h0 hF => ?_)
  exact t_J5_newCapacity_0f7a4 (ce := 0) (so := 0) hF hn hd (Nat.le_refl _) (Nat.le_refl _) q0 h ⟨rfl, rfl, rfl, rfl⟩
theorem t_J7_copyOf_9075b {Z : gZ} {d mc ms : Nat} {Acc : Option Value → (Nat → Nat) → gT → gM → Prop} {AccX : Nat → (Nat → Nat) → gT → gM → Prop} {ad : Nat → Nat} {T : gT} {M : gM} {ce so c9 s9 : Nat} {m_a0 : Nat} {a0 : Nat} {i1 : Int32} {o : Nat × gT × gM} (hF : gFix Z cJ7_copyOf_9075b RJ7 "copyOf" (some (.array .byte)) d mc ms Acc AccX) (hn : Z.2.2.2.2.2.1 = 3) (hd : 1 ≤ d) (hk1 : ce + c9 ≤ mc) (hk2 : so + s9 ≤ ms) (q0 : T[a0]? = some (10, m_a0)) (h : f_J7_copyOf_9075b T M a0 i1 = some (o, c9, s9)) (hR : ∀ ad1 : Nat → Nat, gExt T o.2.1 → (∀ a : Nat, a < T.length → ad1 a = ad a) → Acc (some (.ref o.1)) ad1 o.2.1 o.2.2) : gG Z ad T M ce so 0 [(0, .ref a0), (1, .int i1)] [] := by
  unfold f_J7_copyOf_9075b at h
  refine g_iload_n hF 1 rfl rfl dJ7_copyOf_9075b_0 ?_
  refine g_aload_n hF 0 rfl rfl dJ7_copyOf_9075b_1 ?_
  refine g_alenA hF q0 (by decide) dJ7_copyOf_9075b_2 ?_
  refine g_icmp_ne (tgt := 14) hF dJ7_copyOf_9075b_3 (by decide) (fun c1 => ?_) (fun c1 => ?_)
  · replace h := gif_t c1 h
    refine g_iload_n hF 1 rfl rfl dJ7_copyOf_9075b_14 ?_
    obtain ⟨x2, h2, h⟩ := gbnd h
    obtain ⟨c2, s2, h, ec2, es2⟩ := cadd_sp h
    obtain ⟨n20, n21, n2h⟩ := gnewa_sp h2
    refine g_newa_byte hF n20 rfl n21 kw_145 n2h (gnew_lt n2h) (gFr_r (gT_ne q0) (gFr_i gFr_0)) gFr_0 (by omega) (by omega) dJ7_copyOf_9075b_15 (fun ad2 z2 => ?_)
    have y2 : ∀ b : Nat, b < T.length → ad2 b = ad b := fun b hb => z2 b (by rw [(gnew_sp n2h).1]; omega)
    have X2 := gExt.tr gExt.rf (gnew_ext n2h)
    have W2 := gad_call y2 gExt.rf (fun _ _ => rfl)
    have q_3 := (gnew_ext n2h) _ _ q0
    have q_y2 := gnew_at n2h
    refine g_astore_n (ls' := [(2, .ref x2.1), (0, .ref a0), (1, .int i1)]) hF rfl (by rw [hn]; decide) rfl dJ7_copyOf_9075b_17 ?_
    refine g_aload_n hF 1 rfl rfl dJ7_copyOf_9075b_18 ?_
    refine g_iconst (v := (0 : Int32)) hF rfl dJ7_copyOf_9075b_19 ?_
    refine g_aload_n hF 0 rfl rfl dJ7_copyOf_9075b_20 ?_
    refine g_iconst (v := (0 : Int32)) hF rfl dJ7_copyOf_9075b_21 ?_
    refine g_aload_n hF 1 rfl rfl dJ7_copyOf_9075b_22 ?_
    refine g_alenA hF q_3 (by decide) dJ7_copyOf_9075b_23 ?_
    refine g_iload_n hF 2 rfl rfl dJ7_copyOf_9075b_24 ?_
    refine g_min hF kw_929 (by omega) (by omega) (by omega) (Nat.le_of_ble_eq_true rfl) dJ7_copyOf_9075b_25 ?_
    obtain ⟨M5, h5, h⟩ := gbnd h
    obtain ⟨k5a, k5b, k5c, k5d, k5e, k5f, e5v⟩ := acpb_sp q_3 q_y2 h5
    refine g_copy_b hF kw_930 q_3 q_y2 k5a k5b k5c k5d k5e k5f (by omega) (Nat.le_of_ble_eq_true rfl) dJ7_copyOf_9075b_28 ?_
    rw [← e5v]
    refine g_aload_n hF 0 rfl rfl dJ7_copyOf_9075b_31 ?_
    cases h
    exact g_ret_a hF rfl (Or.inr ⟨_, rfl⟩) dJ7_copyOf_9075b_32 (hR ad2 X2 W2) (by omega) (by omega)
  · replace h := gif_n c1 h
    refine g_aload_n hF 0 rfl rfl dJ7_copyOf_9075b_6 ?_
    obtain ⟨x6, h6, h⟩ := gbnd h
    obtain ⟨c6, s6, h, ec6, es6⟩ := cadd_sp h
    have q_c6 := alen_at q0
    obtain ⟨n6a, n6b, n6x⟩ := gclone_sp q_c6 h6
    subst n6x
    refine g_clone_b hF kw_1192 q_c6 (n6b.resolve_left (by decide)) n6a (gFr_r (gT_ne q0) (gFr_i gFr_0)) gFr_0 (by omega) (by omega) (by omega) (Nat.le_of_ble_eq_true rfl) dJ7_copyOf_9075b_7 (fun ad6 z6 => ?_)
    have y6 : ∀ b : Nat, b < T.length → ad6 b = ad b := fun b hb => z6 b (by omega)
    have X6 := gExt.tr gExt.rf (gpush_ext (T := T) (sh := (10, alen T a0)))
    have W6 := gad_call y6 gExt.rf (fun _ _ => rfl)
    have q_7 := (gpush_ext (T := T) (sh := (10, alen T a0))) _ _ q0
    have q_y6 : (T ++ [(10, alen T a0)])[T.length]? = some (10, alen T a0) := gpush_at
    refine g_castA_b hF kw_1196 q_y6 dJ7_copyOf_9075b_10 ?_
    cases h
    exact g_ret_a hF rfl (Or.inr ⟨_, rfl⟩) dJ7_copyOf_9075b_13 (hR ad6 X6 W6) (by omega) (by omega)
theorem c_J7_copyOf_9075b {d : Nat} {T : gT} {M : gM} {c9 s9 : Nat} {m_a0 : Nat} {a0 : Nat} {i1 : Int32} {o : Nat × gT × gM} (hd : 1 ≤ d) (q0 : T[a0]? = some (10, m_a0)) (h : f_J7_copyOf_9075b T M a0 i1 = some (o, c9, s9)) : gRet d yJ7_copyOf_9075b cJ7_copyOf_9075b 3 (some (.array .byte)) c9 s9 [.ref a0, .int i1] T M (gMade T (some (.ref o.1)) o.2.1 o.2.2) := by
  refine gRet_of (own := RJ7) (by decide) rfl (Nat.le_of_ble_eq_true rfl) (fun Z ad0 hn h0 hF => ?_)
  exact t_J7_copyOf_9075b (ce := 0) (so := 0) hF hn hd (by omega) (by omega) q0 h (fun ad1 x1 y1 => ⟨rfl, rfl, rfl, x1, y1⟩)
theorem t_J5_ensureCapacityInternal_d00df {Z : gZ} {d mc ms : Nat} {Acc : Option Value → (Nat → Nat) → gT → gM → Prop} {AccX : Nat → (Nat → Nat) → gT → gM → Prop} {ad : Nat → Nat} {T : gT} {M : gM} {ce so c9 s9 : Nat} {m_a0 : Nat} {a0 : Nat} {i1 : Int32} {o : gT × gM} (hF : gFix Z cJ5_ensureCapacityInternal_d00df RJ5 "ensureCapacityInternal" none d mc ms Acc AccX) (hn : Z.2.2.2.2.2.1 = 3) (hd : 3 ≤ d) (hk1 : ce + c9 ≤ mc) (hk2 : so + s9 ≤ ms) (q0 : T[a0]? = some (20, m_a0)) (h : f_J5_ensureCapacityInternal_d00df T M a0 i1 = some (o, c9, s9)) (hR : ∀ ad1 : Nat → Nat, gExt T o.1 → (∀ a : Nat, a < T.length → ad1 a = ad a) → Acc (none) ad1 o.1 o.2) : gG Z ad T M ce so 0 [(0, .ref a0), (1, .int i1)] [] := by
  unfold f_J5_ensureCapacityInternal_d00df at h
  refine g_aload_n hF 0 rfl rfl dJ5_ensureCapacityInternal_d00df_0 ?_
  obtain ⟨b1, h1, h⟩ := gbnd h
  obtain ⟨g1, l1, q_b1⟩ := ldr_sp h1
  refine g_get_r hF g1 fl_RJ5_15 q0 dJ5_ensureCapacityInternal_d00df_1 ?_
  refine g_alenA hF q_b1 (by decide) dJ5_ensureCapacityInternal_d00df_4 ?_
  refine g_aload_n hF 0 rfl rfl dJ5_ensureCapacityInternal_d00df_5 ?_
  refine g_get_i hF fl_RJ5_22 q0 dJ5_ensureCapacityInternal_d00df_6 ?_
  refine g_ishr hF dJ5_ensureCapacityInternal_d00df_9 ?_
  refine g_istore_n (ls' := [(2, .int ((Int32.ofNat (alen T b1)) >>> ((gi M a0 1) &&& 31))), (0, .ref a0), (1, .int i1)]) hF rfl (by rw [hn]; decide) rfl dJ5_ensureCapacityInternal_d00df_10 ?_
  refine g_iload_n hF 2 rfl rfl dJ5_ensureCapacityInternal_d00df_11 ?_
  refine g_iload_n hF 0 rfl rfl dJ5_ensureCapacityInternal_d00df_12 ?_
  refine g_isub hF dJ5_ensureCapacityInternal_d00df_13 ?_
  refine g_if_le (tgt := 38) hF dJ5_ensureCapacityInternal_d00df_14 (by decide) (fun c2 => ?_) (fun c2 => ?_)
  · replace h := gif_t c2 h
    cases h
    exact g_ret_v hF rfl dJ5_ensureCapacityInternal_d00df_38 (hR _ gExt.rf (fun _ _ => rfl)) (by omega) (by omega)
  · replace h := gif_f c2 h
    refine g_aload_n hF 1 rfl rfl dJ5_ensureCapacityInternal_d00df_17 ?_
    refine g_aload_n hF 1 rfl rfl dJ5_ensureCapacityInternal_d00df_18 ?_
    obtain ⟨b3, h3, h⟩ := gbnd h
    obtain ⟨g3, l3, q_b3⟩ := ldr_sp h3
    refine g_get_r hF g3 fl_RJ5_15 q0 dJ5_ensureCapacityInternal_d00df_19 ?_
    refine g_aload_n hF 1 rfl rfl dJ5_ensureCapacityInternal_d00df_22 ?_
    refine g_iload_n hF 2 rfl rfl dJ5_ensureCapacityInternal_d00df_23 ?_
    obtain ⟨x4, h4, h⟩ := gbnd h
    refine g_callVP hF my_J5_newCapacity_0f7a4 kw_1176 kw_1178 kn_1177 kw_1491 gC_20.1 kw_1131 (by decide) q0 (c_J5_newCapacity_0f7a4 (d := d - 1) (by omega) q0 h4) (by omega) (by omega) (by omega) rfl rfl (Nat.le_of_ble_eq_true rfl) dJ5_ensureCapacityInternal_d00df_24 (g_sameS ?_)
    refine g_aload_n hF 1 rfl rfl dJ5_ensureCapacityInternal_d00df_27 ?_
    refine g_get_i hF fl_RJ5_22 q0 dJ5_ensureCapacityInternal_d00df_28 ?_
    refine g_ishl hF dJ5_ensureCapacityInternal_d00df_31 ?_
    obtain ⟨x5, h5, h⟩ := gbnd h
    obtain ⟨c5, s5, h, ec5, es5⟩ := cadd_sp h
    refine g_callS hF my_J7_copyOf_9075b kw_1189 kw_1190 (c_J7_copyOf_9075b (d := d - 1) (by omega) q_b3 (trip h5)) (by omega) (by omega) (by omega) rfl rfl (Nat.le_of_ble_eq_true rfl) dJ5_ensureCapacityInternal_d00df_32 (g_madeS (gOld_i (gOld_r (gT_lt q0) (gOld_i gOld_0))) (gOld_r (gT_lt q0) gOld_0) (fun ad5 e5 y5 => ?_))
    have X5 := gExt.tr gExt.rf e5
    have W5 := gad_call y5 gExt.rf (fun _ _ => rfl)
    have q_6 := e5 _ _ q0
    obtain ⟨_, h7, h⟩ := gbnd h
    obtain ⟨l7, q_7⟩ := gkd_sp h7
    refine g_put_r hF (fun _ => rfl) (fun _ => rfl) (gT_lt q_7) fl_RJ5_15 q_6 dJ5_ensureCapacityInternal_d00df_35 ?_
    cases h
    exact g_ret_v hF rfl dJ5_ensureCapacityInternal_d00df_38 (hR ad5 X5 W5) (by omega) (by omega)
theorem c_J5_ensureCapacityInternal_d00df {d : Nat} {T : gT} {M : gM} {c9 s9 : Nat} {m_a0 : Nat} {a0 : Nat} {i1 : Int32} {o : gT × gM} (hd : 3 ≤ d) (q0 : T[a0]? = some (20, m_a0)) (h : f_J5_ensureCapacityInternal_d00df T M a0 i1 = some (o, c9, s9)) : gRet d yJ5_ensureCapacityInternal_d00df cJ5_ensureCapacityInternal_d00df 3 none c9 s9 [.ref a0, .int i1] T M (gMade T (none) o.1 o.2) := by
  refine gRet_of (own := RJ5) (by decide) rfl (Nat.le_of_ble_eq_true rfl) (fun Z ad0 hn h0 hF => ?_)
  exact t_J5_ensureCapacityInternal_d00df (ce := 0) (so := 0) hF hn hd (by omega) (by omega) q0 h (fun ad1 x1 y1 => ⟨rfl, rfl, rfl, x1, y1⟩)
theorem t_J5_inflateIfNeededFor_a7421 {Z : gZ} {d mc ms : Nat} {Acc : Option Value → (Nat → Nat) → gT → gM → Prop} {AccX : Nat → (Nat → Nat) → gT → gM → Prop} {ad : Nat → Nat} {T : gT} {M : gM} {ce so : Nat} {m_a0 : Nat} {a0 : Nat} {s1 : Nat} {o : Unit} (hF : gFix Z cJ5_inflateIfNeededFor_a7421 RJ5 "inflateIfNeededFor" none d mc ms Acc AccX) (hn : Z.2.2.2.2.2.1 = 2) (hd : 2 ≤ d) (hk1 : ce ≤ mc) (hk2 : so ≤ ms) (q0 : T[a0]? = some (20, m_a0)) (q1 : gStr T s1) (h : f_J5_inflateIfNeededFor_a7421 T M a0 s1 = some o) (hR : Acc (none) ad T M) : gG Z ad T M ce so 0 [(0, .ref a0), (1, .ref s1)] [] := by
  unfold f_J5_inflateIfNeededFor_a7421 at h
  refine g_compact hF kw_1139 dJ5_inflateIfNeededFor_a7421_0 ?_
  refine g_if_eq (tgt := 21) hF dJ5_inflateIfNeededFor_a7421_3 (by decide) (fun q => absurd q (by decide)) (fun _ => ?_)
  refine g_aload_n hF 0 rfl rfl dJ5_inflateIfNeededFor_a7421_6 ?_
  refine g_get_i hF fl_RJ5_22 q0 dJ5_inflateIfNeededFor_a7421_7 ?_
  refine g_aload_n hF 1 rfl rfl dJ5_inflateIfNeededFor_a7421_10 ?_
  obtain ⟨v1, h1, h⟩ := gbnd h
  refine g_callStr hF q1 my_J0_coder_7d493 kw_1226 kw_770 kw_771 (cS_coder (d := d - 1) (by omega) q1 h1) (by omega) (by omega) (by omega) rfl rfl (Nat.le_of_ble_eq_true rfl) dJ5_inflateIfNeededFor_a7421_11 (g_sameS ?_)
  refine g_icmp_eq (tgt := 21) hF dJ5_inflateIfNeededFor_a7421_14 (by decide) (fun c2 => ?_) (fun c2 => ?_)
  · replace h := gif_t c2 h
    obtain rfl := Option.some.inj h
    exact g_ret_v hF rfl dJ5_inflateIfNeededFor_a7421_21 hR (by omega) (by omega)
  · replace h := gif_f c2 h
    refine g_aload_n hF 0 rfl rfl dJ5_inflateIfNeededFor_a7421_17 ?_
    cases h
