theorem c_J5_inflateIfNeededFor_a7421 {d : Nat} {T : gT} {M : gM} {m_a0 : Nat} {a0 : Nat} {s1 : Nat} {o : Unit} (hd : 2 ≤ d) (q0 : T[a0]? = some (20, m_a0)) (q1 : gStr T s1) (h : f_J5_inflateIfNeededFor_a7421 T M a0 s1 = some o) : gRet d yJ5_inflateIfNeededFor_a7421 cJ5_inflateIfNeededFor_a7421 2 none 0 0 [.ref a0, .ref s1] T M (gSame T (none) M) := by
  refine gRet_of (own := RJ5) (by decide) rfl (Nat.le_of_ble_eq_true rfl) (fun Z ad0 hn h0 hF => ?_)
  exact t_J5_inflateIfNeededFor_a7421 (ce := 0) (so := 0) hF hn hd (Nat.le_refl _) (Nat.le_refl _) q0 q1 h ⟨rfl, rfl, rfl, rfl⟩
theorem t_J5_putStringAt_47b60 {Z : gZ} {d mc ms : Nat} {Acc : Option Value → (Nat → Nat) → gT → gM → Prop} {AccX : Nat → (Nat → Nat) → gT → gM → Prop} {ad : Nat → Nat} {T : gT} {M : gM} {ce so : Nat} {m_a0 : Nat} {a0 : Nat} {i1 : Int32} {s2 : Nat} {o : gM} (hF : gFix Z cJ5_putStringAt_47b60 RJ5 "putStringAt" none d mc ms Acc AccX) (hn : Z.2.2.2.2.2.1 = 3) (hd : 3 ≤ d) (hk1 : ce ≤ mc) (hk2 : so ≤ ms) (q0 : T[a0]? = some (20, m_a0)) (q2 : gStr T s2) (h : f_J5_putStringAt_47b60 T M a0 i1 s2 = some o) (hR : Acc (none) ad T o) : gG Z ad T M ce so 0 [(0, .ref a0), (1, .int i1), (2, .ref s2)] [] := by
  unfold f_J5_putStringAt_47b60 at h
  refine g_aload_n hF 0 rfl rfl dJ5_putStringAt_47b60_0 ?_
  refine g_aload_n hF 2 rfl rfl dJ5_putStringAt_47b60_1 ?_
  obtain ⟨x1, h1, h⟩ := gbnd h
  refine g_callVP hF my_J5_inflateIfNeededFor_a7421 kw_1222 kw_1224 kn_1223 kw_1493 gC_20.1 kw_1131 (by decide) q0 (c_J5_inflateIfNeededFor_a7421 (d := d - 1) (by omega) q0 q2 h1) (by omega) (by omega) (by omega) rfl rfl (Nat.le_of_ble_eq_true rfl) dJ5_putStringAt_47b60_2 (g_sameN ?_)
  refine g_aload_n hF 2 rfl rfl dJ5_putStringAt_47b60_5 ?_
  refine g_aload_n hF 0 rfl rfl dJ5_putStringAt_47b60_6 ?_
  obtain ⟨b2, h2, h⟩ := gbnd h
  obtain ⟨g2, l2, q_b2⟩ := ldr_sp h2
  refine g_get_r hF g2 fl_RJ5_15 q0 dJ5_putStringAt_47b60_7 ?_
  refine g_iload_n hF 1 rfl rfl dJ5_putStringAt_47b60_10 ?_
  refine g_aload_n hF 0 rfl rfl dJ5_putStringAt_47b60_11 ?_
  refine g_get_i hF fl_RJ5_22 q0 dJ5_putStringAt_47b60_12 ?_
  obtain ⟨M3, h3, h⟩ := gbnd h
  refine g_callStr hF q2 my_J0_getBytes_840e7 kw_1246 kw_1247 kw_1248 (cS_getBytes (d := d - 1) (by omega) q2 q_b2 h3) (by omega) (by omega) (by omega) rfl rfl (Nat.le_of_ble_eq_true rfl) dJ5_putStringAt_47b60_15 (g_sameN ?_)
  obtain rfl := Option.some.inj h
  exact g_ret_v hF rfl dJ5_putStringAt_47b60_18 hR (by omega) (by omega)
theorem c_J5_putStringAt_47b60 {d : Nat} {T : gT} {M : gM} {m_a0 : Nat} {a0 : Nat} {i1 : Int32} {s2 : Nat} {o : gM} (hd : 3 ≤ d) (q0 : T[a0]? = some (20, m_a0)) (q2 : gStr T s2) (h : f_J5_putStringAt_47b60 T M a0 i1 s2 = some o) : gRet d yJ5_putStringAt_47b60 cJ5_putStringAt_47b60 3 none 0 0 [.ref a0, .int i1, .ref s2] T M (gSame T (none) o) := by
  refine gRet_of (own := RJ5) (by decide) rfl (Nat.le_of_ble_eq_true rfl) (fun Z ad0 hn h0 hF => ?_)
  exact t_J5_putStringAt_47b60 (ce := 0) (so := 0) hF hn hd (Nat.le_refl _) (Nat.le_refl _) q0 q2 h ⟨rfl, rfl, rfl, rfl⟩
theorem t_J5_append_cf1ce {Z : gZ} {d mc ms : Nat} {Acc : Option Value → (Nat → Nat) → gT → gM → Prop} {AccX : Nat → (Nat → Nat) → gT → gM → Prop} {ad : Nat → Nat} {T : gT} {M : gM} {ce so c9 s9 : Nat} {m_a0 : Nat} {a0 : Nat} {s1 : Nat} {o : Nat × gT × gM} (hF : gFix Z cJ5_append_cf1ce RJ5 "append" (some (.object RJ5)) d mc ms Acc AccX) (hn : Z.2.2.2.2.2.1 = 3) (hd : 4 ≤ d) (hk1 : ce + c9 ≤ mc) (hk2 : so + s9 ≤ ms) (q0 : T[a0]? = some (20, m_a0)) (q1 : gStr T s1) (h : f_J5_append_cf1ce T M a0 s1 = some (o, c9, s9)) (hR : ∀ ad1 : Nat → Nat, gExt T o.2.1 → (∀ a : Nat, a < T.length → ad1 a = ad a) → Acc (some (.ref o.1)) ad1 o.2.1 o.2.2) : gG Z ad T M ce so 0 [(0, .ref a0), (1, .ref s1)] [] := by
  unfold f_J5_append_cf1ce at h
  refine g_aload_n hF 1 rfl rfl dJ5_append_cf1ce_0 ?_
  refine g_ifnonnullR (tgt := 9) hF dJ5_append_cf1ce_1 (by decide) ?_
  refine g_aload_n hF 1 rfl rfl dJ5_append_cf1ce_9 ?_
  obtain ⟨v1, h1, h⟩ := gbnd h
  refine g_callStr hF q1 my_J0_length_8abf5 kw_1217 kw_766 kw_767 (cS_length (d := d - 1) (by omega) q1 h1) (by omega) (by omega) (by omega) rfl rfl (Nat.le_of_ble_eq_true rfl) dJ5_append_cf1ce_10 (g_sameS ?_)
  refine g_istore_n (ls' := [(2, .int v1), (0, .ref a0), (1, .ref s1)]) hF rfl (by rw [hn]; decide) rfl dJ5_append_cf1ce_13 ?_
  refine g_aload_n hF 1 rfl rfl dJ5_append_cf1ce_14 ?_
  refine g_aload_n hF 1 rfl rfl dJ5_append_cf1ce_15 ?_
  refine g_get_i hF fl_RJ5_79 q0 dJ5_append_cf1ce_16 ?_
  refine g_iload_n hF 0 rfl rfl dJ5_append_cf1ce_19 ?_
  refine g_iadd hF dJ5_append_cf1ce_20 ?_
  obtain ⟨x2, h2, h⟩ := gbnd h
  obtain ⟨c2, s2, h, ec2, es2⟩ := cadd_sp h
  refine g_callVP hF my_J5_ensureCapacityInternal_d00df kw_1172 kw_1174 kn_1173 kw_1490 gC_20.1 kw_1131 (by decide) q0 (c_J5_ensureCapacityInternal_d00df (d := d - 1) (by omega) q0 (trip h2)) (by omega) (by omega) (by omega) rfl rfl (Nat.le_of_ble_eq_true rfl) dJ5_append_cf1ce_21 (g_madeN (gOld_i (gOld_r (gT_lt q0) (gOld_S q1 gOld_0))) gOld_0 (fun ad2 e2 y2 => ?_))
  have X2 := gExt.tr gExt.rf e2
  have W2 := gad_call y2 gExt.rf (fun _ _ => rfl)
  have q_3 := e2 _ _ q0
  have q_4 := q1.ext e2
  refine g_aload_n hF 1 rfl rfl dJ5_append_cf1ce_24 ?_
  refine g_aload_n hF 1 rfl rfl dJ5_append_cf1ce_25 ?_
  refine g_get_i hF fl_RJ5_79 q_3 dJ5_append_cf1ce_26 ?_
  refine g_aload_n hF 2 rfl rfl dJ5_append_cf1ce_29 ?_
  obtain ⟨x5, h5, h⟩ := gbnd h
  refine g_callVP hF my_J5_putStringAt_47b60 kw_1218 kw_1220 kn_1219 kw_1492 gC_20.1 kw_1131 (by decide) q_3 (c_J5_putStringAt_47b60 (d := d - 1) (by omega) q_3 q_4 h5) (by omega) (by omega) (by omega) rfl rfl (Nat.le_of_ble_eq_true rfl) dJ5_append_cf1ce_30 (g_sameN ?_)
  refine g_aload_n hF 1 rfl rfl dJ5_append_cf1ce_33 ?_
  refine g_dup hF rfl dJ5_append_cf1ce_34 ?_
  refine g_get_i hF fl_RJ5_79 q_3 dJ5_append_cf1ce_35 ?_
  refine g_iload_n hF 0 rfl rfl dJ5_append_cf1ce_38 ?_
  refine g_iadd hF dJ5_append_cf1ce_39 ?_
  refine g_put_i hF rfl rfl fl_RJ5_79 q_3 dJ5_append_cf1ce_40 ?_
  refine g_aload_n hF 1 rfl rfl dJ5_append_cf1ce_43 ?_
  cases h
  exact g_ret_a hF rfl (Or.inl ⟨_, rfl⟩) dJ5_append_cf1ce_44 (hR ad2 X2 W2) (by omega) (by omega)
theorem c_J5_append_cf1ce {d : Nat} {T : gT} {M : gM} {c9 s9 : Nat} {m_a0 : Nat} {a0 : Nat} {s1 : Nat} {o : Nat × gT × gM} (hd : 4 ≤ d) (q0 : T[a0]? = some (20, m_a0)) (q1 : gStr T s1) (h : f_J5_append_cf1ce T M a0 s1 = some (o, c9, s9)) : gRet d yJ5_append_cf1ce cJ5_append_cf1ce 3 (some (.object RJ5)) c9 s9 [.ref a0, .ref s1] T M (gMade T (some (.ref o.1)) o.2.1 o.2.2) := by
  refine gRet_of (own := RJ5) (by decide) rfl (Nat.le_of_ble_eq_true rfl) (fun Z ad0 hn h0 hF => ?_)
  exact t_J5_append_cf1ce (ce := 0) (so := 0) hF hn hd (by omega) (by omega) q0 q1 h (fun ad1 x1 y1 => ⟨rfl, rfl, rfl, x1, y1⟩)
theorem t_J5_isLatin1_aae02_18 {Z : gZ} {d mc ms : Nat} {Acc : Option Value → (Nat → Nat) → gT → gM → Prop} {AccX : Nat → (Nat → Nat) → gT → gM → Prop} {ad : Nat → Nat} {T : gT} {M : gM} {ce so : Nat}  {k0 : Int32} {o : Int32} (hF : gFix Z cJ5_isLatin1_aae02 RJ5 "isLatin1" (some .boolean) d mc ms Acc AccX) (hn : Z.2.2.2.2.2.1 = 1) (hd : 1 ≤ d) (hk1 : ce ≤ mc) (hk2 : so ≤ ms)  (h : f_J5_isLatin1_aae02_18 T M k0 = some o) (hR : Acc (some (.int o)) ad T M) : gG Z ad T M ce so 18 [] [.int k0] := by
  unfold f_J5_isLatin1_aae02_18 at h
  obtain ⟨_, h1, h⟩ := gbnd h
  obtain rfl := Option.some.inj h
  exact g_ret_i hF rfl (gbool (chk_sp h1)) dJ5_isLatin1_aae02_18 hR (by omega) (by omega)
theorem t_J5_isLatin1_aae02_17 {Z : gZ} {d mc ms : Nat} {Acc : Option Value → (Nat → Nat) → gT → gM → Prop} {AccX : Nat → (Nat → Nat) → gT → gM → Prop} {ad : Nat → Nat} {T : gT} {M : gM} {ce so : Nat}  {o : Int32} (hF : gFix Z cJ5_isLatin1_aae02 RJ5 "isLatin1" (some .boolean) d mc ms Acc AccX) (hn : Z.2.2.2.2.2.1 = 1) (hd : 1 ≤ d) (hk1 : ce ≤ mc) (hk2 : so ≤ ms)  (h : f_J5_isLatin1_aae02_17 T M  = some o) (hR : Acc (some (.int o)) ad T M) : gG Z ad T M ce so 17 [] [] := by
  unfold f_J5_isLatin1_aae02_17 at h
  refine g_iconst (v := (0 : Int32)) hF rfl dJ5_isLatin1_aae02_17 ?_
  exact gG_sub [] rfl (t_J5_isLatin1_aae02_18 hF hn hd (by omega) (by omega)  h hR)
theorem t_J5_isLatin1_aae02 {Z : gZ} {d mc ms : Nat} {Acc : Option Value → (Nat → Nat) → gT → gM → Prop} {AccX : Nat → (Nat → Nat) → gT → gM → Prop} {ad : Nat → Nat} {T : gT} {M : gM} {ce so : Nat} {m_a0 : Nat} {a0 : Nat} {o : Int32} (hF : gFix Z cJ5_isLatin1_aae02 RJ5 "isLatin1" (some .boolean) d mc ms Acc AccX) (hn : Z.2.2.2.2.2.1 = 1) (hd : 1 ≤ d) (hk1 : ce ≤ mc) (hk2 : so ≤ ms) (q0 : T[a0]? = some (20, m_a0)) (h : f_J5_isLatin1_aae02 T M a0 = some o) (hR : Acc (some (.int o)) ad T M) : gG Z ad T M ce so 0 [(0, .ref a0)] [] := by
  unfold f_J5_isLatin1_aae02 at h
  refine g_compact hF kw_1139 dJ5_isLatin1_aae02_0 ?_
  refine g_if_eq (tgt := 17) hF dJ5_isLatin1_aae02_3 (by decide) (fun q => absurd q (by decide)) (fun _ => ?_)
  refine g_aload_n hF 0 rfl rfl dJ5_isLatin1_aae02_6 ?_
  refine g_get_i hF fl_RJ5_22 q0 dJ5_isLatin1_aae02_7 ?_
  refine g_if_ne (tgt := 17) hF dJ5_isLatin1_aae02_10 (by decide) (fun c2 => ?_) (fun c2 => ?_)
  · replace h := gif_t c2 h
    exact gG_sub [] rfl (t_J5_isLatin1_aae02_17 hF hn hd (by omega) (by omega)  h hR)
  · replace h := gif_n c2 h
    refine g_iconst (v := (1 : Int32)) hF rfl dJ5_isLatin1_aae02_13 ?_
    refine g_goto (tgt := 18) hF dJ5_isLatin1_aae02_14 (by decide) ?_
    exact gG_sub [] rfl (t_J5_isLatin1_aae02_18 hF hn hd (by omega) (by omega)  h hR)
theorem c_J5_isLatin1_aae02 {d : Nat} {T : gT} {M : gM} {m_a0 : Nat} {a0 : Nat} {o : Int32} (hd : 1 ≤ d) (q0 : T[a0]? = some (20, m_a0)) (h : f_J5_isLatin1_aae02 T M a0 = some o) : gRet d yJ5_isLatin1_aae02 cJ5_isLatin1_aae02 1 (some .boolean) 0 0 [.ref a0] T M (gSame T (some (.int o)) M) := by
  refine gRet_of (own := RJ5) (by decide) rfl (Nat.le_of_ble_eq_true rfl) (fun Z ad0 hn h0 hF => ?_)
  exact t_J5_isLatin1_aae02 (ce := 0) (so := 0) hF hn hd (Nat.le_refl _) (Nat.le_refl _) q0 h ⟨rfl, rfl, rfl, rfl⟩
theorem t_J1_canEncode_fc78d_12 {Z : gZ} {d mc ms : Nat} {Acc : Option Value → (Nat → Nat) → gT → gM → Prop} {AccX : Nat → (Nat → Nat) → gT → gM → Prop} {ad : Nat → Nat} {T : gT} {M : gM} {ce so : Nat}  {k0 : Int32} {o : Int32} (hF : gFix Z cJ1_canEncode_fc78d RJ1 "canEncode" (some .boolean) d mc ms Acc AccX) (hn : Z.2.2.2.2.2.1 = 1) (hd : 1 ≤ d) (hk1 : ce ≤ mc) (hk2 : so ≤ ms)  (h : f_J1_canEncode_fc78d_12 T M k0 = some o) (hR : Acc (some (.int o)) ad T M) : gG Z ad T M ce so 12 [] [.int k0] := by
  unfold f_J1_canEncode_fc78d_12 at h
  obtain ⟨_, h1, h⟩ := gbnd h
  obtain rfl := Option.some.inj h
  exact g_ret_i hF rfl (gbool (chk_sp h1)) dJ1_canEncode_fc78d_12 hR (by omega) (by omega)
theorem t_J1_canEncode_fc78d {Z : gZ} {d mc ms : Nat} {Acc : Option Value → (Nat → Nat) → gT → gM → Prop} {AccX : Nat → (Nat → Nat) → gT → gM → Prop} {ad : Nat → Nat} {T : gT} {M : gM} {ce so : Nat}  {i0 : Int32} {o : Int32} (hF : gFix Z cJ1_canEncode_fc78d RJ1 "canEncode" (some .boolean) d mc ms Acc AccX) (hn : Z.2.2.2.2.2.1 = 1) (hd : 1 ≤ d) (hk1 : ce ≤ mc) (hk2 : so ≤ ms)  (h : f_J1_canEncode_fc78d T M i0 = some o) (hR : Acc (some (.int o)) ad T M) : gG Z ad T M ce so 0 [(0, .int i0)] [] := by
  unfold f_J1_canEncode_fc78d at h
  refine g_iload_n hF 0 rfl rfl dJ1_canEncode_fc78d_0 ?_
  refine g_sipush (v := (255 : Int32)) hF rfl dJ1_canEncode_fc78d_1 ?_
  refine g_icmp_gt (tgt := 11) hF dJ1_canEncode_fc78d_4 (by decide) (fun c2 => ?_) (fun c2 => ?_)
  · replace h := gif_t c2 h
    refine g_iconst (v := (0 : Int32)) hF rfl dJ1_canEncode_fc78d_11 ?_
    exact gG_sub [] rfl (t_J1_canEncode_fc78d_12 hF hn hd (by omega) (by omega)  h hR)
  · replace h := gif_f c2 h
    refine g_iconst (v := (1 : Int32)) hF rfl dJ1_canEncode_fc78d_7 ?_
    refine g_goto (tgt := 12) hF dJ1_canEncode_fc78d_8 (by decide) ?_
    exact gG_sub [] rfl (t_J1_canEncode_fc78d_12 hF hn hd (by omega) (by omega)  h hR)
theorem c_J1_canEncode_fc78d {d : Nat} {T : gT} {M : gM}  {i0 : Int32} {o : Int32} (hd : 1 ≤ d)  (h : f_J1_canEncode_fc78d T M i0 = some o) : gRet d yJ1_canEncode_fc78d cJ1_canEncode_fc78d 1 (some .boolean) 0 0 [.int i0] T M (gSame T (some (.int o)) M) := by
  refine gRet_of (own := RJ1) (by decide) rfl (Nat.le_of_ble_eq_true rfl) (fun Z ad0 hn h0 hF => ?_)
  exact t_J1_canEncode_fc78d (ce := 0) (so := 0) hF hn hd (Nat.le_refl _) (Nat.le_refl _)  h ⟨rfl, rfl, rfl, rfl⟩
theorem t_J5_append_3fe6f_56 {Z : gZ} {d mc ms : Nat} {Acc : Option Value → (Nat → Nat) → gT → gM → Prop} {AccX : Nat → (Nat → Nat) → gT → gM → Prop} {ad : Nat → Nat} {T : gT} {M : gM} {ce so c9 s9 : Nat} {m_a0 : Nat} {a0 : Nat} {i1 : Int32} {o : Nat × gT × gM} (hF : gFix Z cJ5_append_3fe6f RJ5 "append" (some (.object RJ5)) d mc ms Acc AccX) (hn : Z.2.2.2.2.2.1 = 2) (hd : 4 ≤ d) (hk1 : ce + c9 ≤ mc) (hk2 : so + s9 ≤ ms) (q0 : T[a0]? = some (20, m_a0)) (h : f_J5_append_3fe6f_56 T M a0 i1 = some (o, c9, s9)) (hR : ∀ ad1 : Nat → Nat, gExt T o.2.1 → (∀ a : Nat, a < T.length → ad1 a = ad a) → Acc (some (.ref o.1)) ad1 o.2.1 o.2.2) : gG Z ad T M ce so 56 [(0, .ref a0), (1, .int i1)] [] := by
  unfold f_J5_append_3fe6f_56 at h
  refine g_aload_n hF 0 rfl rfl dJ5_append_3fe6f_56 ?_
  obtain ⟨b1, h1, h⟩ := gbnd h
  obtain ⟨g1, l1, q_b1⟩ := ldr_sp h1
  refine g_get_r hF g1 fl_RJ5_15 q0 dJ5_append_3fe6f_57 ?_
  refine g_aload_n hF 0 rfl rfl dJ5_append_3fe6f_60 ?_
  refine g_dup hF rfl dJ5_append_3fe6f_61 ?_
  refine g_get_i hF fl_RJ5_79 q0 dJ5_append_3fe6f_62 ?_
  refine g_dup_x1 hF rfl rfl dJ5_append_3fe6f_65 ?_
  refine g_iconst (v := (1 : Int32)) hF rfl dJ5_append_3fe6f_66 ?_
  refine g_iadd hF dJ5_append_3fe6f_67 ?_
  refine g_put_i hF rfl rfl fl_RJ5_79 q0 dJ5_append_3fe6f_68 ?_
  refine g_iload_n hF 1 rfl rfl dJ5_append_3fe6f_71 ?_
  cases h
theorem t_J5_append_3fe6f_45 {Z : gZ} {d mc ms : Nat} {Acc : Option Value → (Nat → Nat) → gT → gM → Prop} {AccX : Nat → (Nat → Nat) → gT → gM → Prop} {ad : Nat → Nat} {T : gT} {M : gM} {ce so c9 s9 : Nat} {m_a0 : Nat} {a0 : Nat} {i1 : Int32} {o : Nat × gT × gM} (hF : gFix Z cJ5_append_3fe6f RJ5 "append" (some (.object RJ5)) d mc ms Acc AccX) (hn : Z.2.2.2.2.2.1 = 2) (hd : 4 ≤ d) (hk1 : ce + c9 ≤ mc) (hk2 : so + s9 ≤ ms) (q0 : T[a0]? = some (20, m_a0)) (h : f_J5_append_3fe6f_45 T M a0 i1 = some (o, c9, s9)) (hR : ∀ ad1 : Nat → Nat, gExt T o.2.1 → (∀ a : Nat, a < T.length → ad1 a = ad a) → Acc (some (.ref o.1)) ad1 o.2.1 o.2.2) : gG Z ad T M ce so 45 [(0, .ref a0), (1, .int i1)] [] := by
  unfold f_J5_append_3fe6f_45 at h
  refine g_aload_n hF 0 rfl rfl dJ5_append_3fe6f_45 ?_
  obtain ⟨x3, h3, h⟩ := gbnd h
  refine g_callV hF my_J5_isLatin1_aae02 kw_1197 kw_1198 kw_1200 gC_20.1 (by decide) q0 (c_J5_isLatin1_aae02 (d := d - 1) (by omega) q0 h3) (by omega) (by omega) (by omega) rfl rfl (Nat.le_of_ble_eq_true rfl) dJ5_append_3fe6f_46 (g_sameS ?_)
  refine g_if_eq (tgt := 56) hF dJ5_append_3fe6f_49 (by decide) (fun c4 => ?_) (fun c4 => ?_)
  · replace h := gif_t c4 h
    exact gG_sub [0, 1] rfl (t_J5_append_3fe6f_56 hF hn hd (by omega) (by omega) q0 h (fun ad1 x1 y1 => hR ad1 (gExt.tr gExt.rf x1) (gad_call y1 gExt.rf (fun _ _ => rfl))))
  · replace h := gif_f c4 h
    refine g_aload_n hF 0 rfl rfl dJ5_append_3fe6f_52 ?_
    cases h
theorem t_J5_append_3fe6f {Z : gZ} {d mc ms : Nat} {Acc : Option Value → (Nat → Nat) → gT → gM → Prop} {AccX : Nat → (Nat → Nat) → gT → gM → Prop} {ad : Nat → Nat} {T : gT} {M : gM} {ce so c9 s9 : Nat} {m_a0 : Nat} {a0 : Nat} {i1 : Int32} {o : Nat × gT × gM} (hF : gFix Z cJ5_append_3fe6f RJ5 "append" (some (.object RJ5)) d mc ms Acc AccX) (hn : Z.2.2.2.2.2.1 = 2) (hd : 4 ≤ d) (hk1 : ce + c9 ≤ mc) (hk2 : so + s9 ≤ ms) (q0 : T[a0]? = some (20, m_a0)) (h : f_J5_append_3fe6f T M a0 i1 = some (o, c9, s9)) (hR : ∀ ad1 : Nat → Nat, gExt T o.2.1 → (∀ a : Nat, a < T.length → ad1 a = ad a) → Acc (some (.ref o.1)) ad1 o.2.1 o.2.2) : gG Z ad T M ce so 0 [(0, .ref a0), (1, .int i1)] [] := by
  unfold f_J5_append_3fe6f at h
  refine g_aload_n hF 0 rfl rfl dJ5_append_3fe6f_0 ?_
  refine g_aload_n hF 0 rfl rfl dJ5_append_3fe6f_1 ?_
  refine g_get_i hF fl_RJ5_79 q0 dJ5_append_3fe6f_2 ?_
  refine g_iconst (v := (1 : Int32)) hF rfl dJ5_append_3fe6f_5 ?_
  refine g_iadd hF dJ5_append_3fe6f_6 ?_
  obtain ⟨x6, h6, h⟩ := gbnd h
  obtain ⟨c6, s6, h, ec6, es6⟩ := cadd_sp h
  refine g_callVP hF my_J5_ensureCapacityInternal_d00df kw_1172 kw_1174 kn_1173 kw_1490 gC_20.1 kw_1131 (by decide) q0 (c_J5_ensureCapacityInternal_d00df (d := d - 1) (by omega) q0 (trip h6)) (by omega) (by omega) (by omega) rfl rfl (Nat.le_of_ble_eq_true rfl) dJ5_append_3fe6f_7 (g_madeN (gOld_r (gT_lt q0) (gOld_i gOld_0)) gOld_0 (fun ad6 e6 y6 => ?_))
  have X6 := gExt.tr gExt.rf e6
  have W6 := gad_call y6 gExt.rf (fun _ _ => rfl)
  have q_7 := e6 _ _ q0
  refine g_aload_n hF 0 rfl rfl dJ5_append_3fe6f_10 ?_
  obtain ⟨x8, h8, h⟩ := gbnd h
  refine g_callV hF my_J5_isLatin1_aae02 kw_1197 kw_1198 kw_1200 gC_20.1 (by decide) q_7 (c_J5_isLatin1_aae02 (d := d - 1) (by omega) q_7 h8) (by omega) (by omega) (by omega) rfl rfl (Nat.le_of_ble_eq_true rfl) dJ5_append_3fe6f_11 (g_sameS ?_)
  refine g_if_eq (tgt := 45) hF dJ5_append_3fe6f_14 (by decide) (fun c9 => ?_) (fun c9 => ?_)
  · replace h := gif_t c9 h
    exact gG_sub [0, 1] rfl (t_J5_append_3fe6f_45 hF hn hd (by omega) (by omega) q_7 h (fun ad1 x1 y1 => hR ad1 (gExt.tr X6 x1) (gad_call y1 X6 W6)))
  · replace h := gif_f c9 h
    refine g_iload_n hF 1 rfl rfl dJ5_append_3fe6f_17 ?_
    obtain ⟨x10, h10, h⟩ := gbnd h
    refine g_callS hF my_J1_canEncode_fc78d kw_1259 kw_1260 (c_J1_canEncode_fc78d (d := d - 1) (by omega)  h10) (by omega) (by omega) (by omega) rfl rfl (Nat.le_of_ble_eq_true rfl) dJ5_append_3fe6f_18 (g_sameS ?_)
    refine g_if_eq (tgt := 45) hF dJ5_append_3fe6f_21 (by decide) (fun c11 => ?_) (fun c11 => ?_)
    · replace h := gif_t c11 h
      exact gG_sub [0, 1] rfl (t_J5_append_3fe6f_45 hF hn hd (by omega) (by omega) q_7 h (fun ad1 x1 y1 => hR ad1 (gExt.tr X6 x1) (gad_call y1 X6 W6)))
    · replace h := gif_f c11 h
      refine g_aload_n hF 0 rfl rfl dJ5_append_3fe6f_24 ?_
      obtain ⟨b12, h12, h⟩ := gbnd h
      obtain ⟨g12, l12, q_b12⟩ := ldr_sp h12
      refine g_get_r hF g12 fl_RJ5_15 q_7 dJ5_append_3fe6f_25 ?_
      refine g_aload_n hF 0 rfl rfl dJ5_append_3fe6f_28 ?_
      refine g_dup hF rfl dJ5_append_3fe6f_29 ?_
      refine g_get_i hF fl_RJ5_79 q_7 dJ5_append_3fe6f_30 ?_
      refine g_dup_x1 hF rfl rfl dJ5_append_3fe6f_33 ?_
      refine g_iconst (v := (1 : Int32)) hF rfl dJ5_append_3fe6f_34 ?_
      refine g_iadd hF dJ5_append_3fe6f_35 ?_
      refine g_put_i hF rfl rfl fl_RJ5_79 q_7 dJ5_append_3fe6f_36 ?_
      refine g_iload_n hF 1 rfl rfl dJ5_append_3fe6f_39 ?_
      refine g_i2b hF dJ5_append_3fe6f_40 ?_
      obtain ⟨M13, h13, h⟩ := gbnd h
      obtain ⟨i13h, e13v⟩ := ast_sp q_b12 h13
      refine g_bast hF q_b12 i13h dJ5_append_3fe6f_41 ?_
      rw [← e13v]
      refine g_goto (tgt := 75) hF dJ5_append_3fe6f_42 (by decide) ?_
      refine g_aload_n hF 0 rfl rfl dJ5_append_3fe6f_75 ?_
      cases h
      exact g_ret_a hF rfl (Or.inl ⟨_, rfl⟩) dJ5_append_3fe6f_76 (hR ad6 X6 W6) (by omega) (by omega)
theorem c_J5_append_3fe6f {d : Nat} {T : gT} {M : gM} {c9 s9 : Nat} {m_a0 : Nat} {a0 : Nat} {i1 : Int32} {o : Nat × gT × gM} (hd : 4 ≤ d) (q0 : T[a0]? = some (20, m_a0)) (h : f_J5_append_3fe6f T M a0 i1 = some (o, c9, s9)) : gRet d yJ5_append_3fe6f cJ5_append_3fe6f 2 (some (.object RJ5)) c9 s9 [.ref a0, .int i1] T M (gMade T (some (.ref o.1)) o.2.1 o.2.2) := by
  refine gRet_of (own := RJ5) (by decide) rfl (Nat.le_of_ble_eq_true rfl) (fun Z ad0 hn h0 hF => ?_)
  exact t_J5_append_3fe6f (ce := 0) (so := 0) hF hn hd (by omega) (by omega) q0 h (fun ad1 x1 y1 => ⟨rfl, rfl, rfl, x1, y1⟩)
theorem t_J6_stringSize_0f7a4_B16 {Z : gZ} {d mc ms : Nat} {Acc : Option Value → (Nat → Nat) → gT → gM → Prop} {AccX : Nat → (Nat → Nat) → gT → gM → Prop} {ad : Nat → Nat} {T : gT} {M : gM} {ce so : Nat}  {i0 : Int32} {i1 : Int32} {i2 : Int32} {i3 : Int32} {o : (Int32) ⊕ (Int32 × Int32)} (hF : gFix Z cJ6_stringSize_0f7a4 RJ6 "stringSize" (some .int) d mc ms Acc AccX) (hn : Z.2.2.2.2.2.1 = 4) (hd : 1 ≤ d) (hk1 : ce ≤ mc) (hk2 : so ≤ ms)  (h : f_J6_stringSize_0f7a4_B16 T M i0 i1 i2 i3 = some o) (hR : ∀ r9, o = .inl r9 → Acc (some (.int r9)) ad T M) (hN : ∀ n9, o = .inr n9 → gG Z ad T M ce so 16 [(0, .int i0), (1, .int i1), (2, .int n9.1), (3, .int n9.2)] []) : gG Z ad T M ce so 16 [(0, .int i0), (1, .int i1), (2, .int i2), (3, .int i3)] [] := by
  unfold f_J6_stringSize_0f7a4_B16 at h
  refine g_iload_n hF 3 rfl rfl dJ6_stringSize_0f7a4_16 ?_
  refine g_bipush (v := (10 : Int32)) hF rfl dJ6_stringSize_0f7a4_17 ?_
  refine g_icmp_ge (tgt := 42) hF dJ6_stringSize_0f7a4_19 (by decide) (fun c1 => ?_) (fun c1 => ?_)
  · replace h := gif_t c1 h
    refine g_bipush (v := (10 : Int32)) hF rfl dJ6_stringSize_0f7a4_42 ?_
    refine g_iload_n hF 1 rfl rfl dJ6_stringSize_0f7a4_44 ?_
    refine g_iadd hF dJ6_stringSize_0f7a4_45 ?_
    obtain rfl := Option.some.inj h
    exact g_ret_i hF rfl rfl dJ6_stringSize_0f7a4_46 (hR _ rfl) (by omega) (by omega)
  · replace h := gif_f c1 h
    refine g_iload_n hF 0 rfl rfl dJ6_stringSize_0f7a4_22 ?_
    refine g_iload_n hF 2 rfl rfl dJ6_stringSize_0f7a4_23 ?_
    refine g_icmp_le (tgt := 31) hF dJ6_stringSize_0f7a4_24 (by decide) (fun c2 => ?_) (fun c2 => ?_)
    · replace h := gif_t c2 h
      refine g_bipush (v := (10 : Int32)) hF rfl dJ6_stringSize_0f7a4_31 ?_
      refine g_iload_n hF 2 rfl rfl dJ6_stringSize_0f7a4_33 ?_
      refine g_imul hF dJ6_stringSize_0f7a4_34 ?_
      refine g_istore_n (ls' := [(2, .int ((10 : Int32) * i2)), (0, .int i0), (1, .int i1), (3, .int i3)]) hF rfl (by rw [hn]; decide) rfl dJ6_stringSize_0f7a4_35 ?_
      refine g_iinc (n := 1) (v := (i3 + (1 : Int32))) (ls' := [(3, .int (i3 + (1 : Int32))), (2, .int ((10 : Int32) * i2)), (0, .int i0), (1, .int i1)]) hF 3 rfl rfl (by rw [hn]; decide) rfl dJ6_stringSize_0f7a4_36 ?_
      refine g_goto (tgt := 16) hF dJ6_stringSize_0f7a4_39 (by decide) ?_
      exact gG_sub [2, 3, 1, 0] rfl (hN _ (Option.some.inj h).symm)
    · replace h := gif_f c2 h
      refine g_iload_n hF 3 rfl rfl dJ6_stringSize_0f7a4_27 ?_
      refine g_iload_n hF 1 rfl rfl dJ6_stringSize_0f7a4_28 ?_
      refine g_iadd hF dJ6_stringSize_0f7a4_29 ?_
      obtain rfl := Option.some.inj h
      exact g_ret_i hF rfl rfl dJ6_stringSize_0f7a4_30 (hR _ rfl) (by omega) (by omega)
theorem t_J6_stringSize_0f7a4_L16 {Z : gZ} {d mc ms : Nat} {Acc : Option Value → (Nat → Nat) → gT → gM → Prop} {AccX : Nat → (Nat → Nat) → gT → gM → Prop} {ad : Nat → Nat} {T : gT} {M : gM} {ce so : Nat}  {i0 : Int32} {i1 : Int32} {i2 : Int32} {i3 : Int32} {o : Int32} (hF : gFix Z cJ6_stringSize_0f7a4 RJ6 "stringSize" (some .int) d mc ms Acc AccX) (hn : Z.2.2.2.2.2.1 = 4) (hd : 1 ≤ d) (hk1 : ce ≤ mc) (hk2 : so ≤ ms)  (h : gloop (fun x => f_J6_stringSize_0f7a4_B16 T M i0 i1 x.1 x.2) gFU (i2, i3) = some o) (hR : Acc (some (.int o)) ad T M) : gG Z ad T M ce so 16 [(0, .int i0), (1, .int i1), (2, .int i2), (3, .int i3)] [] := by
  refine gloop_ind (P := fun x0 : Int32 × Int32 => gG Z ad T M ce so 16 [(0, .int i0), (1, .int i1), (2, .int x0.1), (3, .int x0.2)] []) (e := o) (fun x0 y hy hl hr => ?_) gFU (i2, i3) h
  exact t_J6_stringSize_0f7a4_B16 hF hn hd hk1 hk2  hy (fun r9 q9 => by rw [hl _ q9]; exact hR) (fun n9 q9 => hr n9 q9)
theorem t_J6_stringSize_0f7a4_11 {Z : gZ} {d mc ms : Nat} {Acc : Option Value → (Nat → Nat) → gT → gM → Prop} {AccX : Nat → (Nat → Nat) → gT → gM → Prop} {ad : Nat → Nat} {T : gT} {M : gM} {ce so : Nat}  {i0 : Int32} {i1 : Int32} {o : Int32} (hF : gFix Z cJ6_stringSize_0f7a4 RJ6 "stringSize" (some .int) d mc ms Acc AccX) (hn : Z.2.2.2.2.2.1 = 4) (hd : 1 ≤ d) (hk1 : ce ≤ mc) (hk2 : so ≤ ms)  (h : f_J6_stringSize_0f7a4_11 T M i0 i1 = some o) (hR : Acc (some (.int o)) ad T M) : gG Z ad T M ce so 11 [(0, .int i0), (1, .int i1)] [] := by
  unfold f_J6_stringSize_0f7a4_11 at h
  refine g_bipush (v := (-10 : Int32)) hF rfl dJ6_stringSize_0f7a4_11 ?_
  refine g_istore_n (ls' := [(2, .int (-10 : Int32)), (0, .int i0), (1, .int i1)]) hF rfl (by rw [hn]; decide) rfl dJ6_stringSize_0f7a4_13 ?_
  refine g_iconst (v := (1 : Int32)) hF rfl dJ6_stringSize_0f7a4_14 ?_
  refine g_istore_n (ls' := [(3, .int (1 : Int32)), (2, .int (-10 : Int32)), (0, .int i0), (1, .int i1)]) hF rfl (by rw [hn]; decide) rfl dJ6_stringSize_0f7a4_15 ?_
  obtain ⟨x3, h3, h⟩ := gbnd h
  cases h
  exact gG_sub [2, 3, 1, 0] rfl (t_J6_stringSize_0f7a4_L16 hF hn hd (by omega) (by omega)  h3 hR)
theorem t_J6_stringSize_0f7a4 {Z : gZ} {d mc ms : Nat} {Acc : Option Value → (Nat → Nat) → gT → gM → Prop} {AccX : Nat → (Nat → Nat) → gT → gM → Prop} {ad : Nat → Nat} {T : gT} {M : gM} {ce so : Nat}  {i0 : Int32} {o : Int32} (hF : gFix Z cJ6_stringSize_0f7a4 RJ6 "stringSize" (some .int) d mc ms Acc AccX) (hn : Z.2.2.2.2.2.1 = 4) (hd : 1 ≤ d) (hk1 : ce ≤ mc) (hk2 : so ≤ ms)  (h : f_J6_stringSize_0f7a4 T M i0 = some o) (hR : Acc (some (.int o)) ad T M) : gG Z ad T M ce so 0 [(0, .int i0)] [] := by
  unfold f_J6_stringSize_0f7a4 at h
  refine g_iconst (v := (1 : Int32)) hF rfl dJ6_stringSize_0f7a4_0 ?_
  refine g_istore_n (ls' := [(1, .int (1 : Int32)), (0, .int i0)]) hF rfl (by rw [hn]; decide) rfl dJ6_stringSize_0f7a4_1 ?_
  refine g_iload_n hF 1 rfl rfl dJ6_stringSize_0f7a4_2 ?_
  refine g_if_lt (tgt := 11) hF dJ6_stringSize_0f7a4_3 (by decide) (fun c4 => ?_) (fun c4 => ?_)
  · replace h := gif_t c4 h
    exact gG_sub [1, 0] rfl (t_J6_stringSize_0f7a4_11 hF hn hd (by omega) (by omega)  h hR)
  · replace h := gif_f c4 h
    refine g_iconst (v := (0 : Int32)) hF rfl dJ6_stringSize_0f7a4_6 ?_
    refine g_istore_n (ls' := [(1, .int (0 : Int32)), (0, .int i0)]) hF rfl (by rw [hn]; decide) rfl dJ6_stringSize_0f7a4_7 ?_
    refine g_iload_n hF 1 rfl rfl dJ6_stringSize_0f7a4_8 ?_
    refine g_ineg hF dJ6_stringSize_0f7a4_9 ?_
    refine g_istore_n (ls' := [(0, .int (-i0)), (1, .int (0 : Int32))]) hF rfl (by rw [hn]; decide) rfl dJ6_stringSize_0f7a4_10 ?_
    exact gG_sub [0, 1] rfl (t_J6_stringSize_0f7a4_11 hF hn hd (by omega) (by omega)  h hR)
theorem c_J6_stringSize_0f7a4 {d : Nat} {T : gT} {M : gM}  {i0 : Int32} {o : Int32} (hd : 1 ≤ d)  (h : f_J6_stringSize_0f7a4 T M i0 = some o) : gRet d yJ6_stringSize_0f7a4 cJ6_stringSize_0f7a4 4 (some .int) 0 0 [.int i0] T M (gSame T (some (.int o)) M) := by
  refine gRet_of (own := RJ6) (by decide) rfl (Nat.le_of_ble_eq_true rfl) (fun Z ad0 hn h0 hF => ?_)
  exact t_J6_stringSize_0f7a4 (ce := 0) (so := 0) hF hn hd (Nat.le_refl _) (Nat.le_refl _)  h ⟨rfl, rfl, rfl, rfl⟩
theorem t_J6_getChars_ba4f3_B22 {Z : gZ} {d mc ms : Nat} {Acc : Option Value → (Nat → Nat) → gT → gM → Prop} {AccX : Nat → (Nat → Nat) → gT → gM → Prop} {ad : Nat → Nat} {T : gT} {M : gM} {ce so : Nat} {m_a2 : Nat} {i0 : Int32} {a2 : Nat} {i5 : Int32} {i6 : Int32} {o : (Int32 × Int32 × gM) ⊕ (Int32 × Int32 × gM)} (hF : gFix Z cJ6_getChars_ba4f3 RJ6 "getChars" (some .int) d mc ms Acc AccX) (hn : Z.2.2.2.2.2.1 = 7) (hd : 1 ≤ d) (hk1 : ce ≤ mc) (hk2 : so ≤ ms) (q2 : T[a2]? = some (10, m_a2)) (h : f_J6_getChars_ba4f3_B22 T M i0 a2 i5 i6 = some o) (hE : ∀ e9, o = .inl e9 → gG Z ad T e9.2.2 ce so 72 [(0, .int e9.1), (2, .ref a2), (5, .int e9.2.1), (6, .int i6)] []) (hN : ∀ n9, o = .inr n9 → gG Z ad T n9.2.2 ce so 22 [(0, .int n9.1), (2, .ref a2), (5, .int n9.2.1), (6, .int i6)] []) : gG Z ad T M ce so 22 [(0, .int i0), (2, .ref a2), (5, .int i5), (6, .int i6)] [] := by
  unfold f_J6_getChars_ba4f3_B22 at h
  refine g_iload_n hF 0 rfl rfl dJ6_getChars_ba4f3_22 ?_
  refine g_bipush (v := (-100 : Int32)) hF rfl dJ6_getChars_ba4f3_23 ?_
  refine g_icmp_gt (tgt := 72) hF dJ6_getChars_ba4f3_25 (by decide) (fun c1 => ?_) (fun c1 => ?_)
  · replace h := gif_t c1 h
    exact gG_sub [0, 1, 2, 3] rfl (hE _ (Option.some.inj h).symm)
  · replace h := gif_f c1 h
    refine g_iload_n hF 0 rfl rfl dJ6_getChars_ba4f3_28 ?_
    refine g_bipush (v := (100 : Int32)) hF rfl dJ6_getChars_ba4f3_29 ?_
    refine g_idiv hF (by decide) dJ6_getChars_ba4f3_31 ?_
    refine g_istore_n (ls' := [(3, .int (i0 / (100 : Int32))), (0, .int i0), (2, .ref a2), (5, .int i5), (6, .int i6)]) hF rfl (by rw [hn]; decide) rfl dJ6_getChars_ba4f3_32 ?_
    refine g_iload_n hF 0 rfl rfl dJ6_getChars_ba4f3_33 ?_
    refine g_bipush (v := (100 : Int32)) hF rfl dJ6_getChars_ba4f3_34 ?_
    refine g_imul hF dJ6_getChars_ba4f3_36 ?_
    refine g_iload_n hF 1 rfl rfl dJ6_getChars_ba4f3_37 ?_
    refine g_isub hF dJ6_getChars_ba4f3_38 ?_
    refine g_istore (ls' := [(4, .int (((i0 / (100 : Int32)) * (100 : Int32)) - i0)), (3, .int (i0 / (100 : Int32))), (0, .int i0), (2, .ref a2), (5, .int i5), (6, .int i6)]) hF (by rw [hn]; decide) rfl dJ6_getChars_ba4f3_39 ?_
    refine g_iload_n hF 1 rfl rfl dJ6_getChars_ba4f3_41 ?_
    refine g_istore_n (ls' := [(0, .int (i0 / (100 : Int32))), (4, .int (((i0 / (100 : Int32)) * (100 : Int32)) - i0)), (3, .int (i0 / (100 : Int32))), (2, .ref a2), (5, .int i5), (6, .int i6)]) hF rfl (by rw [hn]; decide) rfl dJ6_getChars_ba4f3_42 ?_
    refine g_aload_n hF 3 rfl rfl dJ6_getChars_ba4f3_43 ?_
    refine g_iinc (n := -1) (v := (i5 + (-1 : Int32))) (ls' := [(5, .int (i5 + (-1 : Int32))), (0, .int (i0 / (100 : Int32))), (4, .int (((i0 / (100 : Int32)) * (100 : Int32)) - i0)), (3, .int (i0 / (100 : Int32))), (2, .ref a2), (6, .int i6)]) hF 4 rfl (congrArg (HAdd.hAdd i5) (by decide)) (by rw [hn]; decide) rfl dJ6_getChars_ba4f3_44 ?_
    refine g_iload hF 0 rfl dJ6_getChars_ba4f3_47 ?_
    refine g_digO hF kw_1317 dJ6_getChars_ba4f3_49 ?_
    refine g_iload hF 2 rfl dJ6_getChars_ba4f3_52 ?_
    obtain ⟨_, h2, h⟩ := gbnd h
    refine g_digL hF (by decide) (chk_sp h2) dJ6_getChars_ba4f3_54 ?_
    obtain ⟨M3, h3, h⟩ := gbnd h
    obtain ⟨i3h, e3v⟩ := ast_sp q2 h3
    refine g_bast hF q2 i3h dJ6_getChars_ba4f3_55 ?_
    rw [← e3v]
    refine g_aload_n hF 4 rfl rfl dJ6_getChars_ba4f3_56 ?_
    refine g_iinc (n := -1) (v := ((i5 + (-1 : Int32)) + (-1 : Int32))) (ls' := [(5, .int ((i5 + (-1 : Int32)) + (-1 : Int32))), (0, .int (i0 / (100 : Int32))), (4, .int (((i0 / (100 : Int32)) * (100 : Int32)) - i0)), (3, .int (i0 / (100 : Int32))), (2, .ref a2), (6, .int i6)]) hF 0 rfl (congrArg (HAdd.hAdd (i5 + (-1 : Int32))) (by decide)) (by rw [hn]; decide) rfl dJ6_getChars_ba4f3_57 ?_
    refine g_iload hF 0 rfl dJ6_getChars_ba4f3_60 ?_
    refine g_digT hF kw_1319 dJ6_getChars_ba4f3_62 ?_
    refine g_iload hF 2 rfl dJ6_getChars_ba4f3_65 ?_
    obtain ⟨_, h4, h⟩ := gbnd h
    refine g_digL hF (by decide) (chk_sp h4) dJ6_getChars_ba4f3_67 ?_
    obtain ⟨M5, h5, h⟩ := gbnd h
    obtain ⟨i5h, e5v⟩ := ast_sp q2 h5
    refine g_bast hF q2 i5h dJ6_getChars_ba4f3_68 ?_
    rw [← e5v]
    refine g_goto (tgt := 22) hF dJ6_getChars_ba4f3_69 (by decide) ?_
    exact gG_sub [1, 4, 0, 5] rfl (hN _ (Option.some.inj h).symm)
theorem t_J6_getChars_ba4f3_L22 {Z : gZ} {d mc ms : Nat} {Acc : Option Value → (Nat → Nat) → gT → gM → Prop} {AccX : Nat → (Nat → Nat) → gT → gM → Prop} {ad : Nat → Nat} {T : gT} {M : gM} {ce so : Nat} {m_a2 : Nat} {i0 : Int32} {a2 : Nat} {i5 : Int32} {i6 : Int32} {o : Int32 × Int32 × gM} (hF : gFix Z cJ6_getChars_ba4f3 RJ6 "getChars" (some .int) d mc ms Acc AccX) (hn : Z.2.2.2.2.2.1 = 7) (hd : 1 ≤ d) (hk1 : ce ≤ mc) (hk2 : so ≤ ms) (q2 : T[a2]? = some (10, m_a2)) (h : gloop (fun x => f_J6_getChars_ba4f3_B22 T x.2.2 x.1 a2 x.2.1 i6) gFU (i0, i5, M) = some o) (hE : gG Z ad T o.2.2 ce so 72 [(0, .int o.1), (2, .ref a2), (5, .int o.2.1), (6, .int i6)] []) : gG Z ad T M ce so 22 [(0, .int i0), (2, .ref a2), (5, .int i5), (6, .int i6)] [] := by
  refine gloop_ind (P := fun x0 : Int32 × Int32 × gM => gG Z ad T x0.2.2 ce so 22 [(0, .int x0.1), (2, .ref a2), (5, .int x0.2.1), (6, .int i6)] []) (e := o) (fun x0 y hy hl hr => ?_) gFU (i0, i5, M) h
  exact t_J6_getChars_ba4f3_B22 hF hn hd hk1 hk2 q2 hy (fun e9 q9 => by rw [hl _ q9]; exact hE) (fun n9 q9 => hr n9 q9)
theorem t_J6_getChars_ba4f3_104 {Z : gZ} {d mc ms : Nat} {Acc : Option Value → (Nat → Nat) → gT → gM → Prop} {AccX : Nat → (Nat → Nat) → gT → gM → Prop} {ad : Nat → Nat} {T : gT} {M : gM} {ce so : Nat} {m_a2 : Nat} {a2 : Nat} {i5 : Int32} {i6 : Int32} {o : Int32 × gM} (hF : gFix Z cJ6_getChars_ba4f3 RJ6 "getChars" (some .int) d mc ms Acc AccX) (hn : Z.2.2.2.2.2.1 = 7) (hd : 1 ≤ d) (hk1 : ce ≤ mc) (hk2 : so ≤ ms) (q2 : T[a2]? = some (10, m_a2)) (h : f_J6_getChars_ba4f3_104 T M a2 i5 i6 = some o) (hR : Acc (some (.int o.1)) ad T o.2) : gG Z ad T M ce so 104 [(2, .ref a2), (5, .int i5), (6, .int i6)] [] := by
  unfold f_J6_getChars_ba4f3_104 at h
  refine g_iload hF 2 rfl dJ6_getChars_ba4f3_104 ?_
  refine g_if_eq (tgt := 118) hF dJ6_getChars_ba4f3_106 (by decide) (fun c6 => ?_) (fun c6 => ?_)
  · replace h := gif_t c6 h
    refine g_iload hF 1 rfl dJ6_getChars_ba4f3_118 ?_
    obtain rfl := Option.some.inj h
    exact g_ret_i hF rfl rfl dJ6_getChars_ba4f3_120 hR (by omega) (by omega)
  · replace h := gif_f c6 h
    refine g_aload_n hF 0 rfl rfl dJ6_getChars_ba4f3_109 ?_
    refine g_iinc (n := -1) (v := (i5 + (-1 : Int32))) (ls' := [(5, .int (i5 + (-1 : Int32))), (2, .ref a2), (6, .int i6)]) hF 1 rfl (congrArg (HAdd.hAdd i5) (by decide)) (by rw [hn]; decide) rfl dJ6_getChars_ba4f3_110 ?_
    refine g_iload hF 0 rfl dJ6_getChars_ba4f3_113 ?_
    refine g_bipush (v := (45 : Int32)) hF rfl dJ6_getChars_ba4f3_115 ?_
    obtain ⟨M7, h7, h⟩ := gbnd h
    obtain ⟨i7h, e7v⟩ := ast_sp q2 h7
    refine g_bast hF q2 i7h dJ6_getChars_ba4f3_117 ?_
    rw [← e7v]
    refine g_iload hF 0 rfl dJ6_getChars_ba4f3_118 ?_
    obtain rfl := Option.some.inj h
    exact g_ret_i hF rfl rfl dJ6_getChars_ba4f3_120 hR (by omega) (by omega)
theorem t_J6_getChars_ba4f3_12 {Z : gZ} {d mc ms : Nat} {Acc : Option Value → (Nat → Nat) → gT → gM → Prop} {AccX : Nat → (Nat → Nat) → gT → gM → Prop} {ad : Nat → Nat} {T : gT} {M : gM} {ce so : Nat} {m_a2 : Nat} {i0 : Int32} {a2 : Nat} {i5 : Int32} {k0 : Int32} {o : Int32 × gM} (hF : gFix Z cJ6_getChars_ba4f3 RJ6 "getChars" (some .int) d mc ms Acc AccX) (hn : Z.2.2.2.2.2.1 = 7) (hd : 1 ≤ d) (hk1 : ce ≤ mc) (hk2 : so ≤ ms) (q2 : T[a2]? = some (10, m_a2)) (h : f_J6_getChars_ba4f3_12 T M i0 a2 i5 k0 = some o) (hR : Acc (some (.int o.1)) ad T o.2) : gG Z ad T M ce so 12 [(0, .int i0), (2, .ref a2), (5, .int i5)] [.int k0] := by
  unfold f_J6_getChars_ba4f3_12 at h
  refine g_istore (ls' := [(6, .int k0), (0, .int i0), (2, .ref a2), (5, .int i5)]) hF (by rw [hn]; decide) rfl dJ6_getChars_ba4f3_12 ?_
  refine g_iload hF 0 rfl dJ6_getChars_ba4f3_14 ?_
  refine g_if_ne (tgt := 22) hF dJ6_getChars_ba4f3_16 (by decide) (fun c8 => ?_) (fun c8 => ?_)
  · replace h := gif_t c8 h
    obtain ⟨x9, h9, h⟩ := gbnd h
    refine gG_sub [1, 2, 3, 0] rfl (t_J6_getChars_ba4f3_L22 hF hn hd (by omega) (by omega) q2 h9 ?_)
    refine g_aload_n hF 1 rfl rfl dJ6_getChars_ba4f3_72 ?_
    refine g_iinc (n := -1) (v := (x9.2.1 + (-1 : Int32))) (ls' := [(5, .int (x9.2.1 + (-1 : Int32))), (0, .int x9.1), (2, .ref a2), (6, .int k0)]) hF 2 rfl (congrArg (HAdd.hAdd x9.2.1) (by decide)) (by rw [hn]; decide) rfl dJ6_getChars_ba4f3_73 ?_
    refine g_iload hF 0 rfl dJ6_getChars_ba4f3_76 ?_
    refine g_digO hF kw_1317 dJ6_getChars_ba4f3_78 ?_
    refine g_iload_n hF 1 rfl rfl dJ6_getChars_ba4f3_81 ?_
    refine g_ineg hF dJ6_getChars_ba4f3_82 ?_
    obtain ⟨_, h10, h⟩ := gbnd h
    refine g_digL hF (by decide) (chk_sp h10) dJ6_getChars_ba4f3_83 ?_
    obtain ⟨M11, h11, h⟩ := gbnd h
    obtain ⟨i11h, e11v⟩ := ast_sp q2 h11
    refine g_bast hF q2 i11h dJ6_getChars_ba4f3_84 ?_
    rw [← e11v]
    refine g_iload_n hF 1 rfl rfl dJ6_getChars_ba4f3_85 ?_
    refine g_bipush (v := (-9 : Int32)) hF rfl dJ6_getChars_ba4f3_86 ?_
    refine g_icmp_ge (tgt := 104) hF dJ6_getChars_ba4f3_88 (by decide) (fun c12 => ?_) (fun c12 => ?_)
    · replace h := gif_t c12 h
      exact gG_sub [2, 0, 3] rfl (t_J6_getChars_ba4f3_104 hF hn hd (by omega) (by omega) q2 h hR)
    · replace h := gif_f c12 h
      refine g_aload_n hF 2 rfl rfl dJ6_getChars_ba4f3_91 ?_
      refine g_iinc (n := -1) (v := ((x9.2.1 + (-1 : Int32)) + (-1 : Int32))) (ls' := [(5, .int ((x9.2.1 + (-1 : Int32)) + (-1 : Int32))), (0, .int x9.1), (2, .ref a2), (6, .int k0)]) hF 0 rfl (congrArg (HAdd.hAdd (x9.2.1 + (-1 : Int32))) (by decide)) (by rw [hn]; decide) rfl dJ6_getChars_ba4f3_92 ?_
      refine g_iload hF 0 rfl dJ6_getChars_ba4f3_95 ?_
      refine g_digT hF kw_1319 dJ6_getChars_ba4f3_97 ?_
      refine g_iload_n hF 1 rfl rfl dJ6_getChars_ba4f3_100 ?_
      refine g_ineg hF dJ6_getChars_ba4f3_101 ?_
      obtain ⟨_, h13, h⟩ := gbnd h
      refine g_digL hF (by decide) (chk_sp h13) dJ6_getChars_ba4f3_102 ?_
      obtain ⟨M14, h14, h⟩ := gbnd h
      obtain ⟨i14h, e14v⟩ := ast_sp q2 h14
      refine g_bast hF q2 i14h dJ6_getChars_ba4f3_103 ?_
      rw [← e14v]
      exact gG_sub [2, 0, 3] rfl (t_J6_getChars_ba4f3_104 hF hn hd (by omega) (by omega) q2 h hR)
  · replace h := gif_n c8 h
    refine g_iload_n hF 1 rfl rfl dJ6_getChars_ba4f3_19 ?_
    refine g_ineg hF dJ6_getChars_ba4f3_20 ?_
    refine g_istore_n (ls' := [(0, .int (-i0)), (6, .int k0), (2, .ref a2), (5, .int i5)]) hF rfl (by rw [hn]; decide) rfl dJ6_getChars_ba4f3_21 ?_
    obtain ⟨x15, h15, h⟩ := gbnd h
    refine gG_sub [0, 2, 3, 1] rfl (t_J6_getChars_ba4f3_L22 hF hn hd (by omega) (by omega) q2 h15 ?_)
    refine g_aload_n hF 1 rfl rfl dJ6_getChars_ba4f3_72 ?_
    refine g_iinc (n := -1) (v := (x15.2.1 + (-1 : Int32))) (ls' := [(5, .int (x15.2.1 + (-1 : Int32))), (0, .int x15.1), (2, .ref a2), (6, .int k0)]) hF 2 rfl (congrArg (HAdd.hAdd x15.2.1) (by decide)) (by rw [hn]; decide) rfl dJ6_getChars_ba4f3_73 ?_
    refine g_iload hF 0 rfl dJ6_getChars_ba4f3_76 ?_
    refine g_digO hF kw_1317 dJ6_getChars_ba4f3_78 ?_
    refine g_iload_n hF 1 rfl rfl dJ6_getChars_ba4f3_81 ?_
    refine g_ineg hF dJ6_getChars_ba4f3_82 ?_
    obtain ⟨_, h16, h⟩ := gbnd h
    refine g_digL hF (by decide) (chk_sp h16) dJ6_getChars_ba4f3_83 ?_
    obtain ⟨M17, h17, h⟩ := gbnd h
    obtain ⟨i17h, e17v⟩ := ast_sp q2 h17
    refine g_bast hF q2 i17h dJ6_getChars_ba4f3_84 ?_
    rw [← e17v]
    refine g_iload_n hF 1 rfl rfl dJ6_getChars_ba4f3_85 ?_
    refine g_bipush (v := (-9 : Int32)) hF rfl dJ6_getChars_ba4f3_86 ?_
    refine g_icmp_ge (tgt := 104) hF dJ6_getChars_ba4f3_88 (by decide) (fun c18 => ?_) (fun c18 => ?_)
    · replace h := gif_t c18 h
      exact gG_sub [2, 0, 3] rfl (t_J6_getChars_ba4f3_104 hF hn hd (by omega) (by omega) q2 h hR)
    · replace h := gif_f c18 h
      refine g_aload_n hF 2 rfl rfl dJ6_getChars_ba4f3_91 ?_
      refine g_iinc (n := -1) (v := ((x15.2.1 + (-1 : Int32)) + (-1 : Int32))) (ls' := [(5, .int ((x15.2.1 + (-1 : Int32)) + (-1 : Int32))), (0, .int x15.1), (2, .ref a2), (6, .int k0)]) hF 0 rfl (congrArg (HAdd.hAdd (x15.2.1 + (-1 : Int32))) (by decide)) (by rw [hn]; decide) rfl dJ6_getChars_ba4f3_92 ?_
      refine g_iload hF 0 rfl dJ6_getChars_ba4f3_95 ?_
      refine g_digT hF kw_1319 dJ6_getChars_ba4f3_97 ?_
      refine g_iload_n hF 1 rfl rfl dJ6_getChars_ba4f3_100 ?_
      refine g_ineg hF dJ6_getChars_ba4f3_101 ?_
      obtain ⟨_, h19, h⟩ := gbnd h
      refine g_digL hF (by decide) (chk_sp h19) dJ6_getChars_ba4f3_102 ?_
      obtain ⟨M20, h20, h⟩ := gbnd h
      obtain ⟨i20h, e20v⟩ := ast_sp q2 h20
      refine g_bast hF q2 i20h dJ6_getChars_ba4f3_103 ?_
      rw [← e20v]
      exact gG_sub [2, 0, 3] rfl (t_J6_getChars_ba4f3_104 hF hn hd (by omega) (by omega) q2 h hR)
theorem t_J6_getChars_ba4f3 {Z : gZ} {d mc ms : Nat} {Acc : Option Value → (Nat → Nat) → gT → gM → Prop} {AccX : Nat → (Nat → Nat) → gT → gM → Prop} {ad : Nat → Nat} {T : gT} {M : gM} {ce so : Nat} {m_a2 : Nat} {i0 : Int32} {i1 : Int32} {a2 : Nat} {o : Int32 × gM} (hF : gFix Z cJ6_getChars_ba4f3 RJ6 "getChars" (some .int) d mc ms Acc AccX) (hn : Z.2.2.2.2.2.1 = 7) (hd : 1 ≤ d) (hk1 : ce ≤ mc) (hk2 : so ≤ ms) (q2 : T[a2]? = some (10, m_a2)) (h : f_J6_getChars_ba4f3 T M i0 i1 a2 = some o) (hR : Acc (some (.int o.1)) ad T o.2) : gG Z ad T M ce so 0 [(0, .int i0), (1, .int i1), (2, .ref a2)] [] := by
  unfold f_J6_getChars_ba4f3 at h
  refine g_iload_n hF 1 rfl rfl dJ6_getChars_ba4f3_0 ?_
  refine g_istore (ls' := [(5, .int i1), (0, .int i0), (1, .int i1), (2, .ref a2)]) hF (by rw [hn]; decide) rfl dJ6_getChars_ba4f3_1 ?_
  refine g_iload_n hF 1 rfl rfl dJ6_getChars_ba4f3_3 ?_
  refine g_if_ge (tgt := 11) hF dJ6_getChars_ba4f3_4 (by decide) (fun c21 => ?_) (fun c21 => ?_)
  · replace h := gif_t c21 h
    refine g_iconst (v := (0 : Int32)) hF rfl dJ6_getChars_ba4f3_11 ?_
    exact gG_sub [1, 3, 0] rfl (t_J6_getChars_ba4f3_12 hF hn hd (by omega) (by omega) q2 h hR)
  · replace h := gif_f c21 h
    refine g_iconst (v := (1 : Int32)) hF rfl dJ6_getChars_ba4f3_7 ?_
    refine g_goto (tgt := 12) hF dJ6_getChars_ba4f3_8 (by decide) ?_
    exact gG_sub [1, 3, 0] rfl (t_J6_getChars_ba4f3_12 hF hn hd (by omega) (by omega) q2 h hR)
theorem c_J6_getChars_ba4f3 {d : Nat} {T : gT} {M : gM} {m_a2 : Nat} {i0 : Int32} {i1 : Int32} {a2 : Nat} {o : Int32 × gM} (hd : 1 ≤ d) (q2 : T[a2]? = some (10, m_a2)) (h : f_J6_getChars_ba4f3 T M i0 i1 a2 = some o) : gRet d yJ6_getChars_ba4f3 cJ6_getChars_ba4f3 7 (some .int) 0 0 [.int i0, .int i1, .ref a2] T M (gSame T (some (.int o.1)) o.2) := by
  refine gRet_of (own := RJ6) (by decide) rfl (Nat.le_of_ble_eq_true rfl) (fun Z ad0 hn h0 hF => ?_)
  exact t_J6_getChars_ba4f3 (ce := 0) (so := 0) hF hn hd (Nat.le_refl _) (Nat.le_refl _) q2 h ⟨rfl, rfl, rfl, rfl⟩
theorem t_J5_append_c97b9_48 {Z : gZ} {d mc ms : Nat} {Acc : Option Value → (Nat → Nat) → gT → gM → Prop} {AccX : Nat → (Nat → Nat) → gT → gM → Prop} {ad : Nat → Nat} {T : gT} {M : gM} {ce so c9 s9 : Nat} {m_a0 : Nat} {a0 : Nat} {i3 : Int32} {o : Nat × gT × gM} (hF : gFix Z cJ5_append_c97b9 RJ5 "append" (some (.object RJ5)) d mc ms Acc AccX) (hn : Z.2.2.2.2.2.1 = 4) (hd : 4 ≤ d) (hk1 : ce + c9 ≤ mc) (hk2 : so + s9 ≤ ms) (q0 : T[a0]? = some (20, m_a0)) (h : f_J5_append_c97b9_48 T M a0 i3 = some (o, c9, s9)) (hR : ∀ ad1 : Nat → Nat, gExt T o.2.1 → (∀ a : Nat, a < T.length → ad1 a = ad a) → Acc (some (.ref o.1)) ad1 o.2.1 o.2.2) : gG Z ad T M ce so 48 [(0, .ref a0), (3, .int i3)] [] := by
  unfold f_J5_append_c97b9_48 at h
  refine g_aload_n hF 0 rfl rfl dJ5_append_c97b9_48 ?_
  refine g_iload_n hF 1 rfl rfl dJ5_append_c97b9_49 ?_
  refine g_put_i hF rfl rfl fl_RJ5_79 q0 dJ5_append_c97b9_50 ?_
  refine g_aload_n hF 0 rfl rfl dJ5_append_c97b9_53 ?_
  cases h
  exact g_ret_a hF rfl (Or.inl ⟨_, rfl⟩) dJ5_append_c97b9_54 (hR _ gExt.rf (fun _ _ => rfl)) (by omega) (by omega)
theorem t_J5_append_c97b9 {Z : gZ} {d mc ms : Nat} {Acc : Option Value → (Nat → Nat) → gT → gM → Prop} {AccX : Nat → (Nat → Nat) → gT → gM → Prop} {ad : Nat → Nat} {T : gT} {M : gM} {ce so c9 s9 : Nat} {m_a0 : Nat} {a0 : Nat} {i1 : Int32} {o : Nat × gT × gM} (hF : gFix Z cJ5_append_c97b9 RJ5 "append" (some (.object RJ5)) d mc ms Acc AccX) (hn : Z.2.2.2.2.2.1 = 4) (hd : 4 ≤ d) (hk1 : ce + c9 ≤ mc) (hk2 : so + s9 ≤ ms) (q0 : T[a0]? = some (20, m_a0)) (h : f_J5_append_c97b9 T M a0 i1 = some (o, c9, s9)) (hR : ∀ ad1 : Nat → Nat, gExt T o.2.1 → (∀ a : Nat, a < T.length → ad1 a = ad a) → Acc (some (.ref o.1)) ad1 o.2.1 o.2.2) : gG Z ad T M ce so 0 [(0, .ref a0), (1, .int i1)] [] := by
  unfold f_J5_append_c97b9 at h
  refine g_aload_n hF 0 rfl rfl dJ5_append_c97b9_0 ?_
  refine g_get_i hF fl_RJ5_79 q0 dJ5_append_c97b9_1 ?_
  refine g_istore_n (ls' := [(2, .int (gi M a0 3)), (0, .ref a0), (1, .int i1)]) hF rfl (by rw [hn]; decide) rfl dJ5_append_c97b9_4 ?_
  refine g_iload_n hF 0 rfl rfl dJ5_append_c97b9_5 ?_
  refine g_iload_n hF 2 rfl rfl dJ5_append_c97b9_6 ?_
  obtain ⟨x1, h1, h⟩ := gbnd h
  refine g_callS hF my_J6_stringSize_0f7a4 kw_1311 kw_1312 (c_J6_stringSize_0f7a4 (d := d - 1) (by omega)  h1) (by omega) (by omega) (by omega) rfl rfl (Nat.le_of_ble_eq_true rfl) dJ5_append_c97b9_7 (g_sameS ?_)
  refine g_iadd hF dJ5_append_c97b9_10 ?_
  refine g_istore_n (ls' := [(3, .int ((gi M a0 3) + x1)), (2, .int (gi M a0 3)), (0, .ref a0), (1, .int i1)]) hF rfl (by rw [hn]; decide) rfl dJ5_append_c97b9_11 ?_
  refine g_aload_n hF 2 rfl rfl dJ5_append_c97b9_12 ?_
  refine g_iload_n hF 0 rfl rfl dJ5_append_c97b9_13 ?_
  obtain ⟨x2, h2, h⟩ := gbnd h
  obtain ⟨c2, s2, h, ec2, es2⟩ := cadd_sp h
  refine g_callVP hF my_J5_ensureCapacityInternal_d00df kw_1172 kw_1174 kn_1173 kw_1490 gC_20.1 kw_1131 (by decide) q0 (c_J5_ensureCapacityInternal_d00df (d := d - 1) (by omega) q0 (trip h2)) (by omega) (by omega) (by omega) rfl rfl (Nat.le_of_ble_eq_true rfl) dJ5_append_c97b9_14 (g_madeN (gOld_i (gOld_i (gOld_r (gT_lt q0) (gOld_i gOld_0)))) gOld_0 (fun ad2 e2 y2 => ?_))
  have X2 := gExt.tr gExt.rf e2
  have W2 := gad_call y2 gExt.rf (fun _ _ => rfl)
  have q_3 := e2 _ _ q0
  refine g_aload_n hF 2 rfl rfl dJ5_append_c97b9_17 ?_
  obtain ⟨x4, h4, h⟩ := gbnd h
  refine g_callV hF my_J5_isLatin1_aae02 kw_1197 kw_1198 kw_1200 gC_20.1 (by decide) q_3 (c_J5_isLatin1_aae02 (d := d - 1) (by omega) q_3 h4) (by omega) (by omega) (by omega) rfl rfl (Nat.le_of_ble_eq_true rfl) dJ5_append_c97b9_18 (g_sameS ?_)
  refine g_if_eq (tgt := 37) hF dJ5_append_c97b9_21 (by decide) (fun c5 => ?_) (fun c5 => ?_)
  · replace h := gif_t c5 h
    refine g_iload_n hF 3 rfl rfl dJ5_append_c97b9_37 ?_
    refine g_iload_n hF 1 rfl rfl dJ5_append_c97b9_38 ?_
    refine g_iload_n hF 0 rfl rfl dJ5_append_c97b9_39 ?_
    refine g_aload_n hF 2 rfl rfl dJ5_append_c97b9_40 ?_
    obtain ⟨b6, h6, h⟩ := gbnd h
    obtain ⟨g6, l6, q_b6⟩ := ldr_sp h6
    refine g_get_r hF g6 fl_RJ5_15 q_3 dJ5_append_c97b9_41 ?_
    cases h
  · replace h := gif_f c5 h
    refine g_iload_n hF 3 rfl rfl dJ5_append_c97b9_24 ?_
    refine g_iload_n hF 0 rfl rfl dJ5_append_c97b9_25 ?_
    refine g_aload_n hF 2 rfl rfl dJ5_append_c97b9_26 ?_
    obtain ⟨b8, h8, h⟩ := gbnd h
    obtain ⟨g8, l8, q_b8⟩ := ldr_sp h8
    refine g_get_r hF g8 fl_RJ5_15 q_3 dJ5_append_c97b9_27 ?_
    obtain ⟨x9, h9, h⟩ := gbnd h
    refine g_callS hF my_J6_getChars_ba4f3 kw_1314 kw_1315 (c_J6_getChars_ba4f3 (d := d - 1) (by omega) q_b8 h9) (by omega) (by omega) (by omega) rfl rfl (Nat.le_of_ble_eq_true rfl) dJ5_append_c97b9_30 (g_sameS ?_)
    refine g_pop hF rfl dJ5_append_c97b9_33 ?_
    refine g_goto (tgt := 48) hF dJ5_append_c97b9_34 (by decide) ?_
    exact gG_sub [2, 0] rfl (t_J5_append_c97b9_48 hF hn hd (by omega) (by omega) q_3 h (fun ad1 x1 y1 => hR ad1 (gExt.tr X2 x1) (gad_call y1 X2 W2)))
