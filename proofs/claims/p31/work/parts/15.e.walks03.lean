theorem c_J5_append_c97b9 {d : Nat} {T : gT} {M : gM} {c9 s9 : Nat} {m_a0 : Nat} {a0 : Nat} {i1 : Int32} {o : Nat × gT × gM} (hd : 4 ≤ d) (q0 : T[a0]? = some (20, m_a0)) (h : f_J5_append_c97b9 T M a0 i1 = some (o, c9, s9)) : gRet d yJ5_append_c97b9 cJ5_append_c97b9 4 (some (.object RJ5)) c9 s9 [.ref a0, .int i1] T M (gMade T (some (.ref o.1)) o.2.1 o.2.2) := by
  refine gRet_of (own := RJ5) (by decide) rfl (Nat.le_of_ble_eq_true rfl) (fun Z ad0 hn h0 hF => ?_)
  exact t_J5_append_c97b9 (ce := 0) (so := 0) hF hn hd (by omega) (by omega) q0 h (fun ad1 x1 y1 => ⟨rfl, rfl, rfl, x1, y1⟩)
theorem t_J5_getValue_6d5f1 {Z : gZ} {d mc ms : Nat} {Acc : Option Value → (Nat → Nat) → gT → gM → Prop} {AccX : Nat → (Nat → Nat) → gT → gM → Prop} {ad : Nat → Nat} {T : gT} {M : gM} {ce so : Nat} {m_a0 : Nat} {a0 : Nat} {o : Nat} (hF : gFix Z cJ5_getValue_6d5f1 RJ5 "getValue" (some (.array .byte)) d mc ms Acc AccX) (hn : Z.2.2.2.2.2.1 = 1) (hd : 1 ≤ d) (hk1 : ce ≤ mc) (hk2 : so ≤ ms) (q0 : T[a0]? = some (20, m_a0)) (h : f_J5_getValue_6d5f1 T M a0 = some o) (hR : Acc (some (.ref o)) ad T M) : gG Z ad T M ce so 0 [(0, .ref a0)] [] := by
  unfold f_J5_getValue_6d5f1 at h
  refine g_aload_n hF 0 rfl rfl dJ5_getValue_6d5f1_0 ?_
  obtain ⟨b1, h1, h⟩ := gbnd h
  obtain ⟨g1, l1, q_b1⟩ := ldr_sp h1
  refine g_get_r hF g1 fl_RJ5_15 q0 dJ5_getValue_6d5f1_1 ?_
  obtain rfl := Option.some.inj h
  exact g_ret_a hF rfl (Or.inr ⟨_, rfl⟩) dJ5_getValue_6d5f1_4 hR (by omega) (by omega)
theorem c_J5_getValue_6d5f1 {d : Nat} {T : gT} {M : gM} {m_a0 : Nat} {a0 : Nat} {o : Nat} (hd : 1 ≤ d) (q0 : T[a0]? = some (20, m_a0)) (h : f_J5_getValue_6d5f1 T M a0 = some o) : gRet d yJ5_getValue_6d5f1 cJ5_getValue_6d5f1 1 (some (.array .byte)) 0 0 [.ref a0] T M (gSame T (some (.ref o)) M) := by
  refine gRet_of (own := RJ5) (by decide) rfl (Nat.le_of_ble_eq_true rfl) (fun Z ad0 hn h0 hF => ?_)
  exact t_J5_getValue_6d5f1 (ce := 0) (so := 0) hF hn hd (Nat.le_refl _) (Nat.le_refl _) q0 h ⟨rfl, rfl, rfl, rfl⟩
theorem t_J7_checkLength_df160 {Z : gZ} {d mc ms : Nat} {Acc : Option Value → (Nat → Nat) → gT → gM → Prop} {AccX : Nat → (Nat → Nat) → gT → gM → Prop} {ad : Nat → Nat} {T : gT} {M : gM} {ce so : Nat}  {i0 : Int32} {i1 : Int32} {o : Unit} (hF : gFix Z cJ7_checkLength_df160 RJ7 "checkLength" none d mc ms Acc AccX) (hn : Z.2.2.2.2.2.1 = 2) (hd : 1 ≤ d) (hk1 : ce ≤ mc) (hk2 : so ≤ ms)  (h : f_J7_checkLength_df160 T M i0 i1 = some o) (hR : Acc (none) ad T M) : gG Z ad T M ce so 0 [(0, .int i0), (1, .int i1)] [] := by
  unfold f_J7_checkLength_df160 at h
  refine g_iload_n hF 1 rfl rfl dJ7_checkLength_df160_0 ?_
  refine g_iload_n hF 0 rfl rfl dJ7_checkLength_df160_1 ?_
  refine g_icmp_ge (tgt := 37) hF dJ7_checkLength_df160_2 (by decide) (fun c1 => ?_) (fun c1 => ?_)
  · replace h := gif_t c1 h
    obtain rfl := Option.some.inj h
    exact g_ret_v hF rfl dJ7_checkLength_df160_37 hR (by omega) (by omega)
  · replace h := gif_f c1 h
    cases h
theorem c_J7_checkLength_df160 {d : Nat} {T : gT} {M : gM}  {i0 : Int32} {i1 : Int32} {o : Unit} (hd : 1 ≤ d)  (h : f_J7_checkLength_df160 T M i0 i1 = some o) : gRet d yJ7_checkLength_df160 cJ7_checkLength_df160 2 none 0 0 [.int i0, .int i1] T M (gSame T (none) M) := by
  refine gRet_of (own := RJ7) (by decide) rfl (Nat.le_of_ble_eq_true rfl) (fun Z ad0 hn h0 hF => ?_)
  exact t_J7_checkLength_df160 (ce := 0) (so := 0) hF hn hd (Nat.le_refl _) (Nat.le_refl _)  h ⟨rfl, rfl, rfl, rfl⟩
theorem t_J7_copyOfRangeByte_39247 {Z : gZ} {d mc ms : Nat} {Acc : Option Value → (Nat → Nat) → gT → gM → Prop} {AccX : Nat → (Nat → Nat) → gT → gM → Prop} {ad : Nat → Nat} {T : gT} {M : gM} {ce so c9 s9 : Nat} {m_a0 : Nat} {a0 : Nat} {i1 : Int32} {i2 : Int32} {o : Nat × gT × gM} (hF : gFix Z cJ7_copyOfRangeByte_39247 RJ7 "copyOfRangeByte" (some (.array .byte)) d mc ms Acc AccX) (hn : Z.2.2.2.2.2.1 = 5) (hd : 2 ≤ d) (hk1 : ce + c9 ≤ mc) (hk2 : so + s9 ≤ ms) (q0 : T[a0]? = some (10, m_a0)) (h : f_J7_copyOfRangeByte_39247 T M a0 i1 i2 = some (o, c9, s9)) (hR : ∀ ad1 : Nat → Nat, gExt T o.2.1 → (∀ a : Nat, a < T.length → ad1 a = ad a) → Acc (some (.ref o.1)) ad1 o.2.1 o.2.2) : gG Z ad T M ce so 0 [(0, .ref a0), (1, .int i1), (2, .int i2)] [] := by
  unfold f_J7_copyOfRangeByte_39247 at h
  refine g_iload_n hF 1 rfl rfl dJ7_copyOfRangeByte_39247_0 ?_
  refine g_iload_n hF 2 rfl rfl dJ7_copyOfRangeByte_39247_1 ?_
  obtain ⟨x1, h1, h⟩ := gbnd h
  refine g_callS hF my_J7_checkLength_df160 kw_1298 kw_1299 (c_J7_checkLength_df160 (d := d - 1) (by omega)  h1) (by omega) (by omega) (by omega) rfl rfl (Nat.le_of_ble_eq_true rfl) dJ7_copyOfRangeByte_39247_2 (g_sameN ?_)
  refine g_iload_n hF 2 rfl rfl dJ7_copyOfRangeByte_39247_5 ?_
  refine g_iload_n hF 1 rfl rfl dJ7_copyOfRangeByte_39247_6 ?_
  refine g_isub hF dJ7_copyOfRangeByte_39247_7 ?_
  refine g_istore_n (ls' := [(3, .int (i2 - i1)), (0, .ref a0), (1, .int i1), (2, .int i2)]) hF rfl (by rw [hn]; decide) rfl dJ7_copyOfRangeByte_39247_8 ?_
  refine g_iload_n hF 0 rfl rfl dJ7_copyOfRangeByte_39247_9 ?_
  obtain ⟨x2, h2, h⟩ := gbnd h
  obtain ⟨c2, s2, h, ec2, es2⟩ := cadd_sp h
  obtain ⟨n20, n21, n2h⟩ := gnewa_sp h2
  refine g_newa_byte hF n20 rfl n21 kw_145 n2h (gnew_lt n2h) (gFr_i (gFr_r (gT_ne q0) (gFr_i (gFr_i gFr_0)))) gFr_0 (by omega) (by omega) dJ7_copyOfRangeByte_39247_10 (fun ad2 z2 => ?_)
  have y2 : ∀ b : Nat, b < T.length → ad2 b = ad b := fun b hb => z2 b (by rw [(gnew_sp n2h).1]; omega)
  have X2 := gExt.tr gExt.rf (gnew_ext n2h)
  have W2 := gad_call y2 gExt.rf (fun _ _ => rfl)
  have q_3 := (gnew_ext n2h) _ _ q0
  have q_y2 := gnew_at n2h
  refine g_astore (ls' := [(4, .ref x2.1), (3, .int (i2 - i1)), (0, .ref a0), (1, .int i1), (2, .int i2)]) hF (by rw [hn]; decide) rfl dJ7_copyOfRangeByte_39247_12 ?_
  refine g_aload_n hF 2 rfl rfl dJ7_copyOfRangeByte_39247_14 ?_
  refine g_iload_n hF 3 rfl rfl dJ7_copyOfRangeByte_39247_15 ?_
  refine g_aload hF 0 rfl dJ7_copyOfRangeByte_39247_16 ?_
  refine g_iconst (v := (0 : Int32)) hF rfl dJ7_copyOfRangeByte_39247_18 ?_
  refine g_aload_n hF 2 rfl rfl dJ7_copyOfRangeByte_39247_19 ?_
  refine g_alenA hF q_3 (by decide) dJ7_copyOfRangeByte_39247_20 ?_
  refine g_iload_n hF 3 rfl rfl dJ7_copyOfRangeByte_39247_21 ?_
  refine g_isub hF dJ7_copyOfRangeByte_39247_22 ?_
  refine g_iload_n hF 1 rfl rfl dJ7_copyOfRangeByte_39247_23 ?_
  refine g_min hF kw_929 (by omega) (by omega) (by omega) (Nat.le_of_ble_eq_true rfl) dJ7_copyOfRangeByte_39247_24 ?_
  obtain ⟨M5, h5, h⟩ := gbnd h
  obtain ⟨k5a, k5b, k5c, k5d, k5e, k5f, e5v⟩ := acpb_sp q_3 q_y2 h5
  refine g_copy_b hF kw_930 q_3 q_y2 k5a k5b k5c k5d k5e k5f (by omega) (Nat.le_of_ble_eq_true rfl) dJ7_copyOfRangeByte_39247_27 ?_
  rw [← e5v]
  refine g_aload hF 0 rfl dJ7_copyOfRangeByte_39247_30 ?_
  cases h
  exact g_ret_a hF rfl (Or.inr ⟨_, rfl⟩) dJ7_copyOfRangeByte_39247_32 (hR ad2 X2 W2) (by omega) (by omega)
theorem c_J7_copyOfRangeByte_39247 {d : Nat} {T : gT} {M : gM} {c9 s9 : Nat} {m_a0 : Nat} {a0 : Nat} {i1 : Int32} {i2 : Int32} {o : Nat × gT × gM} (hd : 2 ≤ d) (q0 : T[a0]? = some (10, m_a0)) (h : f_J7_copyOfRangeByte_39247 T M a0 i1 i2 = some (o, c9, s9)) : gRet d yJ7_copyOfRangeByte_39247 cJ7_copyOfRangeByte_39247 5 (some (.array .byte)) c9 s9 [.ref a0, .int i1, .int i2] T M (gMade T (some (.ref o.1)) o.2.1 o.2.2) := by
  refine gRet_of (own := RJ7) (by decide) rfl (Nat.le_of_ble_eq_true rfl) (fun Z ad0 hn h0 hF => ?_)
  exact t_J7_copyOfRangeByte_39247 (ce := 0) (so := 0) hF hn hd (by omega) (by omega) q0 h (fun ad1 x1 y1 => ⟨rfl, rfl, rfl, x1, y1⟩)
theorem t_J7_copyOfRange_39247_10 {Z : gZ} {d mc ms : Nat} {Acc : Option Value → (Nat → Nat) → gT → gM → Prop} {AccX : Nat → (Nat → Nat) → gT → gM → Prop} {ad : Nat → Nat} {T : gT} {M : gM} {ce so c9 s9 : Nat} {m_a0 : Nat} {a0 : Nat} {i1 : Int32} {i2 : Int32} {o : Nat × gT × gM} (hF : gFix Z cJ7_copyOfRange_39247 RJ7 "copyOfRange" (some (.array .byte)) d mc ms Acc AccX) (hn : Z.2.2.2.2.2.1 = 3) (hd : 3 ≤ d) (hk1 : ce + c9 ≤ mc) (hk2 : so + s9 ≤ ms) (q0 : T[a0]? = some (10, m_a0)) (h : f_J7_copyOfRange_39247_10 T M a0 i1 i2 = some (o, c9, s9)) (hR : ∀ ad1 : Nat → Nat, gExt T o.2.1 → (∀ a : Nat, a < T.length → ad1 a = ad a) → Acc (some (.ref o.1)) ad1 o.2.1 o.2.2) : gG Z ad T M ce so 10 [(0, .ref a0), (1, .int i1), (2, .int i2)] [] := by
  unfold f_J7_copyOfRange_39247_10 at h
  refine g_aload_n hF 0 rfl rfl dJ7_copyOfRange_39247_10 ?_
  refine g_iload_n hF 1 rfl rfl dJ7_copyOfRange_39247_11 ?_
  refine g_iload_n hF 2 rfl rfl dJ7_copyOfRange_39247_12 ?_
  obtain ⟨x1, h1, h⟩ := gbnd h
  obtain ⟨c1, s1, h, ec1, es1⟩ := cadd_sp h
  refine g_callS hF my_J7_copyOfRangeByte_39247 kw_1295 kw_1296 (c_J7_copyOfRangeByte_39247 (d := d - 1) (by omega) q0 (trip h1)) (by omega) (by omega) (by omega) rfl rfl (Nat.le_of_ble_eq_true rfl) dJ7_copyOfRange_39247_13 (g_madeS (gOld_r (gT_lt q0) (gOld_i (gOld_i gOld_0))) gOld_0 (fun ad1 e1 y1 => ?_))
  have X1 := gExt.tr gExt.rf e1
  have W1 := gad_call y1 gExt.rf (fun _ _ => rfl)
  have q_2 := e1 _ _ q0
  obtain ⟨_, h3, h⟩ := gbnd h
  obtain ⟨l3, q_3⟩ := gkd_sp h3
  cases h
  exact g_ret_a hF rfl (Or.inr ⟨_, rfl⟩) dJ7_copyOfRange_39247_16 (hR ad1 X1 W1) (by omega) (by omega)
theorem t_J7_copyOfRange_39247 {Z : gZ} {d mc ms : Nat} {Acc : Option Value → (Nat → Nat) → gT → gM → Prop} {AccX : Nat → (Nat → Nat) → gT → gM → Prop} {ad : Nat → Nat} {T : gT} {M : gM} {ce so c9 s9 : Nat} {m_a0 : Nat} {a0 : Nat} {i1 : Int32} {i2 : Int32} {o : Nat × gT × gM} (hF : gFix Z cJ7_copyOfRange_39247 RJ7 "copyOfRange" (some (.array .byte)) d mc ms Acc AccX) (hn : Z.2.2.2.2.2.1 = 3) (hd : 3 ≤ d) (hk1 : ce + c9 ≤ mc) (hk2 : so + s9 ≤ ms) (q0 : T[a0]? = some (10, m_a0)) (h : f_J7_copyOfRange_39247 T M a0 i1 i2 = some (o, c9, s9)) (hR : ∀ ad1 : Nat → Nat, gExt T o.2.1 → (∀ a : Nat, a < T.length → ad1 a = ad a) → Acc (some (.ref o.1)) ad1 o.2.1 o.2.2) : gG Z ad T M ce so 0 [(0, .ref a0), (1, .int i1), (2, .int i2)] [] := by
  unfold f_J7_copyOfRange_39247 at h
  refine g_iload_n hF 1 rfl rfl dJ7_copyOfRange_39247_0 ?_
  refine g_if_ne (tgt := 10) hF dJ7_copyOfRange_39247_1 (by decide) (fun c4 => ?_) (fun c4 => ?_)
  · replace h := gif_t c4 h
    exact gG_sub [0, 1, 2] rfl (t_J7_copyOfRange_39247_10 hF hn hd (by omega) (by omega) q0 h (fun ad1 x1 y1 => hR ad1 (gExt.tr gExt.rf x1) (gad_call y1 gExt.rf (fun _ _ => rfl))))
  · replace h := gif_n c4 h
    refine g_iload_n hF 2 rfl rfl dJ7_copyOfRange_39247_4 ?_
    refine g_aload_n hF 0 rfl rfl dJ7_copyOfRange_39247_5 ?_
    refine g_alenA hF q0 (by decide) dJ7_copyOfRange_39247_6 ?_
    refine g_icmp_eq (tgt := 17) hF dJ7_copyOfRange_39247_7 (by decide) (fun c5 => ?_) (fun c5 => ?_)
    · replace h := gif_t c5 h
      refine g_aload_n hF 0 rfl rfl dJ7_copyOfRange_39247_17 ?_
      obtain ⟨x6, h6, h⟩ := gbnd h
      obtain ⟨c6, s6, h, ec6, es6⟩ := cadd_sp h
      have q_c6 := alen_at q0
      obtain ⟨n6a, n6b, n6x⟩ := gclone_sp q_c6 h6
      subst n6x
      refine g_clone_b hF kw_1192 q_c6 (n6b.resolve_left (by decide)) n6a (gFr_r (gT_ne q0) (gFr_i (gFr_i gFr_0))) gFr_0 (by omega) (by omega) (by omega) (Nat.le_of_ble_eq_true rfl) dJ7_copyOfRange_39247_18 (fun ad6 z6 => ?_)
      have y6 : ∀ b : Nat, b < T.length → ad6 b = ad b := fun b hb => z6 b (by omega)
      have X6 := gExt.tr gExt.rf (gpush_ext (T := T) (sh := (10, alen T a0)))
      have W6 := gad_call y6 gExt.rf (fun _ _ => rfl)
      have q_7 := (gpush_ext (T := T) (sh := (10, alen T a0))) _ _ q0
      have q_y6 : (T ++ [(10, alen T a0)])[T.length]? = some (10, alen T a0) := gpush_at
      refine g_castA_b hF kw_1196 q_y6 dJ7_copyOfRange_39247_21 ?_
      cases h
      exact g_ret_a hF rfl (Or.inr ⟨_, rfl⟩) dJ7_copyOfRange_39247_24 (hR ad6 X6 W6) (by omega) (by omega)
    · replace h := gif_f c5 h
      exact gG_sub [0, 1, 2] rfl (t_J7_copyOfRange_39247_10 hF hn hd (by omega) (by omega) q0 h (fun ad1 x1 y1 => hR ad1 (gExt.tr gExt.rf x1) (gad_call y1 gExt.rf (fun _ _ => rfl))))
theorem c_J7_copyOfRange_39247 {d : Nat} {T : gT} {M : gM} {c9 s9 : Nat} {m_a0 : Nat} {a0 : Nat} {i1 : Int32} {i2 : Int32} {o : Nat × gT × gM} (hd : 3 ≤ d) (q0 : T[a0]? = some (10, m_a0)) (h : f_J7_copyOfRange_39247 T M a0 i1 i2 = some (o, c9, s9)) : gRet d yJ7_copyOfRange_39247 cJ7_copyOfRange_39247 3 (some (.array .byte)) c9 s9 [.ref a0, .int i1, .int i2] T M (gMade T (some (.ref o.1)) o.2.1 o.2.2) := by
  refine gRet_of (own := RJ7) (by decide) rfl (Nat.le_of_ble_eq_true rfl) (fun Z ad0 hn h0 hF => ?_)
  exact t_J7_copyOfRange_39247 (ce := 0) (so := 0) hF hn hd (by omega) (by omega) q0 h (fun ad1 x1 y1 => ⟨rfl, rfl, rfl, x1, y1⟩)
theorem t_J0_init_db425_79 {Z : gZ} {d mc ms : Nat} {Acc : Option Value → (Nat → Nat) → gT → gM → Prop} {AccX : Nat → (Nat → Nat) → gT → gM → Prop} {ad : Nat → Nat} {T : gT} {M : gM} {ce so c9 s9 : Nat} {m_a0 m_a3 : Nat} {a0 : Nat} {a3 : Nat} {i4 : Int32} {o : gT × gM} (hF : gFix Z cJ0_init_db425 RJ0 "<init>" none d mc ms Acc AccX) (hn : Z.2.2.2.2.2.1 = 5) (hd : 4 ≤ d) (hk1 : ce + c9 ≤ mc) (hk2 : so + s9 ≤ ms) (q0 : T[a0]? = some (19, m_a0)) (q3 : T[a3]? = some (10, m_a3)) (h : f_J0_init_db425_79 T M a0 a3 i4 = some (o, c9, s9)) (hR : ∀ ad1 : Nat → Nat, gExt T o.1 → (∀ a : Nat, a < T.length → ad1 a = ad a) → Acc (none) ad1 o.1 o.2) : gG Z ad T M ce so 79 [(0, .ref a0), (3, .ref a3), (4, .int i4)] [] := by
  unfold f_J0_init_db425_79 at h
  refine g_aload_n hF 0 rfl rfl dJ0_init_db425_79 ?_
  refine g_iconst (v := (1 : Int32)) hF rfl dJ0_init_db425_80 ?_
  refine g_putF_i hF rfl rfl rfl (fun R9 T9 N9 t9 q9 => by rw [g_own19 q9]; rfl) fl_RJ0_15 q0 dJ0_init_db425_81 ?_
  refine g_aload_n hF 0 rfl rfl dJ0_init_db425_84 ?_
  refine g_aload_n hF 1 rfl rfl dJ0_init_db425_85 ?_
  refine g_iconst (v := (0 : Int32)) hF rfl dJ0_init_db425_86 ?_
  refine g_iload hF 2 rfl dJ0_init_db425_87 ?_
  refine g_iconst (v := (1 : Int32)) hF rfl dJ0_init_db425_89 ?_
  refine g_ishl hF dJ0_init_db425_90 ?_
  obtain ⟨x1, h1, h⟩ := gbnd h
  obtain ⟨c1, s1, h, ec1, es1⟩ := cadd_sp h
  refine g_callS hF my_J7_copyOfRange_39247 kw_1292 kw_1293 (c_J7_copyOfRange_39247 (d := d - 1) (by omega) q3 (trip h1)) (by omega) (by omega) (by omega) rfl rfl (Nat.le_of_ble_eq_true rfl) dJ0_init_db425_91 (g_madeS (gOld_r (gT_lt q0) (gOld_r (gT_lt q3) (gOld_i gOld_0))) (gOld_r (gT_lt q0) gOld_0) (fun ad1 e1 y1 => ?_))
  have X1 := gExt.tr gExt.rf e1
  have W1 := gad_call y1 gExt.rf (fun _ _ => rfl)
  have q_2 := e1 _ _ q0
  have q_3 := e1 _ _ q3
  obtain ⟨_, h4, h⟩ := gbnd h
  obtain ⟨l4, q_4⟩ := gkd_sp h4
  refine g_putF_r hF (fun _ => rfl) (fun _ => rfl) (gT_lt q_4) rfl (fun R9 T9 N9 t9 q9 => by rw [g_own19 q9]; rfl) fl_RJ0_9 q_2 dJ0_init_db425_94 ?_
  cases h
  exact g_ret_v hF rfl dJ0_init_db425_97 (hR ad1 X1 W1) (by omega) (by omega)
theorem t_J0_init_db425 {Z : gZ} {d mc ms : Nat} {Acc : Option Value → (Nat → Nat) → gT → gM → Prop} {AccX : Nat → (Nat → Nat) → gT → gM → Prop} {ad : Nat → Nat} {T : gT} {M : gM} {ce so c9 s9 : Nat} {m_a0 m_a1 : Nat} {a0 : Nat} {a1 : Nat} {o2 : Option Nat} {o : gT × gM} (hF : gFix Z cJ0_init_db425 RJ0 "<init>" none d mc ms Acc AccX) (hn : Z.2.2.2.2.2.1 = 5) (hd : 4 ≤ d) (hk1 : ce + c9 ≤ mc) (hk2 : so + s9 ≤ ms) (q0 : T[a0]? = some (19, m_a0)) (q1 : T[a1]? = some (20, m_a1)) (q2 : gOk T o2 0) (h : f_J0_init_db425 T M a0 a1 o2 = some (o, c9, s9)) (hR : ∀ ad1 : Nat → Nat, gExt T o.1 → (∀ a : Nat, a < T.length → ad1 a = ad a) → Acc (none) ad1 o.1 o.2) : gG Z ad T M ce so 0 [(0, .ref a0), (1, .ref a1), (2, gvo o2)] [] := by
  unfold f_J0_init_db425 at h
  refine g_aload_n hF 0 rfl rfl dJ0_init_db425_0 ?_
  refine g_obj hF kw_1277 kw_102 kw_103 (by omega) (Nat.le_of_ble_eq_true rfl) dJ0_init_db425_1 ?_
  refine g_aload_n hF 1 rfl rfl dJ0_init_db425_4 ?_
  obtain ⟨x6, h6, h⟩ := gbnd h
  refine g_callV hF my_J5_getValue_6d5f1 kw_1278 kw_1279 kw_1281 gC_20.1 (by decide) q1 (c_J5_getValue_6d5f1 (d := d - 1) (by omega) q1 h6) (by omega) (by omega) (by omega) rfl rfl (Nat.le_of_ble_eq_true rfl) dJ0_init_db425_5 (g_sameS ?_)
  obtain ⟨_, h7, h⟩ := gbnd h
  obtain ⟨l7, q_7⟩ := gkd_sp h7
  refine g_astore_n (ls' := [(3, .ref x6), (0, .ref a0), (1, .ref a1), (2, gvo o2)]) hF rfl (by rw [hn]; decide) (by cases o2 <;> rfl) dJ0_init_db425_8 ?_
  refine g_aload_n hF 2 rfl rfl dJ0_init_db425_9 ?_
  obtain ⟨x8, h8, h⟩ := gbnd h
  refine g_callVO hF (x := yJ5_length_8abf5) (owner := yJ5_length_8abf5.cls) my_J4_length_8abf5 kw_1283 kw_1285 kw_1284 kw_1290 kw_1286 kw_1287 (by decide) (by decide +kernel) gC_20.1 (by decide) q1 (c_J4_length_8abf5 (d := d - 1) (by omega) q1 h8) (by omega) (by omega) (by omega) rfl rfl (Nat.le_of_ble_eq_true rfl) dJ0_init_db425_10 (g_sameS ?_)
  refine g_istore (ls' := [(4, .int x8), (3, .ref x6), (0, .ref a0), (1, .ref a1), (2, gvo o2)]) hF (by rw [hn]; decide) rfl dJ0_init_db425_13 ?_
  refine g_aload_n hF 3 rfl rfl dJ0_init_db425_15 ?_
  obtain ⟨x9, h9, h⟩ := gbnd h
  refine g_callV hF my_J5_isLatin1_aae02 kw_1291 kw_1198 kw_1200 gC_20.1 (by decide) q1 (c_J5_isLatin1_aae02 (d := d - 1) (by omega) q1 h9) (by omega) (by omega) (by omega) rfl rfl (Nat.le_of_ble_eq_true rfl) dJ0_init_db425_16 (g_sameS ?_)
  refine g_if_eq (tgt := 41) hF dJ0_init_db425_19 (by decide) (fun c10 => ?_) (fun c10 => ?_)
  · replace h := gif_t c10 h
    refine g_compact hF kw_773 dJ0_init_db425_41 ?_
    refine g_if_eq (tgt := 79) hF dJ0_init_db425_44 (by decide) (fun q => absurd q (by decide)) (fun _ => ?_)
    refine g_aload_n hF 3 rfl rfl dJ0_init_db425_47 ?_
    refine g_get_i hF fl_RJ0_1048 q1 dJ0_init_db425_48 ?_
    refine g_if_eq (tgt := 79) hF dJ0_init_db425_51 (by decide) (fun c11 => ?_) (fun c11 => ?_)
    · replace h := gif_t c11 h
      exact gG_sub [2, 1, 0] rfl (t_J0_init_db425_79 hF hn hd (by omega) (by omega) q0 q_7 h (fun ad1 x1 y1 => hR ad1 (gExt.tr gExt.rf x1) (gad_call y1 gExt.rf (fun _ _ => rfl))))
    · replace h := gif_f c11 h
      refine g_aload_n hF 2 rfl rfl dJ0_init_db425_54 ?_
      refine g_aload_n hF 1 rfl rfl dJ0_init_db425_55 ?_
      refine g_iconst (v := (0 : Int32)) hF rfl dJ0_init_db425_56 ?_
      refine g_iload hF 0 rfl dJ0_init_db425_57 ?_
      cases h
  · replace h := gif_f c10 h
    refine g_aload_n hF 2 rfl rfl dJ0_init_db425_22 ?_
    refine g_iconst (v := (0 : Int32)) hF rfl dJ0_init_db425_23 ?_
    refine g_putF_i hF rfl rfl rfl (fun R9 T9 N9 t9 q9 => by rw [g_own19 q9]; rfl) fl_RJ0_15 q0 dJ0_init_db425_24 ?_
    refine g_aload_n hF 2 rfl rfl dJ0_init_db425_27 ?_
    refine g_aload_n hF 1 rfl rfl dJ0_init_db425_28 ?_
    refine g_iconst (v := (0 : Int32)) hF rfl dJ0_init_db425_29 ?_
    refine g_iload hF 0 rfl dJ0_init_db425_30 ?_
    obtain ⟨x13, h13, h⟩ := gbnd h
    obtain ⟨c13, s13, h, ec13, es13⟩ := cadd_sp h
    refine g_callS hF my_J7_copyOfRange_39247 kw_1292 kw_1293 (c_J7_copyOfRange_39247 (d := d - 1) (by omega) q_7 (trip h13)) (by omega) (by omega) (by omega) rfl rfl (Nat.le_of_ble_eq_true rfl) dJ0_init_db425_32 (g_madeS (gOld_i (gOld_r (gT_lt q_7) (gOld_r (gT_lt q0) (gOld_r (gT_lt q1) (gOld_o q2 rfl gOld_0))))) (gOld_r (gT_lt q0) gOld_0) (fun ad13 e13 y13 => ?_))
    have X13 := gExt.tr gExt.rf e13
    have W13 := gad_call y13 gExt.rf (fun _ _ => rfl)
    have q_14 := e13 _ _ q_7
    have q_15 := e13 _ _ q0
    have q_16 := e13 _ _ q1
    have q_17 := q2.ext e13
    obtain ⟨_, h18, h⟩ := gbnd h
    obtain ⟨l18, q_18⟩ := gkd_sp h18
    refine g_putF_r hF (fun _ => rfl) (fun _ => rfl) (gT_lt q_18) rfl (fun R9 T9 N9 t9 q9 => by rw [g_own19 q9]; rfl) fl_RJ0_9 q_15 dJ0_init_db425_35 ?_
    refine g_goto (tgt := 97) hF dJ0_init_db425_38 (by decide) ?_
    cases h
    exact g_ret_v hF rfl dJ0_init_db425_97 (hR ad13 X13 W13) (by omega) (by omega)
theorem c_J0_init_db425 {d : Nat} {T : gT} {M : gM} {c9 s9 : Nat} {m_a0 m_a1 : Nat} {a0 : Nat} {a1 : Nat} {o2 : Option Nat} {o : gT × gM} (hd : 4 ≤ d) (q0 : T[a0]? = some (19, m_a0)) (q1 : T[a1]? = some (20, m_a1)) (q2 : gOk T o2 0) (h : f_J0_init_db425 T M a0 a1 o2 = some (o, c9, s9)) : gRet d yJ0_init_db425 cJ0_init_db425 5 none c9 s9 [.ref a0, .ref a1, gvo o2] T M (gMade T (none) o.1 o.2) := by
  refine gRet_of (own := RJ0) (by decide) rfl (by cases o2 <;> exact Nat.le_of_ble_eq_true rfl) (fun Z ad0 hn h0 hF => ?_)
  exact t_J0_init_db425 (ce := 0) (so := 0) hF hn hd (by omega) (by omega) q0 q1 q2 h (fun ad1 x1 y1 => ⟨rfl, rfl, rfl, x1, y1⟩)
theorem t_J0_init_81219 {Z : gZ} {d mc ms : Nat} {Acc : Option Value → (Nat → Nat) → gT → gM → Prop} {AccX : Nat → (Nat → Nat) → gT → gM → Prop} {ad : Nat → Nat} {T : gT} {M : gM} {ce so c9 s9 : Nat} {m_a0 m_a1 : Nat} {a0 : Nat} {a1 : Nat} {o : gT × gM} (hF : gFix Z cJ0_init_81219 RJ0 "<init>" none d mc ms Acc AccX) (hn : Z.2.2.2.2.2.1 = 2) (hd : 5 ≤ d) (hk1 : ce + c9 ≤ mc) (hk2 : so + s9 ≤ ms) (q0 : T[a0]? = some (19, m_a0)) (q1 : T[a1]? = some (20, m_a1)) (h : f_J0_init_81219 T M a0 a1 = some (o, c9, s9)) (hR : ∀ ad1 : Nat → Nat, gExt T o.1 → (∀ a : Nat, a < T.length → ad1 a = ad a) → Acc (none) ad1 o.1 o.2) : gG Z ad T M ce so 0 [(0, .ref a0), (1, .ref a1)] [] := by
  unfold f_J0_init_81219 at h
  refine g_aload_n hF 0 rfl rfl dJ0_init_81219_0 ?_
  refine g_aload_n hF 1 rfl rfl dJ0_init_81219_1 ?_
  refine g_null hF dJ0_init_81219_2 ?_
  obtain ⟨x1, h1, h⟩ := gbnd h
  obtain ⟨c1, s1, h, ec1, es1⟩ := cadd_sp h
  refine g_callI hF my_J0_init_db425 kw_1274 kw_1275 rfl gC_19.1 (by decide) q0 (c_J0_init_db425 (d := d - 1) (by omega) q0 q1 gOk_none (trip h1)) (by omega) (by omega) (by omega) rfl rfl (Nat.le_of_ble_eq_true rfl) dJ0_init_81219_3 (g_madeN (gOld_r (gT_lt q0) (gOld_r (gT_lt q1) gOld_0)) gOld_0 (fun ad1 e1 y1 => ?_))
  have X1 := gExt.tr gExt.rf e1
  have W1 := gad_call y1 gExt.rf (fun _ _ => rfl)
  have q_2 := e1 _ _ q0
  have q_3 := e1 _ _ q1
  cases h
  exact g_ret_v hF rfl dJ0_init_81219_6 (hR ad1 X1 W1) (by omega) (by omega)
theorem c_J0_init_81219 {d : Nat} {T : gT} {M : gM} {c9 s9 : Nat} {m_a0 m_a1 : Nat} {a0 : Nat} {a1 : Nat} {o : gT × gM} (hd : 5 ≤ d) (q0 : T[a0]? = some (19, m_a0)) (q1 : T[a1]? = some (20, m_a1)) (h : f_J0_init_81219 T M a0 a1 = some (o, c9, s9)) : gRet d yJ0_init_81219 cJ0_init_81219 2 none c9 s9 [.ref a0, .ref a1] T M (gMade T (none) o.1 o.2) := by
  refine gRet_of (own := RJ0) (by decide) rfl (Nat.le_of_ble_eq_true rfl) (fun Z ad0 hn h0 hF => ?_)
  exact t_J0_init_81219 (ce := 0) (so := 0) hF hn hd (by omega) (by omega) q0 q1 h (fun ad1 x1 y1 => ⟨rfl, rfl, rfl, x1, y1⟩)
theorem t_J4_init_da8c8 {Z : gZ} {d mc ms : Nat} {Acc : Option Value → (Nat → Nat) → gT → gM → Prop} {AccX : Nat → (Nat → Nat) → gT → gM → Prop} {ad : Nat → Nat} {T : gT} {M : gM} {ce so c9 s9 : Nat} {m_a0 : Nat} {a0 : Nat} {o : gT × gM} (hF : gFix Z cJ4_init_da8c8 RJ4 "<init>" none d mc ms Acc AccX) (hn : Z.2.2.2.2.2.1 = 1) (hd : 2 ≤ d) (hk1 : ce + c9 ≤ mc) (hk2 : so + s9 ≤ ms) (q0 : T[a0]? = some (20, m_a0)) (h : f_J4_init_da8c8 T M a0 = some (o, c9, s9)) (hR : ∀ ad1 : Nat → Nat, gExt T o.1 → (∀ a : Nat, a < T.length → ad1 a = ad a) → Acc (none) ad1 o.1 o.2) : gG Z ad T M ce so 0 [(0, .ref a0)] [] := by
  unfold f_J4_init_da8c8 at h
  refine g_aload_n hF 0 rfl rfl dJ4_init_da8c8_0 ?_
  refine g_bipush (v := (16 : Int32)) hF rfl dJ4_init_da8c8_1 ?_
  obtain ⟨x1, h1, h⟩ := gbnd h
  obtain ⟨c1, s1, h, ec1, es1⟩ := cadd_sp h
  refine g_callI hF my_J5_init_d00df kw_1135 kw_1136 rfl gC_20.1 (by decide) q0 (c_J5_init_d00df (d := d - 1) (by omega) q0 (trip h1)) (by omega) (by omega) (by omega) rfl rfl (Nat.le_of_ble_eq_true rfl) dJ4_init_da8c8_3 (g_madeN (gOld_r (gT_lt q0) gOld_0) gOld_0 (fun ad1 e1 y1 => ?_))
  have X1 := gExt.tr gExt.rf e1
  have W1 := gad_call y1 gExt.rf (fun _ _ => rfl)
  have q_2 := e1 _ _ q0
  cases h
  exact g_ret_v hF rfl dJ4_init_da8c8_6 (hR ad1 X1 W1) (by omega) (by omega)
theorem c_J4_init_da8c8 {d : Nat} {T : gT} {M : gM} {c9 s9 : Nat} {m_a0 : Nat} {a0 : Nat} {o : gT × gM} (hd : 2 ≤ d) (q0 : T[a0]? = some (20, m_a0)) (h : f_J4_init_da8c8 T M a0 = some (o, c9, s9)) : gRet d yJ4_init_da8c8 cJ4_init_da8c8 1 none c9 s9 [.ref a0] T M (gMade T (none) o.1 o.2) := by
  refine gRet_of (own := RJ4) (by decide) rfl (Nat.le_of_ble_eq_true rfl) (fun Z ad0 hn h0 hF => ?_)
  exact t_J4_init_da8c8 (ce := 0) (so := 0) hF hn hd (by omega) (by omega) q0 h (fun ad1 x1 y1 => ⟨rfl, rfl, rfl, x1, y1⟩)
theorem t_J4_append_15ec4 {Z : gZ} {d mc ms : Nat} {Acc : Option Value → (Nat → Nat) → gT → gM → Prop} {AccX : Nat → (Nat → Nat) → gT → gM → Prop} {ad : Nat → Nat} {T : gT} {M : gM} {ce so c9 s9 : Nat} {m_a0 : Nat} {a0 : Nat} {s1 : Nat} {o : Nat × gT × gM} (hF : gFix Z cJ4_append_15ec4 RJ4 "append" (some (.object RJ4)) d mc ms Acc AccX) (hn : Z.2.2.2.2.2.1 = 2) (hd : 5 ≤ d) (hk1 : ce + c9 ≤ mc) (hk2 : so + s9 ≤ ms) (q0 : T[a0]? = some (20, m_a0)) (q1 : gStr T s1) (h : f_J4_append_15ec4 T M a0 s1 = some (o, c9, s9)) (hR : ∀ ad1 : Nat → Nat, gExt T o.2.1 → (∀ a : Nat, a < T.length → ad1 a = ad a) → Acc (some (.ref o.1)) ad1 o.2.1 o.2.2) : gG Z ad T M ce so 0 [(0, .ref a0), (1, .ref s1)] [] := by
  unfold f_J4_append_15ec4 at h
  refine g_aload_n hF 0 rfl rfl dJ4_append_15ec4_0 ?_
  refine g_aload_n hF 1 rfl rfl dJ4_append_15ec4_1 ?_
  obtain ⟨x1, h1, h⟩ := gbnd h
  obtain ⟨c1, s1, h, ec1, es1⟩ := cadd_sp h
  refine g_callSU hF my_J5_append_cf1ce kw_1165 kw_1488 kw_1159 kw_1166 (by decide) gC_20.1 (by decide) q0 (c_J5_append_cf1ce (d := d - 1) (by omega) q0 q1 (trip h1)) (by omega) (by omega) (by omega) rfl rfl (Nat.le_of_ble_eq_true rfl) dJ4_append_15ec4_2 (g_madeS (gOld_r (gT_lt q0) (gOld_S q1 gOld_0)) gOld_0 (fun ad1 e1 y1 => ?_))
  have X1 := gExt.tr gExt.rf e1
  have W1 := gad_call y1 gExt.rf (fun _ _ => rfl)
  have q_2 := e1 _ _ q0
  have q_3 := q1.ext e1
  obtain ⟨_, h4, h⟩ := gbnd h
  obtain ⟨l4, q_4⟩ := gkd_sp h4
  refine g_pop hF rfl dJ4_append_15ec4_5 ?_
  refine g_aload_n hF 0 rfl rfl dJ4_append_15ec4_6 ?_
  cases h
  exact g_ret_a hF rfl (Or.inl ⟨_, rfl⟩) dJ4_append_15ec4_7 (hR ad1 X1 W1) (by omega) (by omega)
theorem c_J4_append_15ec4 {d : Nat} {T : gT} {M : gM} {c9 s9 : Nat} {m_a0 : Nat} {a0 : Nat} {s1 : Nat} {o : Nat × gT × gM} (hd : 5 ≤ d) (q0 : T[a0]? = some (20, m_a0)) (q1 : gStr T s1) (h : f_J4_append_15ec4 T M a0 s1 = some (o, c9, s9)) : gRet d yJ4_append_15ec4 cJ4_append_15ec4 2 (some (.object RJ4)) c9 s9 [.ref a0, .ref s1] T M (gMade T (some (.ref o.1)) o.2.1 o.2.2) := by
  refine gRet_of (own := RJ4) (by decide) rfl (Nat.le_of_ble_eq_true rfl) (fun Z ad0 hn h0 hF => ?_)
  exact t_J4_append_15ec4 (ce := 0) (so := 0) hF hn hd (by omega) (by omega) q0 q1 h (fun ad1 x1 y1 => ⟨rfl, rfl, rfl, x1, y1⟩)
theorem t_J4_append_cf468 {Z : gZ} {d mc ms : Nat} {Acc : Option Value → (Nat → Nat) → gT → gM → Prop} {AccX : Nat → (Nat → Nat) → gT → gM → Prop} {ad : Nat → Nat} {T : gT} {M : gM} {ce so c9 s9 : Nat} {m_a0 : Nat} {a0 : Nat} {i1 : Int32} {o : Nat × gT × gM} (hF : gFix Z cJ4_append_cf468 RJ4 "append" (some (.object RJ4)) d mc ms Acc AccX) (hn : Z.2.2.2.2.2.1 = 2) (hd : 5 ≤ d) (hk1 : ce + c9 ≤ mc) (hk2 : so + s9 ≤ ms) (q0 : T[a0]? = some (20, m_a0)) (h : f_J4_append_cf468 T M a0 i1 = some (o, c9, s9)) (hR : ∀ ad1 : Nat → Nat, gExt T o.2.1 → (∀ a : Nat, a < T.length → ad1 a = ad a) → Acc (some (.ref o.1)) ad1 o.2.1 o.2.2) : gG Z ad T M ce so 0 [(0, .ref a0), (1, .int i1)] [] := by
  unfold f_J4_append_cf468 at h
  refine g_aload_n hF 0 rfl rfl dJ4_append_cf468_0 ?_
  refine g_iload_n hF 1 rfl rfl dJ4_append_cf468_1 ?_
  obtain ⟨x1, h1, h⟩ := gbnd h
  obtain ⟨c1, s1, h, ec1, es1⟩ := cadd_sp h
  refine g_callSU hF my_J5_append_3fe6f kw_1256 kw_1495 kw_1159 kw_1257 (by decide) gC_20.1 (by decide) q0 (c_J5_append_3fe6f (d := d - 1) (by omega) q0 (trip h1)) (by omega) (by omega) (by omega) rfl rfl (Nat.le_of_ble_eq_true rfl) dJ4_append_cf468_2 (g_madeS (gOld_r (gT_lt q0) (gOld_i gOld_0)) gOld_0 (fun ad1 e1 y1 => ?_))
  have X1 := gExt.tr gExt.rf e1
  have W1 := gad_call y1 gExt.rf (fun _ _ => rfl)
  have q_2 := e1 _ _ q0
  obtain ⟨_, h3, h⟩ := gbnd h
  obtain ⟨l3, q_3⟩ := gkd_sp h3
  refine g_pop hF rfl dJ4_append_cf468_5 ?_
  refine g_aload_n hF 0 rfl rfl dJ4_append_cf468_6 ?_
  cases h
  exact g_ret_a hF rfl (Or.inl ⟨_, rfl⟩) dJ4_append_cf468_7 (hR ad1 X1 W1) (by omega) (by omega)
theorem c_J4_append_cf468 {d : Nat} {T : gT} {M : gM} {c9 s9 : Nat} {m_a0 : Nat} {a0 : Nat} {i1 : Int32} {o : Nat × gT × gM} (hd : 5 ≤ d) (q0 : T[a0]? = some (20, m_a0)) (h : f_J4_append_cf468 T M a0 i1 = some (o, c9, s9)) : gRet d yJ4_append_cf468 cJ4_append_cf468 2 (some (.object RJ4)) c9 s9 [.ref a0, .int i1] T M (gMade T (some (.ref o.1)) o.2.1 o.2.2) := by
  refine gRet_of (own := RJ4) (by decide) rfl (Nat.le_of_ble_eq_true rfl) (fun Z ad0 hn h0 hF => ?_)
  exact t_J4_append_cf468 (ce := 0) (so := 0) hF hn hd (by omega) (by omega) q0 h (fun ad1 x1 y1 => ⟨rfl, rfl, rfl, x1, y1⟩)
theorem t_J4_append_bf812 {Z : gZ} {d mc ms : Nat} {Acc : Option Value → (Nat → Nat) → gT → gM → Prop} {AccX : Nat → (Nat → Nat) → gT → gM → Prop} {ad : Nat → Nat} {T : gT} {M : gM} {ce so c9 s9 : Nat} {m_a0 : Nat} {a0 : Nat} {i1 : Int32} {o : Nat × gT × gM} (hF : gFix Z cJ4_append_bf812 RJ4 "append" (some (.object RJ4)) d mc ms Acc AccX) (hn : Z.2.2.2.2.2.1 = 2) (hd : 5 ≤ d) (hk1 : ce + c9 ≤ mc) (hk2 : so + s9 ≤ ms) (q0 : T[a0]? = some (20, m_a0)) (h : f_J4_append_bf812 T M a0 i1 = some (o, c9, s9)) (hR : ∀ ad1 : Nat → Nat, gExt T o.2.1 → (∀ a : Nat, a < T.length → ad1 a = ad a) → Acc (some (.ref o.1)) ad1 o.2.1 o.2.2) : gG Z ad T M ce so 0 [(0, .ref a0), (1, .int i1)] [] := by
  unfold f_J4_append_bf812 at h
  refine g_aload_n hF 0 rfl rfl dJ4_append_bf812_0 ?_
  refine g_iload_n hF 1 rfl rfl dJ4_append_bf812_1 ?_
  obtain ⟨x1, h1, h⟩ := gbnd h
  obtain ⟨c1, s1, h, ec1, es1⟩ := cadd_sp h
  refine g_callSU hF my_J5_append_c97b9 kw_1308 kw_1496 kw_1159 kw_1309 (by decide) gC_20.1 (by decide) q0 (c_J5_append_c97b9 (d := d - 1) (by omega) q0 (trip h1)) (by omega) (by omega) (by omega) rfl rfl (Nat.le_of_ble_eq_true rfl) dJ4_append_bf812_2 (g_madeS (gOld_r (gT_lt q0) (gOld_i gOld_0)) gOld_0 (fun ad1 e1 y1 => ?_))
  have X1 := gExt.tr gExt.rf e1
  have W1 := gad_call y1 gExt.rf (fun _ _ => rfl)
  have q_2 := e1 _ _ q0
  obtain ⟨_, h3, h⟩ := gbnd h
  obtain ⟨l3, q_3⟩ := gkd_sp h3
  refine g_pop hF rfl dJ4_append_bf812_5 ?_
  refine g_aload_n hF 0 rfl rfl dJ4_append_bf812_6 ?_
  cases h
  exact g_ret_a hF rfl (Or.inl ⟨_, rfl⟩) dJ4_append_bf812_7 (hR ad1 X1 W1) (by omega) (by omega)
theorem c_J4_append_bf812 {d : Nat} {T : gT} {M : gM} {c9 s9 : Nat} {m_a0 : Nat} {a0 : Nat} {i1 : Int32} {o : Nat × gT × gM} (hd : 5 ≤ d) (q0 : T[a0]? = some (20, m_a0)) (h : f_J4_append_bf812 T M a0 i1 = some (o, c9, s9)) : gRet d yJ4_append_bf812 cJ4_append_bf812 2 (some (.object RJ4)) c9 s9 [.ref a0, .int i1] T M (gMade T (some (.ref o.1)) o.2.1 o.2.2) := by
  refine gRet_of (own := RJ4) (by decide) rfl (Nat.le_of_ble_eq_true rfl) (fun Z ad0 hn h0 hF => ?_)
  exact t_J4_append_bf812 (ce := 0) (so := 0) hF hn hd (by omega) (by omega) q0 h (fun ad1 x1 y1 => ⟨rfl, rfl, rfl, x1, y1⟩)
theorem t_J4_toString_0e30d {Z : gZ} {d mc ms : Nat} {Acc : Option Value → (Nat → Nat) → gT → gM → Prop} {AccX : Nat → (Nat → Nat) → gT → gM → Prop} {ad : Nat → Nat} {T : gT} {M : gM} {ce so c9 s9 : Nat} {m_a0 : Nat} {a0 : Nat} {o : Nat × gT × gM} (hF : gFix Z cJ4_toString_0e30d RJ4 "toString" (some (.object RJ0)) d mc ms Acc AccX) (hn : Z.2.2.2.2.2.1 = 1) (hd : 6 ≤ d) (hk1 : ce + c9 ≤ mc) (hk2 : so + s9 ≤ ms) (q0 : T[a0]? = some (20, m_a0)) (h : f_J4_toString_0e30d T M a0 = some (o, c9, s9)) (hR : ∀ ad1 : Nat → Nat, gExt T o.2.1 → (∀ a : Nat, a < T.length → ad1 a = ad a) → Acc (some (.ref o.1)) ad1 o.2.1 o.2.2) : gG Z ad T M ce so 0 [(0, .ref a0)] [] := by
  unfold f_J4_toString_0e30d at h
  obtain ⟨x1, h1, h⟩ := gbnd h
  obtain ⟨c1, s1, h, ec1, es1⟩ := cadd_sp h
  have g1 : gnew T M (19, 0) = some (x1.1, x1.2.1, x1.2.2) := h1
  refine g_new hF gC_19 gDf_19 kw_1269 kw_1270 kw_85 g1 (gnew_lt g1) (gFr_r (gT_ne q0) gFr_0) gFr_0 (by omega) (by omega) dJ4_toString_0e30d_0 (fun ad1 z1 => ?_)
  have y1 : ∀ b : Nat, b < T.length → ad1 b = ad b := fun b hb => z1 b (by rw [(gnew_sp g1).1]; omega)
  have X1 := gExt.tr gExt.rf (gnew_ext g1)
  have W1 := gad_call y1 gExt.rf (fun _ _ => rfl)
  have q_2 := (gnew_ext g1) _ _ q0
  have q_y1 := gnew_at g1
  refine g_dup hF rfl dJ4_toString_0e30d_3 ?_
  refine g_aload_n hF 0 rfl rfl dJ4_toString_0e30d_4 ?_
  obtain ⟨x3, h3, h⟩ := gbnd h
  obtain ⟨c3, s3, h, ec3, es3⟩ := cadd_sp h
  refine g_callI hF my_J0_init_81219 kw_1271 kw_1272 rfl gC_19.1 (by decide) q_y1 (c_J0_init_81219 (d := d - 1) (by omega) q_y1 q_2 (trip h3)) (by omega) (by omega) (by omega) rfl rfl (Nat.le_of_ble_eq_true rfl) dJ4_toString_0e30d_5 (g_madeN (gOld_r (gT_lt q_2) gOld_0) (gOld_r (gT_lt q_y1) gOld_0) (fun ad3 e3 y3 => ?_))
  have X3 := gExt.tr X1 e3
  have W3 := gad_call y3 X1 W1
  have q_4 := e3 _ _ q_2
  have q_5 := e3 _ _ q_y1
  cases h
  exact g_ret_a hF rfl (Or.inl ⟨_, rfl⟩) dJ4_toString_0e30d_8 (hR ad3 X3 W3) (by omega) (by omega)
theorem c_J4_toString_0e30d {d : Nat} {T : gT} {M : gM} {c9 s9 : Nat} {m_a0 : Nat} {a0 : Nat} {o : Nat × gT × gM} (hd : 6 ≤ d) (q0 : T[a0]? = some (20, m_a0)) (h : f_J4_toString_0e30d T M a0 = some (o, c9, s9)) : gRet d yJ4_toString_0e30d cJ4_toString_0e30d 1 (some (.object RJ0)) c9 s9 [.ref a0] T M (gMade T (some (.ref o.1)) o.2.1 o.2.2) := by
  refine gRet_of (own := RJ4) (by decide) rfl (Nat.le_of_ble_eq_true rfl) (fun Z ad0 hn h0 hF => ?_)
  exact t_J4_toString_0e30d (ce := 0) (so := 0) hF hn hd (by omega) (by omega) q0 h (fun ad1 x1 y1 => ⟨rfl, rfl, rfl, x1, y1⟩)
theorem t_X9_init {Z : gZ} {d mc ms : Nat} {Acc : Option Value → (Nat → Nat) → gT → gM → Prop} {AccX : Nat → (Nat → Nat) → gT → gM → Prop} {ad : Nat → Nat} {T : gT} {M : gM} {ce so c9 s9 : Nat} {m_a0 : Nat} {a0 : Nat} {o : gT × gM} (hF : gFix Z cX9_init RX9 "<init>" none d mc ms Acc AccX) (hn : Z.2.2.2.2.2.1 = 1) (hd : 1 ≤ d) (hk1 : ce + c9 ≤ mc) (hk2 : so + s9 ≤ ms) (q0 : T[a0]? = some (9, m_a0)) (h : f_X9_init T M a0 = some (o, c9, s9)) (hR : ∀ ad1 : Nat → Nat, gExt T o.1 → (∀ a : Nat, a < T.length → ad1 a = ad a) → Acc (none) ad1 o.1 o.2) : gG Z ad T M ce so 0 [(0, .ref a0)] [] := by
  unfold f_X9_init at h
  refine g_aload_n hF 0 rfl rfl dX9_init_0 ?_
  refine g_obj hF kw_538 kw_102 kw_103 (by omega) (Nat.le_of_ble_eq_true rfl) dX9_init_1 ?_
  refine g_aload_n hF 0 rfl rfl dX9_init_4 ?_
  refine g_iconst (v := (0 : Int32)) hF rfl dX9_init_5 ?_
  obtain ⟨x2, h2, h⟩ := gbnd h
  obtain ⟨c2, s2, h, ec2, es2⟩ := cadd_sp h
  have g2 : gnew T M (11, 0) = some (x2.1, x2.2.1, x2.2.2) := h2
  refine g_newa_int (N := 0) hF (by decide) (by decide) (by decide) kw_167 g2 (gnew_lt g2) (gFr_r (gT_ne q0) gFr_0) (gFr_r (gT_ne q0) gFr_0) (by omega) (by omega) dX9_init_6 (fun ad2 z2 => ?_)
  have y2 : ∀ b : Nat, b < T.length → ad2 b = ad b := fun b hb => z2 b (by rw [(gnew_sp g2).1]; omega)
  have X2 := gExt.tr gExt.rf (gnew_ext g2)
  have W2 := gad_call y2 gExt.rf (fun _ _ => rfl)
  have q_3 := (gnew_ext g2) _ _ q0
  have q_y2 := gnew_at g2
  refine g_put_r hF (fun _ => rfl) (fun _ => rfl) (gT_lt q_y2) fl_RX9_7 q_3 dX9_init_8 ?_
  cases h
  exact g_ret_v hF rfl dX9_init_11 (hR ad2 X2 W2) (by omega) (by omega)
theorem c_X9_init {d : Nat} {T : gT} {M : gM} {c9 s9 : Nat} {m_a0 : Nat} {a0 : Nat} {o : gT × gM} (hd : 1 ≤ d) (q0 : T[a0]? = some (9, m_a0)) (h : f_X9_init T M a0 = some (o, c9, s9)) : gRet d yX9_init cX9_init 1 none c9 s9 [.ref a0] T M (gMade T (none) o.1 o.2) := by
  refine gRet_of (own := RX9) (by decide) rfl (Nat.le_of_ble_eq_true rfl) (fun Z ad0 hn h0 hF => ?_)
  exact t_X9_init (ce := 0) (so := 0) hF hn hd (by omega) (by omega) q0 h (fun ad1 x1 y1 => ⟨rfl, rfl, rfl, x1, y1⟩)
theorem t_X9_copy {Z : gZ} {d mc ms : Nat} {Acc : Option Value → (Nat → Nat) → gT → gM → Prop} {AccX : Nat → (Nat → Nat) → gT → gM → Prop} {ad : Nat → Nat} {T : gT} {M : gM} {ce so c9 s9 : Nat} {m_a0 : Nat} {a0 : Nat} {o : Nat × gT × gM} (hF : gFix Z cX9_copy RX9 "copy" (some (.object RX9)) d mc ms Acc AccX) (hn : Z.2.2.2.2.2.1 = 2) (hd : 2 ≤ d) (hk1 : ce + c9 ≤ mc) (hk2 : so + s9 ≤ ms) (q0 : T[a0]? = some (9, m_a0)) (h : f_X9_copy T M a0 = some (o, c9, s9)) (hR : ∀ ad1 : Nat → Nat, gExt T o.2.1 → (∀ a : Nat, a < T.length → ad1 a = ad a) → Acc (some (.ref o.1)) ad1 o.2.1 o.2.2) : gG Z ad T M ce so 0 [(0, .ref a0)] [] := by
  unfold f_X9_copy at h
  obtain ⟨x1, h1, h⟩ := gbnd h
  obtain ⟨c1, s1, h, ec1, es1⟩ := cadd_sp h
  have g1 : gnew T M (9, 0) = some (x1.1, x1.2.1, x1.2.2) := h1
  refine g_new hF gC_9 gDf_9 kw_533 kw_534 kw_94 g1 (gnew_lt g1) (gFr_r (gT_ne q0) gFr_0) gFr_0 (by omega) (by omega) dX9_copy_0 (fun ad1 z1 => ?_)
  have y1 : ∀ b : Nat, b < T.length → ad1 b = ad b := fun b hb => z1 b (by rw [(gnew_sp g1).1]; omega)
  have X1 := gExt.tr gExt.rf (gnew_ext g1)
  have W1 := gad_call y1 gExt.rf (fun _ _ => rfl)
  have q_2 := (gnew_ext g1) _ _ q0
  have q_y1 := gnew_at g1
  refine g_dup hF rfl dX9_copy_3 ?_
  obtain ⟨x3, h3, h⟩ := gbnd h
  obtain ⟨c3, s3, h, ec3, es3⟩ := cadd_sp h
  refine g_callI hF my_X9_init kw_535 kw_536 rfl gC_9.1 (by decide) q_y1 (c_X9_init (d := d - 1) (by omega) q_y1 (trip h3)) (by omega) (by omega) (by omega) rfl rfl (Nat.le_of_ble_eq_true rfl) dX9_copy_4 (g_madeN (gOld_r (gT_lt q_2) gOld_0) (gOld_r (gT_lt q_y1) gOld_0) (fun ad3 e3 y3 => ?_))
  have X3 := gExt.tr X1 e3
  have W3 := gad_call y3 X1 W1
  have q_4 := e3 _ _ q_2
  have q_5 := e3 _ _ q_y1
  refine g_astore_n (ls' := [(1, .ref x1.1), (0, .ref a0)]) hF rfl (by rw [hn]; decide) rfl dX9_copy_7 ?_
  refine g_aload_n hF 0 rfl rfl dX9_copy_8 ?_
  refine g_aload_n hF 1 rfl rfl dX9_copy_9 ?_
  refine g_get_i hF fl_RX9_14 q_4 dX9_copy_10 ?_
  refine g_put_i hF rfl rfl fl_RX9_14 q_5 dX9_copy_13 ?_
  refine g_aload_n hF 0 rfl rfl dX9_copy_16 ?_
  refine g_aload_n hF 1 rfl rfl dX9_copy_17 ?_
  refine g_get_i hF fl_RX9_18 q_4 dX9_copy_18 ?_
  obtain ⟨_, h6, h⟩ := gbnd h
  refine g_put_i hF (gbool (chk_sp h6)) (gboolf (chk_sp h6)) fl_RX9_18 q_5 dX9_copy_21 ?_
  refine g_aload_n hF 0 rfl rfl dX9_copy_24 ?_
  refine g_aload_n hF 1 rfl rfl dX9_copy_25 ?_
  obtain ⟨b7, h7, h⟩ := gbnd h
  obtain ⟨g7, l7, q_b7⟩ := ldr_sp h7
  refine g_get_r hF g7 fl_RX9_7 q_4 dX9_copy_26 ?_
  refine g_put_r hF (fun _ => rfl) (fun _ => rfl) (gT_lt q_b7) fl_RX9_7 q_5 dX9_copy_29 ?_
  refine g_aload_n hF 0 rfl rfl dX9_copy_32 ?_
  refine g_aload_n hF 1 rfl rfl dX9_copy_33 ?_
  obtain ⟨b8, h8, h⟩ := gbnd h
  obtain ⟨g8, l8, q_b8⟩ := ldr_sp h8
  refine g_get_r hF g8 fl_RX9_22 q_4 dX9_copy_34 ?_
  obtain ⟨x9, h9, h⟩ := gbnd h
  obtain ⟨c9, s9, h, ec9, es9⟩ := cadd_sp h
  have q_c9 := alen_at q_b8
  obtain ⟨n9a, n9b, n9x⟩ := gclone_sp q_c9 h9
  subst n9x
  refine g_clone_i hF kw_560 q_c9 n9a (gFr_r (gT_ne q_5) (gFr_r (gT_ne q_4) gFr_0)) (gFr_r (gT_ne q_5) gFr_0) (by omega) (by omega) (by omega) (Nat.le_of_ble_eq_true rfl) dX9_copy_37 (fun ad9 z9 => ?_)
  have y9 : ∀ b : Nat, b < x3.1.1.length → ad9 b = ad3 b := fun b hb => z9 b (by omega)
  have X9 := gExt.tr X3 (gpush_ext (T := x3.1.1) (sh := (11, alen x3.1.1 b8)))
  have W9 := gad_call y9 X3 W3
  have q_10 := (gpush_ext (T := x3.1.1) (sh := (11, alen x3.1.1 b8))) _ _ q_5
  have q_11 := (gpush_ext (T := x3.1.1) (sh := (11, alen x3.1.1 b8))) _ _ q_4
  have q_y9 : (x3.1.1 ++ [(11, alen x3.1.1 b8)])[x3.1.1.length]? = some (11, alen x3.1.1 b8) := gpush_at
  refine g_castA_i hF kw_566 q_y9 dX9_copy_40 ?_
  refine g_put_r hF (fun _ => rfl) (fun _ => rfl) (gT_lt q_y9) fl_RX9_22 q_10 dX9_copy_43 ?_
  refine g_aload_n hF 0 rfl rfl dX9_copy_46 ?_
  cases h
  exact g_ret_a hF rfl (Or.inl ⟨_, rfl⟩) dX9_copy_47 (hR ad9 X9 W9) (by omega) (by omega)
theorem c_X9_copy {d : Nat} {T : gT} {M : gM} {c9 s9 : Nat} {m_a0 : Nat} {a0 : Nat} {o : Nat × gT × gM} (hd : 2 ≤ d) (q0 : T[a0]? = some (9, m_a0)) (h : f_X9_copy T M a0 = some (o, c9, s9)) : gRet d yX9_copy cX9_copy 2 (some (.object RX9)) c9 s9 [.ref a0] T M (gMade T (some (.ref o.1)) o.2.1 o.2.2) := by
  refine gRet_of (own := RX9) (by decide) rfl (Nat.le_of_ble_eq_true rfl) (fun Z ad0 hn h0 hF => ?_)
  exact t_X9_copy (ce := 0) (so := 0) hF hn hd (by omega) (by omega) q0 h (fun ad1 x1 y1 => ⟨rfl, rfl, rfl, x1, y1⟩)
theorem t_X9_offered_34 {Z : gZ} {d mc ms : Nat} {Acc : Option Value → (Nat → Nat) → gT → gM → Prop} {AccX : Nat → (Nat → Nat) → gT → gM → Prop} {ad : Nat → Nat} {T : gT} {M : gM} {ce so : Nat} {m_a2 : Nat} {i1 : Int32} {a2 : Nat} {i3 : Int32} {i4 : Int32} {o : (Int32) ⊕ (Int32 × Int32)} (hF : gFix Z cX9_offered RX9 "offered" (some .int) d mc ms Acc AccX) (hn : Z.2.2.2.2.2.1 = 6) (hd : 1 ≤ d) (hk1 : ce ≤ mc) (hk2 : so ≤ ms) (q2 : T[a2]? = some (11, m_a2)) (h : f_X9_offered_34 T M i1 a2 i3 i4 = some o) (hE : ∀ e9, o = .inl e9 → gG Z ad T M ce so 40 [(1, .int e9)] []) (hN : ∀ n9, o = .inr n9 → gG Z ad T M ce so 13 [(1, .int n9.1), (2, .ref a2), (3, .int i3), (4, .int n9.2)] []) : gG Z ad T M ce so 34 [(1, .int i1), (2, .ref a2), (3, .int i3), (4, .int i4)] [] := by
  unfold f_X9_offered_34 at h
  refine g_iinc (n := 1) (v := (i4 + (1 : Int32))) (ls' := [(4, .int (i4 + (1 : Int32))), (1, .int i1), (2, .ref a2), (3, .int i3)]) hF 3 rfl rfl (by rw [hn]; decide) rfl dX9_offered_34 ?_
  refine g_goto (tgt := 13) hF dX9_offered_37 (by decide) ?_
  exact gG_sub [1, 2, 3, 0] rfl (hN _ (Option.some.inj h).symm)
theorem t_X9_offered_B13 {Z : gZ} {d mc ms : Nat} {Acc : Option Value → (Nat → Nat) → gT → gM → Prop} {AccX : Nat → (Nat → Nat) → gT → gM → Prop} {ad : Nat → Nat} {T : gT} {M : gM} {ce so : Nat} {m_a2 : Nat} {i1 : Int32} {a2 : Nat} {i3 : Int32} {i4 : Int32} {o : (Int32) ⊕ (Int32 × Int32)} (hF : gFix Z cX9_offered RX9 "offered" (some .int) d mc ms Acc AccX) (hn : Z.2.2.2.2.2.1 = 6) (hd : 1 ≤ d) (hk1 : ce ≤ mc) (hk2 : so ≤ ms) (q2 : T[a2]? = some (11, m_a2)) (h : f_X9_offered_B13 T M i1 a2 i3 i4 = some o) (hE : ∀ e9, o = .inl e9 → gG Z ad T M ce so 40 [(1, .int e9)] []) (hN : ∀ n9, o = .inr n9 → gG Z ad T M ce so 13 [(1, .int n9.1), (2, .ref a2), (3, .int i3), (4, .int n9.2)] []) : gG Z ad T M ce so 13 [(1, .int i1), (2, .ref a2), (3, .int i3), (4, .int i4)] [] := by
  unfold f_X9_offered_B13 at h
  refine g_iload hF 3 rfl dX9_offered_13 ?_
  refine g_iload_n hF 2 rfl rfl dX9_offered_15 ?_
  refine g_icmp_ge (tgt := 40) hF dX9_offered_16 (by decide) (fun c1 => ?_) (fun c1 => ?_)
  · replace h := gif_t c1 h
    exact gG_sub [0] rfl (hE _ (Option.some.inj h).symm)
  · replace h := gif_f c1 h
    refine g_aload_n hF 1 rfl rfl dX9_offered_19 ?_
    refine g_iload hF 3 rfl dX9_offered_20 ?_
    obtain ⟨v2, h2, h⟩ := gbnd h
    obtain ⟨i2h, e2v⟩ := ald_sp q2 h2
    refine g_iald hF q2 i2h dX9_offered_22 ?_
    rw [← e2v]
    refine g_istore (ls' := [(5, .int v2), (1, .int i1), (2, .ref a2), (3, .int i3), (4, .int i4)]) hF (by rw [hn]; decide) rfl dX9_offered_23 ?_
    refine g_iload hF 0 rfl dX9_offered_25 ?_
    refine g_iconst (v := (-1 : Int32)) hF rfl dX9_offered_27 ?_
    refine g_icmp_eq (tgt := 34) hF dX9_offered_28 (by decide) (fun c3 => ?_) (fun c3 => ?_)
    · replace h := gif_t c3 h
      exact gG_sub [1, 2, 3, 4] rfl (t_X9_offered_34 hF hn hd (by omega) (by omega) q2 h hE hN)
    · replace h := gif_f c3 h
      refine g_iinc (n := 1) (v := (i1 + (1 : Int32))) (ls' := [(1, .int (i1 + (1 : Int32))), (5, .int v2), (2, .ref a2), (3, .int i3), (4, .int i4)]) hF 1 rfl rfl (by rw [hn]; decide) rfl dX9_offered_31 ?_
      exact gG_sub [0, 2, 3, 4] rfl (t_X9_offered_34 hF hn hd (by omega) (by omega) q2 h hE hN)
theorem t_X9_offered_L13 {Z : gZ} {d mc ms : Nat} {Acc : Option Value → (Nat → Nat) → gT → gM → Prop} {AccX : Nat → (Nat → Nat) → gT → gM → Prop} {ad : Nat → Nat} {T : gT} {M : gM} {ce so : Nat} {m_a2 : Nat} {i1 : Int32} {a2 : Nat} {i3 : Int32} {i4 : Int32} {o : Int32} (hF : gFix Z cX9_offered RX9 "offered" (some .int) d mc ms Acc AccX) (hn : Z.2.2.2.2.2.1 = 6) (hd : 1 ≤ d) (hk1 : ce ≤ mc) (hk2 : so ≤ ms) (q2 : T[a2]? = some (11, m_a2)) (h : gloop (fun x => f_X9_offered_B13 T M x.1 a2 i3 x.2) gFU (i1, i4) = some o) (hE : gG Z ad T M ce so 40 [(1, .int o)] []) : gG Z ad T M ce so 13 [(1, .int i1), (2, .ref a2), (3, .int i3), (4, .int i4)] [] := by
  refine gloop_ind (P := fun x0 : Int32 × Int32 => gG Z ad T M ce so 13 [(1, .int x0.1), (2, .ref a2), (3, .int i3), (4, .int x0.2)] []) (e := o) (fun x0 y hy hl hr => ?_) gFU (i1, i4) h
  exact t_X9_offered_B13 hF hn hd hk1 hk2 q2 hy (fun e9 q9 => by rw [hl _ q9]; exact hE) (fun n9 q9 => hr n9 q9)
theorem t_X9_offered {Z : gZ} {d mc ms : Nat} {Acc : Option Value → (Nat → Nat) → gT → gM → Prop} {AccX : Nat → (Nat → Nat) → gT → gM → Prop} {ad : Nat → Nat} {T : gT} {M : gM} {ce so : Nat} {m_a0 : Nat} {a0 : Nat} {o : Int32} (hF : gFix Z cX9_offered RX9 "offered" (some .int) d mc ms Acc AccX) (hn : Z.2.2.2.2.2.1 = 6) (hd : 1 ≤ d) (hk1 : ce ≤ mc) (hk2 : so ≤ ms) (q0 : T[a0]? = some (9, m_a0)) (h : f_X9_offered T M a0 = some o) (hR : Acc (some (.int o)) ad T M) : gG Z ad T M ce so 0 [(0, .ref a0)] [] := by
  unfold f_X9_offered at h
  refine g_iconst (v := (0 : Int32)) hF rfl dX9_offered_0 ?_
  refine g_istore_n (ls' := [(1, .int (0 : Int32)), (0, .ref a0)]) hF rfl (by rw [hn]; decide) rfl dX9_offered_1 ?_
  refine g_aload_n hF 1 rfl rfl dX9_offered_2 ?_
  obtain ⟨b4, h4, h⟩ := gbnd h
  obtain ⟨g4, l4, q_b4⟩ := ldr_sp h4
  refine g_get_r hF g4 fl_RX9_22 q0 dX9_offered_3 ?_
  refine g_astore_n (ls' := [(2, .ref b4), (1, .int (0 : Int32)), (0, .ref a0)]) hF rfl (by rw [hn]; decide) rfl dX9_offered_6 ?_
  refine g_aload_n hF 0 rfl rfl dX9_offered_7 ?_
  refine g_alenA hF q_b4 (by decide) dX9_offered_8 ?_
  refine g_istore_n (ls' := [(3, .int (Int32.ofNat (alen T b4))), (2, .ref b4), (1, .int (0 : Int32)), (0, .ref a0)]) hF rfl (by rw [hn]; decide) rfl dX9_offered_9 ?_
  refine g_iconst (v := (0 : Int32)) hF rfl dX9_offered_10 ?_
  refine g_istore (ls' := [(4, .int (0 : Int32)), (3, .int (Int32.ofNat (alen T b4))), (2, .ref b4), (1, .int (0 : Int32)), (0, .ref a0)]) hF (by rw [hn]; decide) rfl dX9_offered_11 ?_
  obtain ⟨x5, h5, h⟩ := gbnd h
  refine gG_sub [3, 2, 1, 0] rfl (t_X9_offered_L13 hF hn hd (by omega) (by omega) q_b4 h5 ?_)
  refine g_iload_n hF 0 rfl rfl dX9_offered_40 ?_
  obtain rfl := Option.some.inj h
  exact g_ret_i hF rfl rfl dX9_offered_41 hR (by omega) (by omega)
