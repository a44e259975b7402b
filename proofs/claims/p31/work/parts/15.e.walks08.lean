theorem t_X11_random_27 {Z : gZ} {d mc ms : Nat} {Acc : Option Value → (Nat → Nat) → gT → gM → Prop} {AccX : Nat → (Nat → Nat) → gT → gM → Prop} {ad : Nat → Nat} {T : gT} {M : gM} {ce so c9 s9 : Nat} {rec : gRecT_X11_random} {dr : Nat} {m_a0 m_a2 m_b0 : Nat} {a0 : Nat} {i1 : Int32} {a2 : Nat} {b0 : Nat} {k1 : Int32} {o : Nat × gT × gM} (hF : gFix Z cX11_random RX11 "random" (some (.object RX11)) d mc ms Acc AccX) (hn : Z.2.2.2.2.2.1 = 3) (hd : 2 ≤ d) (hrec : gRecOk_X11_random dr rec) (hdr : dr + 1 ≤ d) (hk1 : ce + c9 ≤ mc) (hk2 : so + s9 ≤ ms) (q0 : T[a0]? = some (18, m_a0)) (q2 : T[a2]? = some (17, m_a2)) (p0 : T[b0]? = some (17, m_b0)) (h : f_X11_random_27 rec T M a0 i1 a2 b0 k1 = some (o, c9, s9)) (hR : ∀ ad1 : Nat → Nat, gExt T o.2.1 → (∀ a : Nat, a < T.length → ad1 a = ad a) → Acc (some (.ref o.1)) ad1 o.2.1 o.2.2) : gG Z ad T M ce so 27 [(0, .ref a0), (1, .int i1), (2, .ref a2)] [.int k1, .ref b0] := by
  unfold f_X11_random_27 at h
  refine g_put_i hF rfl rfl fl_RX11_16 p0 dX11_random_27 ?_
  refine g_aload_n hF 2 rfl rfl dX11_random_30 ?_
  refine g_aload_n hF 2 rfl rfl dX11_random_31 ?_
  refine g_get_i hF fl_RX11_16 q2 dX11_random_32 ?_
  refine g_if_ne (tgt := 62) hF dX11_random_35 (by decide) (fun c11 => ?_) (fun c11 => ?_)
  · replace h := gif_t c11 h
    refine g_aload_n hF 0 rfl rfl dX11_random_62 ?_
    refine g_iconst (v := (4 : Int32)) hF rfl dX11_random_63 ?_
    obtain ⟨x12, h12, h⟩ := gbnd h
    refine g_callV hF my_X12_below kw_1394 kw_637 kw_638 gC_18.1 (by decide) q0 (c_X12_below (d := d - 1) (by omega) q0 h12) (by omega) (by omega) (by omega) rfl rfl (Nat.le_of_ble_eq_true rfl) dX11_random_64 (g_sameS ?_)
    exact gG_sub [0, 1, 2] rfl (t_X11_random_67 hF hn hd hrec hdr (by omega) (by omega) q0 q2 q2 h (fun ad1 x1 y1 => hR ad1 (gExt.tr gExt.rf x1) (gad_call y1 gExt.rf (fun _ _ => rfl))))
  · replace h := gif_n c11 h
    refine g_aload_n hF 0 rfl rfl dX11_random_38 ?_
    refine g_aload_n hF 0 rfl rfl dX11_random_39 ?_
    refine g_bipush (v := (8 : Int32)) hF rfl dX11_random_40 ?_
    obtain ⟨x13, h13, h⟩ := gbnd h
    refine g_callV hF my_X12_below kw_1394 kw_637 kw_638 gC_18.1 (by decide) q0 (c_X12_below (d := d - 1) (by omega) q0 h13) (by omega) (by omega) (by omega) rfl rfl (Nat.le_of_ble_eq_true rfl) dX11_random_42 (g_sameS ?_)
    refine g_if_ne (tgt := 54) hF dX11_random_45 (by decide) (fun c14 => ?_) (fun c14 => ?_)
    · replace h := gif_t c14 h
      refine g_bipush (v := (9 : Int32)) hF rfl dX11_random_54 ?_
      exact gG_sub [0, 1, 2] rfl (t_X11_random_56 hF hn hd hrec hdr (by omega) (by omega) q0 q2 q2 q0 h (fun ad1 x1 y1 => hR ad1 (gExt.tr gExt.rf x1) (gad_call y1 gExt.rf (fun _ _ => rfl))))
    · replace h := gif_n c14 h
      refine g_sipush (v := (10000 : Int32)) hF rfl dX11_random_48 ?_
      refine g_goto (tgt := 56) hF dX11_random_51 (by decide) ?_
      exact gG_sub [0, 1, 2] rfl (t_X11_random_56 hF hn hd hrec hdr (by omega) (by omega) q0 q2 q2 q0 h (fun ad1 x1 y1 => hR ad1 (gExt.tr gExt.rf x1) (gad_call y1 gExt.rf (fun _ _ => rfl))))
theorem t_X11_random {Z : gZ} {d mc ms : Nat} {Acc : Option Value → (Nat → Nat) → gT → gM → Prop} {AccX : Nat → (Nat → Nat) → gT → gM → Prop} {ad : Nat → Nat} {T : gT} {M : gM} {ce so c9 s9 : Nat} {rec : gRecT_X11_random} {dr : Nat} {m_a0 : Nat} {a0 : Nat} {i1 : Int32} {o : Nat × gT × gM} (hF : gFix Z cX11_random RX11 "random" (some (.object RX11)) d mc ms Acc AccX) (hn : Z.2.2.2.2.2.1 = 3) (hd : 2 ≤ d) (hrec : gRecOk_X11_random dr rec) (hdr : dr + 1 ≤ d) (hk1 : ce + c9 ≤ mc) (hk2 : so + s9 ≤ ms) (q0 : T[a0]? = some (18, m_a0)) (h : f_X11_random rec T M a0 i1 = some (o, c9, s9)) (hR : ∀ ad1 : Nat → Nat, gExt T o.2.1 → (∀ a : Nat, a < T.length → ad1 a = ad a) → Acc (some (.ref o.1)) ad1 o.2.1 o.2.2) : gG Z ad T M ce so 0 [(0, .ref a0), (1, .int i1)] [] := by
  unfold f_X11_random at h
  obtain ⟨x15, h15, h⟩ := gbnd h
  obtain ⟨c15, s15, h, ec15, es15⟩ := cadd_sp h
  have g15 : gnew T M (17, 0) = some (x15.1, x15.2.1, x15.2.2) := h15
  refine g_new hF gC_17 gDf_17 kw_1375 kw_1376 kw_95 g15 (gnew_lt g15) (gFr_r (gT_ne q0) (gFr_i gFr_0)) gFr_0 (by omega) (by omega) dX11_random_0 (fun ad15 z15 => ?_)
  have y15 : ∀ b : Nat, b < T.length → ad15 b = ad b := fun b hb => z15 b (by rw [(gnew_sp g15).1]; omega)
  have X15 := gExt.tr gExt.rf (gnew_ext g15)
  have W15 := gad_call y15 gExt.rf (fun _ _ => rfl)
  have q_16 := (gnew_ext g15) _ _ q0
  have q_y15 := gnew_at g15
  refine g_dup hF rfl dX11_random_3 ?_
  obtain ⟨x17, h17, h⟩ := gbnd h
  refine g_callI hF my_X11_init kw_1377 kw_1378 rfl gC_17.1 (by decide) q_y15 (c_X11_init (d := d - 1) (by omega) q_y15 h17) (by omega) (by omega) (by omega) rfl rfl (Nat.le_of_ble_eq_true rfl) dX11_random_4 (g_sameN ?_)
  refine g_astore_n (ls' := [(2, .ref x15.1), (0, .ref a0), (1, .int i1)]) hF rfl (by rw [hn]; decide) rfl dX11_random_7 ?_
  refine g_aload_n hF 0 rfl rfl dX11_random_8 ?_
  refine g_iload_n hF 2 rfl rfl dX11_random_9 ?_
  refine g_if_ne (tgt := 21) hF dX11_random_10 (by decide) (fun c18 => ?_) (fun c18 => ?_)
  · replace h := gif_t c18 h
    refine g_aload_n hF 1 rfl rfl dX11_random_21 ?_
    refine g_bipush (v := (6 : Int32)) hF rfl dX11_random_22 ?_
    obtain ⟨x19, h19, h⟩ := gbnd h
    refine g_callV hF my_X12_below kw_1394 kw_637 kw_638 gC_18.1 (by decide) q_16 (c_X12_below (d := d - 1) (by omega) q_16 h19) (by omega) (by omega) (by omega) rfl rfl (Nat.le_of_ble_eq_true rfl) dX11_random_24 (g_sameS ?_)
    exact gG_sub [1, 2, 0] rfl (t_X11_random_27 hF hn hd hrec hdr (by omega) (by omega) q_16 q_y15 q_y15 h (fun ad1 x1 y1 => hR ad1 (gExt.tr X15 x1) (gad_call y1 X15 W15)))
  · replace h := gif_n c18 h
    refine g_aload_n hF 1 rfl rfl dX11_random_13 ?_
    refine g_iconst (v := (2 : Int32)) hF rfl dX11_random_14 ?_
    obtain ⟨x20, h20, h⟩ := gbnd h
    refine g_callV hF my_X12_below kw_1394 kw_637 kw_638 gC_18.1 (by decide) q_16 (c_X12_below (d := d - 1) (by omega) q_16 h20) (by omega) (by omega) (by omega) rfl rfl (Nat.le_of_ble_eq_true rfl) dX11_random_15 (g_sameS ?_)
    refine g_goto (tgt := 27) hF dX11_random_18 (by decide) ?_
    exact gG_sub [1, 2, 0] rfl (t_X11_random_27 hF hn hd hrec hdr (by omega) (by omega) q_16 q_y15 q_y15 h (fun ad1 x1 y1 => hR ad1 (gExt.tr X15 x1) (gad_call y1 X15 W15)))
theorem c_X11_random {d : Nat} {T : gT} {M : gM} {c9 s9 : Nat} {rec : gRecT_X11_random} {dr : Nat} {m_a0 : Nat} {a0 : Nat} {i1 : Int32} {o : Nat × gT × gM} (hd : 2 ≤ d) (hrec : gRecOk_X11_random dr rec) (hdr : dr + 1 ≤ d) (q0 : T[a0]? = some (18, m_a0)) (h : f_X11_random rec T M a0 i1 = some (o, c9, s9)) : gRet d yX11_random cX11_random 3 (some (.object RX11)) c9 s9 [.ref a0, .int i1] T M (gMade T (some (.ref o.1)) o.2.1 o.2.2) := by
  refine gRet_of (own := RX11) (by decide) rfl (Nat.le_of_ble_eq_true rfl) (fun Z ad0 hn h0 hF => ?_)
  exact t_X11_random (ce := 0) (so := 0) hF hn hd hrec hdr (by omega) (by omega) q0 h (fun ad1 x1 y1 => ⟨rfl, rfl, rfl, x1, y1⟩)
theorem gRecAll_X11_random : ∀ n : Nat, gRecOk_X11_random (2 + n) (g_X11_random n)
  | 0 => fun _ _ h => nomatch h
  | n + 1 => fun hd q0 h => c_X11_random (by omega) (gRecAll_X11_random n) (by omega) q0 h
theorem c_X11_random_c {d : Nat} {T : gT} {M : gM} {c9 s9 : Nat} {m_a0 : Nat} {a0 : Nat} {i1 : Int32} {o : Nat × gT × gM} (hd : 8 ≤ d) (q0 : T[a0]? = some (18, m_a0)) (h : f_X11_random_c T M a0 i1 = some (o, c9, s9)) : gRet d yX11_random cX11_random 3 (some (.object RX11)) c9 s9 [.ref a0, .int i1] T M (gMade T (some (.ref o.1)) o.2.1 o.2.2) := gRecAll_X11_random 6 (by omega) q0 h
def gRecOk_X11_text (dr : Nat) (rec : gRecT_X11_text) : Prop := ∀ {d : Nat} {T : gT} {M : gM} {c9 s9 : Nat} {m_a0 : Nat} {a0 : Nat} {i1 : Int32} {o : Nat × gT × gM}, dr ≤ d → ∀ (q0 : T[a0]? = some (17, m_a0)), rec T M a0 i1 = some (o, c9, s9) → gRet d yX11_text cX11_text 4 (some (.object RJ0)) c9 s9 [.ref a0, .int i1] T M (gMade T (some (.ref o.1)) o.2.1 o.2.2)
theorem t_X11_text_173 {Z : gZ} {d mc ms : Nat} {Acc : Option Value → (Nat → Nat) → gT → gM → Prop} {AccX : Nat → (Nat → Nat) → gT → gM → Prop} {ad : Nat → Nat} {T : gT} {M : gM} {ce so c9 s9 : Nat} {rec : gRecT_X11_text} {dr : Nat}  {z0 : Nat} {o : Nat × gT × gM} (hF : gFix Z cX11_text RX11 "text" (some (.object RJ0)) d mc ms Acc AccX) (hn : Z.2.2.2.2.2.1 = 4) (hd : 7 ≤ d) (hrec : gRecOk_X11_text dr rec) (hdr : dr + 1 ≤ d) (hk1 : ce + c9 ≤ mc) (hk2 : so + s9 ≤ ms) (p0 : gStr T z0) (h : f_X11_text_173 rec T M z0 = some (o, c9, s9)) (hR : ∀ ad1 : Nat → Nat, gExt T o.2.1 → (∀ a : Nat, a < T.length → ad1 a = ad a) → Acc (some (.ref o.1)) ad1 o.2.1 o.2.2) : gG Z ad T M ce so 173 [] [.ref z0] := by
  unfold f_X11_text_173 at h
  cases h
  exact g_ret_a hF rfl (Or.inl ⟨_, rfl⟩) dX11_text_173 (hR _ gExt.rf (fun _ _ => rfl)) (by omega) (by omega)
theorem t_X11_text_120 {Z : gZ} {d mc ms : Nat} {Acc : Option Value → (Nat → Nat) → gT → gM → Prop} {AccX : Nat → (Nat → Nat) → gT → gM → Prop} {ad : Nat → Nat} {T : gT} {M : gM} {ce so c9 s9 : Nat} {rec : gRecT_X11_text} {dr : Nat} {m_a0 m_b0 : Nat} {a0 : Nat} {i1 : Int32} {i2 : Int32} {b0 : Nat} {z1 : Nat} {o : Nat × gT × gM} (hF : gFix Z cX11_text RX11 "text" (some (.object RJ0)) d mc ms Acc AccX) (hn : Z.2.2.2.2.2.1 = 4) (hd : 7 ≤ d) (hrec : gRecOk_X11_text dr rec) (hdr : dr + 1 ≤ d) (hk1 : ce + c9 ≤ mc) (hk2 : so + s9 ≤ ms) (q0 : T[a0]? = some (17, m_a0)) (p0 : T[b0]? = some (20, m_b0)) (p1 : gStr T z1) (h : f_X11_text_120 rec T M a0 i1 i2 b0 z1 = some (o, c9, s9)) (hR : ∀ ad1 : Nat → Nat, gExt T o.2.1 → (∀ a : Nat, a < T.length → ad1 a = ad a) → Acc (some (.ref o.1)) ad1 o.2.1 o.2.2) : gG Z ad T M ce so 120 [(0, .ref a0), (1, .int i1), (2, .int i2)] [.ref z1, .ref b0] := by
  unfold f_X11_text_120 at h
  obtain ⟨x1, h1, h⟩ := gbnd h
  obtain ⟨c1, s1, h, ec1, es1⟩ := cadd_sp h
  refine g_callV hF my_J4_append_15ec4 kw_1404 kw_1162 kw_1163 gC_20.1 (by decide) p0 (c_J4_append_15ec4 (d := d - 1) (by omega) p0 p1 (trip h1)) (by omega) (by omega) (by omega) rfl rfl (Nat.le_of_ble_eq_true rfl) dX11_text_120 (g_madeS (gOld_r (gT_lt q0) (gOld_i (gOld_i gOld_0))) gOld_0 (fun ad1 e1 y1 => ?_))
  have X1 := gExt.tr gExt.rf e1
  have W1 := gad_call y1 gExt.rf (fun _ _ => rfl)
  have q_2 := e1 _ _ q0
  obtain ⟨_, h3, h⟩ := gbnd h
  obtain ⟨l3, q_3⟩ := gkd_sp h3
  refine g_aload_n hF 0 rfl rfl dX11_text_123 ?_
  obtain ⟨b4, h4, h⟩ := gbnd h
  obtain ⟨g4, l4, q_b4⟩ := ldr_sp h4
  refine g_get_r hF g4 fl_RX11_31 q_2 dX11_text_124 ?_
  refine g_iload_n hF 2 rfl rfl dX11_text_127 ?_
  refine g_iconst (v := (1 : Int32)) hF rfl dX11_text_128 ?_
  refine g_iadd hF dX11_text_129 ?_
  obtain ⟨x5, h5, h⟩ := gbnd h
  obtain ⟨c5, s5, h, ec5, es5⟩ := cadd_sp h
  refine g_callV hF my_X11_text kw_1409 kw_1398 kw_1399 gC_17.1 (by decide) q_b4 (hrec (d := d - 1) (by omega) q_b4 (trip h5)) (by omega) (by omega) (by omega) rfl rfl (Nat.le_of_ble_eq_true rfl) dX11_text_130 (g_madeS (gOld_r (gT_lt q_2) (gOld_i (gOld_i gOld_0))) (gOld_r (gT_lt q_3) gOld_0) (fun ad5 e5 y5 => ?_))
  have X5 := gExt.tr X1 e5
  have W5 := gad_call y5 X1 W1
  have q_6 := e5 _ _ q_2
  have q_7 := e5 _ _ q_3
  obtain ⟨_, h8, h⟩ := gbnd h
  have q_8 := gks_sp h8
  obtain ⟨x9, h9, h⟩ := gbnd h
  obtain ⟨c9, s9, h, ec9, es9⟩ := cadd_sp h
  refine g_callV hF my_J4_append_15ec4 kw_1404 kw_1162 kw_1163 gC_20.1 (by decide) q_7 (c_J4_append_15ec4 (d := d - 1) (by omega) q_7 q_8 (trip h9)) (by omega) (by omega) (by omega) rfl rfl (Nat.le_of_ble_eq_true rfl) dX11_text_133 (g_madeS (gOld_r (gT_lt q_6) (gOld_i (gOld_i gOld_0))) gOld_0 (fun ad9 e9 y9 => ?_))
  have X9 := gExt.tr X5 e9
  have W9 := gad_call y9 X5 W5
  have q_10 := e9 _ _ q_6
  obtain ⟨_, h11, h⟩ := gbnd h
  obtain ⟨l11, q_11⟩ := gkd_sp h11
  obtain ⟨x12, h12, h⟩ := gbnd h
  obtain ⟨c12, s12, h, ec12, es12⟩ := cadd_sp h
  refine g_callV hF my_J4_toString_0e30d kw_1406 kw_1266 kw_1267 gC_20.1 (by decide) q_11 (c_J4_toString_0e30d (d := d - 1) (by omega) q_11 (trip h12)) (by omega) (by omega) (by omega) rfl rfl (Nat.le_of_ble_eq_true rfl) dX11_text_136 (g_madeS (gOld_r (gT_lt q_10) (gOld_i (gOld_i gOld_0))) gOld_0 (fun ad12 e12 y12 => ?_))
  have X12 := gExt.tr X9 e12
  have W12 := gad_call y12 X9 W9
  have q_13 := e12 _ _ q_10
  obtain ⟨_, h14, h⟩ := gbnd h
  have q_14 := gks_sp h14
  refine g_astore_n (ls' := [(3, .ref x12.1.1), (0, .ref a0), (1, .int i1), (2, .int i2)]) hF rfl (by rw [hn]; decide) rfl dX11_text_139 ?_
  refine g_iload_n hF 3 rfl rfl dX11_text_140 ?_
  refine g_iload_n hF 2 rfl rfl dX11_text_141 ?_
  refine g_icmp_ge (tgt := 172) hF dX11_text_142 (by decide) (fun c15 => ?_) (fun c15 => ?_)
  · replace h := gif_t c15 h
    refine g_aload_n hF 0 rfl rfl dX11_text_172 ?_
    exact gG_sub [] rfl (t_X11_text_173 hF hn hd hrec hdr (by omega) (by omega) q_14 h (fun ad1 x1 y1 => hR ad1 (gExt.tr X12 x1) (gad_call y1 X12 W12)))
  · replace h := gif_f c15 h
    obtain ⟨x16, h16, h⟩ := gbnd h
    obtain ⟨c16, s16, h, ec16, es16⟩ := cadd_sp h
    have g16 : gnew x12.1.2.1 x12.1.2.2 (20, 0) = some (x16.1, x16.2.1, x16.2.2) := h16
    refine g_new hF gC_20 gDf_20 kw_1401 kw_1131 kw_90 g16 (gnew_lt g16) (gFr_r (q_14.ne (gnew_lt g16)) (gFr_r (gT_ne q_13) (gFr_i (gFr_i gFr_0)))) gFr_0 (by omega) (by omega) dX11_text_145 (fun ad16 z16 => ?_)
    have y16 : ∀ b : Nat, b < x12.1.2.1.length → ad16 b = ad12 b := fun b hb => z16 b (by rw [(gnew_sp g16).1]; omega)
    have X16 := gExt.tr X12 (gnew_ext g16)
    have W16 := gad_call y16 X12 W12
    have q_17 := q_14.ext (gnew_ext g16)
    have q_18 := (gnew_ext g16) _ _ q_13
    have q_y16 := gnew_at g16
    refine g_dup hF rfl dX11_text_148 ?_
    obtain ⟨x19, h19, h⟩ := gbnd h
    obtain ⟨c19, s19, h, ec19, es19⟩ := cadd_sp h
    refine g_callI hF my_J4_init_da8c8 kw_1402 kw_1133 rfl gC_20.1 (by decide) q_y16 (c_J4_init_da8c8 (d := d - 1) (by omega) q_y16 (trip h19)) (by omega) (by omega) (by omega) rfl rfl (Nat.le_of_ble_eq_true rfl) dX11_text_149 (g_madeN (gOld_S q_17 (gOld_r (gT_lt q_18) (gOld_i (gOld_i gOld_0)))) (gOld_r (gT_lt q_y16) gOld_0) (fun ad19 e19 y19 => ?_))
    have X19 := gExt.tr X16 e19
    have W19 := gad_call y19 X16 W16
    have q_20 := q_17.ext e19
    have q_21 := e19 _ _ q_18
    have q_22 := e19 _ _ q_y16
    refine g_ldcS (tx := "(") (a := gSB + 32) hF (by decide +kernel) (Nat.le_add_right _ _) dX11_text_152 ?_
    obtain ⟨x23, h23, h⟩ := gbnd h
    obtain ⟨c23, s23, h, ec23, es23⟩ := cadd_sp h
    refine g_callV hF my_J4_append_15ec4 kw_1404 kw_1162 kw_1163 gC_20.1 (by decide) q_22 (c_J4_append_15ec4 (d := d - 1) (by omega) q_22 (gStr_c (i := 32) (by decide)) (trip h23)) (by omega) (by omega) (by omega) rfl rfl (Nat.le_of_ble_eq_true rfl) dX11_text_154 (g_madeS (gOld_S q_20 (gOld_r (gT_lt q_21) (gOld_i (gOld_i gOld_0)))) gOld_0 (fun ad23 e23 y23 => ?_))
    have X23 := gExt.tr X19 e23
    have W23 := gad_call y23 X19 W19
    have q_24 := q_20.ext e23
    have q_25 := e23 _ _ q_21
    obtain ⟨_, h26, h⟩ := gbnd h
    obtain ⟨l26, q_26⟩ := gkd_sp h26
    refine g_aload_n hF 0 rfl rfl dX11_text_157 ?_
    obtain ⟨x27, h27, h⟩ := gbnd h
    obtain ⟨c27, s27, h, ec27, es27⟩ := cadd_sp h
    refine g_callV hF my_J4_append_15ec4 kw_1404 kw_1162 kw_1163 gC_20.1 (by decide) q_26 (c_J4_append_15ec4 (d := d - 1) (by omega) q_26 q_24 (trip h27)) (by omega) (by omega) (by omega) rfl rfl (Nat.le_of_ble_eq_true rfl) dX11_text_158 (g_madeS (gOld_S q_24 (gOld_r (gT_lt q_25) (gOld_i (gOld_i gOld_0)))) gOld_0 (fun ad27 e27 y27 => ?_))
    have X27 := gExt.tr X23 e27
    have W27 := gad_call y27 X23 W23
    have q_28 := q_24.ext e27
    have q_29 := e27 _ _ q_25
    obtain ⟨_, h30, h⟩ := gbnd h
    obtain ⟨l30, q_30⟩ := gkd_sp h30
    refine g_ldcS (tx := ")") (a := gSB + 33) hF (by decide +kernel) (Nat.le_add_right _ _) dX11_text_161 ?_
    obtain ⟨x31, h31, h⟩ := gbnd h
    obtain ⟨c31, s31, h, ec31, es31⟩ := cadd_sp h
    refine g_callV hF my_J4_append_15ec4 kw_1404 kw_1162 kw_1163 gC_20.1 (by decide) q_30 (c_J4_append_15ec4 (d := d - 1) (by omega) q_30 (gStr_c (i := 33) (by decide)) (trip h31)) (by omega) (by omega) (by omega) rfl rfl (Nat.le_of_ble_eq_true rfl) dX11_text_163 (g_madeS (gOld_S q_28 (gOld_r (gT_lt q_29) (gOld_i (gOld_i gOld_0)))) gOld_0 (fun ad31 e31 y31 => ?_))
    have X31 := gExt.tr X27 e31
    have W31 := gad_call y31 X27 W27
    have q_32 := q_28.ext e31
    have q_33 := e31 _ _ q_29
    obtain ⟨_, h34, h⟩ := gbnd h
    obtain ⟨l34, q_34⟩ := gkd_sp h34
    obtain ⟨x35, h35, h⟩ := gbnd h
    obtain ⟨c35, s35, h, ec35, es35⟩ := cadd_sp h
    refine g_callV hF my_J4_toString_0e30d kw_1406 kw_1266 kw_1267 gC_20.1 (by decide) q_34 (c_J4_toString_0e30d (d := d - 1) (by omega) q_34 (trip h35)) (by omega) (by omega) (by omega) rfl rfl (Nat.le_of_ble_eq_true rfl) dX11_text_166 (g_madeS (gOld_S q_32 (gOld_r (gT_lt q_33) (gOld_i (gOld_i gOld_0)))) gOld_0 (fun ad35 e35 y35 => ?_))
    have X35 := gExt.tr X31 e35
    have W35 := gad_call y35 X31 W31
    have q_36 := q_32.ext e35
    have q_37 := e35 _ _ q_33
    obtain ⟨_, h38, h⟩ := gbnd h
    have q_38 := gks_sp h38
    refine g_goto (tgt := 173) hF dX11_text_169 (by decide) ?_
    exact gG_sub [] rfl (t_X11_text_173 hF hn hd hrec hdr (by omega) (by omega) q_38 h (fun ad1 x1 y1 => hR ad1 (gExt.tr X35 x1) (gad_call y1 X35 W35)))
theorem t_X11_text_60 {Z : gZ} {d mc ms : Nat} {Acc : Option Value → (Nat → Nat) → gT → gM → Prop} {AccX : Nat → (Nat → Nat) → gT → gM → Prop} {ad : Nat → Nat} {T : gT} {M : gM} {ce so c9 s9 : Nat} {rec : gRecT_X11_text} {dr : Nat} {m_a0 : Nat} {a0 : Nat} {i1 : Int32} {k0 : Int32} {o : Nat × gT × gM} (hF : gFix Z cX11_text RX11 "text" (some (.object RJ0)) d mc ms Acc AccX) (hn : Z.2.2.2.2.2.1 = 4) (hd : 7 ≤ d) (hrec : gRecOk_X11_text dr rec) (hdr : dr + 1 ≤ d) (hk1 : ce + c9 ≤ mc) (hk2 : so + s9 ≤ ms) (q0 : T[a0]? = some (17, m_a0)) (h : f_X11_text_60 rec T M a0 i1 k0 = some (o, c9, s9)) (hR : ∀ ad1 : Nat → Nat, gExt T o.2.1 → (∀ a : Nat, a < T.length → ad1 a = ad a) → Acc (some (.ref o.1)) ad1 o.2.1 o.2.2) : gG Z ad T M ce so 60 [(0, .ref a0), (1, .int i1)] [.int k0] := by
  unfold f_X11_text_60 at h
  refine g_istore_n (ls' := [(2, .int k0), (0, .ref a0), (1, .int i1)]) hF rfl (by rw [hn]; decide) rfl dX11_text_60 ?_
  obtain ⟨x39, h39, h⟩ := gbnd h
  obtain ⟨c39, s39, h, ec39, es39⟩ := cadd_sp h
  have g39 : gnew T M (20, 0) = some (x39.1, x39.2.1, x39.2.2) := h39
  refine g_new hF gC_20 gDf_20 kw_1401 kw_1131 kw_90 g39 (gnew_lt g39) (gFr_i (gFr_r (gT_ne q0) (gFr_i gFr_0))) gFr_0 (by omega) (by omega) dX11_text_61 (fun ad39 z39 => ?_)
  have y39 : ∀ b : Nat, b < T.length → ad39 b = ad b := fun b hb => z39 b (by rw [(gnew_sp g39).1]; omega)
  have X39 := gExt.tr gExt.rf (gnew_ext g39)
  have W39 := gad_call y39 gExt.rf (fun _ _ => rfl)
  have q_40 := (gnew_ext g39) _ _ q0
  have q_y39 := gnew_at g39
  refine g_dup hF rfl dX11_text_64 ?_
  obtain ⟨x41, h41, h⟩ := gbnd h
  obtain ⟨c41, s41, h, ec41, es41⟩ := cadd_sp h
  refine g_callI hF my_J4_init_da8c8 kw_1402 kw_1133 rfl gC_20.1 (by decide) q_y39 (c_J4_init_da8c8 (d := d - 1) (by omega) q_y39 (trip h41)) (by omega) (by omega) (by omega) rfl rfl (Nat.le_of_ble_eq_true rfl) dX11_text_65 (g_madeN (gOld_i (gOld_r (gT_lt q_40) (gOld_i gOld_0))) (gOld_r (gT_lt q_y39) gOld_0) (fun ad41 e41 y41 => ?_))
  have X41 := gExt.tr X39 e41
  have W41 := gad_call y41 X39 W39
  have q_42 := e41 _ _ q_40
  have q_43 := e41 _ _ q_y39
  refine g_aload_n hF 1 rfl rfl dX11_text_68 ?_
  obtain ⟨b44, h44, h⟩ := gbnd h
  obtain ⟨g44, l44, q_b44⟩ := ldr_sp h44
  refine g_get_r hF g44 fl_RX11_27 q_42 dX11_text_69 ?_
  refine g_iload_n hF 0 rfl rfl dX11_text_72 ?_
  obtain ⟨x45, h45, h⟩ := gbnd h
  obtain ⟨c45, s45, h, ec45, es45⟩ := cadd_sp h
  refine g_callV hF my_X11_text kw_1409 kw_1398 kw_1399 gC_17.1 (by decide) q_b44 (hrec (d := d - 1) (by omega) q_b44 (trip h45)) (by omega) (by omega) (by omega) rfl rfl (Nat.le_of_ble_eq_true rfl) dX11_text_73 (g_madeS (gOld_i (gOld_r (gT_lt q_42) (gOld_i gOld_0))) (gOld_r (gT_lt q_43) gOld_0) (fun ad45 e45 y45 => ?_))
  have X45 := gExt.tr X41 e45
  have W45 := gad_call y45 X41 W41
  have q_46 := e45 _ _ q_42
  have q_47 := e45 _ _ q_43
  obtain ⟨_, h48, h⟩ := gbnd h
  have q_48 := gks_sp h48
  obtain ⟨x49, h49, h⟩ := gbnd h
  obtain ⟨c49, s49, h, ec49, es49⟩ := cadd_sp h
  refine g_callV hF my_J4_append_15ec4 kw_1404 kw_1162 kw_1163 gC_20.1 (by decide) q_47 (c_J4_append_15ec4 (d := d - 1) (by omega) q_47 q_48 (trip h49)) (by omega) (by omega) (by omega) rfl rfl (Nat.le_of_ble_eq_true rfl) dX11_text_76 (g_madeS (gOld_i (gOld_r (gT_lt q_46) (gOld_i gOld_0))) gOld_0 (fun ad49 e49 y49 => ?_))
  have X49 := gExt.tr X45 e49
  have W49 := gad_call y49 X45 W45
  have q_50 := e49 _ _ q_46
  obtain ⟨_, h51, h⟩ := gbnd h
  obtain ⟨l51, q_51⟩ := gkd_sp h51
  refine g_aload_n hF 1 rfl rfl dX11_text_79 ?_
  refine g_get_i hF fl_RX11_16 q_50 dX11_text_80 ?_
  refine g_iconst (v := (2 : Int32)) hF rfl dX11_text_83 ?_
  refine g_icmp_ne (tgt := 92) hF dX11_text_84 (by decide) (fun c52 => ?_) (fun c52 => ?_)
  · replace h := gif_t c52 h
    refine g_aload_n hF 1 rfl rfl dX11_text_92 ?_
    refine g_get_i hF fl_RX11_16 q_50 dX11_text_93 ?_
    refine g_iconst (v := (3 : Int32)) hF rfl dX11_text_96 ?_
    refine g_icmp_ne (tgt := 105) hF dX11_text_97 (by decide) (fun c53 => ?_) (fun c53 => ?_)
    · replace h := gif_t c53 h
      refine g_aload_n hF 1 rfl rfl dX11_text_105 ?_
      refine g_get_i hF fl_RX11_16 q_50 dX11_text_106 ?_
      refine g_iconst (v := (4 : Int32)) hF rfl dX11_text_109 ?_
      refine g_icmp_ne (tgt := 118) hF dX11_text_110 (by decide) (fun c54 => ?_) (fun c54 => ?_)
      · replace h := gif_t c54 h
        refine g_ldcS (tx := "/") (a := gSB + 31) hF (by decide +kernel) (Nat.le_add_right _ _) dX11_text_118 ?_
        exact gG_sub [1, 2, 0] rfl (t_X11_text_120 hF hn hd hrec hdr (by omega) (by omega) q_50 q_51 (gStr_c (i := 31) (by decide)) h (fun ad1 x1 y1 => hR ad1 (gExt.tr X49 x1) (gad_call y1 X49 W49)))
      · replace h := gif_n c54 h
        refine g_ldcS (tx := "* ") (a := gSB + 30) hF (by decide +kernel) (Nat.le_add_right _ _) dX11_text_113 ?_
        refine g_goto (tgt := 120) hF dX11_text_115 (by decide) ?_
        exact gG_sub [1, 2, 0] rfl (t_X11_text_120 hF hn hd hrec hdr (by omega) (by omega) q_50 q_51 (gStr_c (i := 30) (by decide)) h (fun ad1 x1 y1 => hR ad1 (gExt.tr X49 x1) (gad_call y1 X49 W49)))
    · replace h := gif_n c53 h
      refine g_ldcS (tx := " - ") (a := gSB + 29) hF (by decide +kernel) (Nat.le_add_right _ _) dX11_text_100 ?_
      refine g_goto (tgt := 120) hF dX11_text_102 (by decide) ?_
      exact gG_sub [1, 2, 0] rfl (t_X11_text_120 hF hn hd hrec hdr (by omega) (by omega) q_50 q_51 (gStr_c (i := 29) (by decide)) h (fun ad1 x1 y1 => hR ad1 (gExt.tr X49 x1) (gad_call y1 X49 W49)))
  · replace h := gif_n c52 h
    refine g_ldcS (tx := "+") (a := gSB + 28) hF (by decide +kernel) (Nat.le_add_right _ _) dX11_text_87 ?_
    refine g_goto (tgt := 120) hF dX11_text_89 (by decide) ?_
    exact gG_sub [1, 2, 0] rfl (t_X11_text_120 hF hn hd hrec hdr (by omega) (by omega) q_50 q_51 (gStr_c (i := 28) (by decide)) h (fun ad1 x1 y1 => hR ad1 (gExt.tr X49 x1) (gad_call y1 X49 W49)))
theorem t_X11_text {Z : gZ} {d mc ms : Nat} {Acc : Option Value → (Nat → Nat) → gT → gM → Prop} {AccX : Nat → (Nat → Nat) → gT → gM → Prop} {ad : Nat → Nat} {T : gT} {M : gM} {ce so c9 s9 : Nat} {rec : gRecT_X11_text} {dr : Nat} {m_a0 : Nat} {a0 : Nat} {i1 : Int32} {o : Nat × gT × gM} (hF : gFix Z cX11_text RX11 "text" (some (.object RJ0)) d mc ms Acc AccX) (hn : Z.2.2.2.2.2.1 = 4) (hd : 7 ≤ d) (hrec : gRecOk_X11_text dr rec) (hdr : dr + 1 ≤ d) (hk1 : ce + c9 ≤ mc) (hk2 : so + s9 ≤ ms) (q0 : T[a0]? = some (17, m_a0)) (h : f_X11_text rec T M a0 i1 = some (o, c9, s9)) (hR : ∀ ad1 : Nat → Nat, gExt T o.2.1 → (∀ a : Nat, a < T.length → ad1 a = ad a) → Acc (some (.ref o.1)) ad1 o.2.1 o.2.2) : gG Z ad T M ce so 0 [(0, .ref a0), (1, .int i1)] [] := by
  unfold f_X11_text at h
  refine g_aload_n hF 0 rfl rfl dX11_text_0 ?_
  refine g_get_i hF fl_RX11_16 q0 dX11_text_1 ?_
  refine g_if_ne (tgt := 30) hF dX11_text_4 (by decide) (fun c55 => ?_) (fun c55 => ?_)
  · replace h := gif_t c55 h
    refine g_aload_n hF 0 rfl rfl dX11_text_30 ?_
    refine g_get_i hF fl_RX11_16 q0 dX11_text_31 ?_
    refine g_iconst (v := (1 : Int32)) hF rfl dX11_text_34 ?_
    refine g_icmp_ne (tgt := 47) hF dX11_text_35 (by decide) (fun c56 => ?_) (fun c56 => ?_)
    · replace h := gif_t c56 h
      refine g_aload_n hF 0 rfl rfl dX11_text_47 ?_
      refine g_get_i hF fl_RX11_16 q0 dX11_text_48 ?_
      refine g_iconst (v := (4 : Int32)) hF rfl dX11_text_51 ?_
      refine g_icmp_ge (tgt := 59) hF dX11_text_52 (by decide) (fun c57 => ?_) (fun c57 => ?_)
      · replace h := gif_t c57 h
        refine g_iconst (v := (2 : Int32)) hF rfl dX11_text_59 ?_
        exact gG_sub [0, 1] rfl (t_X11_text_60 hF hn hd hrec hdr (by omega) (by omega) q0 h (fun ad1 x1 y1 => hR ad1 (gExt.tr gExt.rf x1) (gad_call y1 gExt.rf (fun _ _ => rfl))))
      · replace h := gif_f c57 h
        refine g_iconst (v := (1 : Int32)) hF rfl dX11_text_55 ?_
        refine g_goto (tgt := 60) hF dX11_text_56 (by decide) ?_
        exact gG_sub [0, 1] rfl (t_X11_text_60 hF hn hd hrec hdr (by omega) (by omega) q0 h (fun ad1 x1 y1 => hR ad1 (gExt.tr gExt.rf x1) (gad_call y1 gExt.rf (fun _ _ => rfl))))
    · replace h := gif_n c56 h
      refine g_vars hF kn_1407 dX11_text_38 ?_
      refine g_aload_n hF 0 rfl rfl dX11_text_41 ?_
      refine g_get_i hF fl_RX11_20 q0 dX11_text_42 ?_
      obtain ⟨_, h58, h⟩ := gbnd h
      refine g_varL hF (chk_sp h58) dX11_text_45 ?_
      have w58 : ((gi M a0 1)).toNatClampNeg < 4 := Nat.not_le.mp fun q => chk_sp h58 (Or.inr q)
      cases h
      exact g_ret_a hF rfl (Or.inl ⟨_, rfl⟩) dX11_text_46 (hR _ gExt.rf (fun _ _ => rfl)) (by omega) (by omega)
  · replace h := gif_n c55 h
    obtain ⟨x59, h59, h⟩ := gbnd h
    obtain ⟨c59, s59, h, ec59, es59⟩ := cadd_sp h
    have g59 : gnew T M (20, 0) = some (x59.1, x59.2.1, x59.2.2) := h59
    refine g_new hF gC_20 gDf_20 kw_1401 kw_1131 kw_90 g59 (gnew_lt g59) (gFr_r (gT_ne q0) (gFr_i gFr_0)) gFr_0 (by omega) (by omega) dX11_text_7 (fun ad59 z59 => ?_)
    have y59 : ∀ b : Nat, b < T.length → ad59 b = ad b := fun b hb => z59 b (by rw [(gnew_sp g59).1]; omega)
    have X59 := gExt.tr gExt.rf (gnew_ext g59)
    have W59 := gad_call y59 gExt.rf (fun _ _ => rfl)
    have q_60 := (gnew_ext g59) _ _ q0
    have q_y59 := gnew_at g59
    refine g_dup hF rfl dX11_text_10 ?_
    obtain ⟨x61, h61, h⟩ := gbnd h
    obtain ⟨c61, s61, h, ec61, es61⟩ := cadd_sp h
    refine g_callI hF my_J4_init_da8c8 kw_1402 kw_1133 rfl gC_20.1 (by decide) q_y59 (c_J4_init_da8c8 (d := d - 1) (by omega) q_y59 (trip h61)) (by omega) (by omega) (by omega) rfl rfl (Nat.le_of_ble_eq_true rfl) dX11_text_11 (g_madeN (gOld_r (gT_lt q_60) (gOld_i gOld_0)) (gOld_r (gT_lt q_y59) gOld_0) (fun ad61 e61 y61 => ?_))
    have X61 := gExt.tr X59 e61
    have W61 := gad_call y61 X59 W59
    have q_62 := e61 _ _ q_60
    have q_63 := e61 _ _ q_y59
    refine g_ldcS (tx := "") (a := gSB + 20) hF (by decide +kernel) (Nat.le_add_right _ _) dX11_text_14 ?_
    obtain ⟨x64, h64, h⟩ := gbnd h
    obtain ⟨c64, s64, h, ec64, es64⟩ := cadd_sp h
    refine g_callV hF my_J4_append_15ec4 kw_1404 kw_1162 kw_1163 gC_20.1 (by decide) q_63 (c_J4_append_15ec4 (d := d - 1) (by omega) q_63 (gStr_c (i := 20) (by decide)) (trip h64)) (by omega) (by omega) (by omega) rfl rfl (Nat.le_of_ble_eq_true rfl) dX11_text_16 (g_madeS (gOld_r (gT_lt q_62) (gOld_i gOld_0)) gOld_0 (fun ad64 e64 y64 => ?_))
    have X64 := gExt.tr X61 e64
    have W64 := gad_call y64 X61 W61
    have q_65 := e64 _ _ q_62
    obtain ⟨_, h66, h⟩ := gbnd h
    obtain ⟨l66, q_66⟩ := gkd_sp h66
    refine g_aload_n hF 0 rfl rfl dX11_text_19 ?_
    refine g_get_i hF fl_RX11_20 q_65 dX11_text_20 ?_
    obtain ⟨x67, h67, h⟩ := gbnd h
    obtain ⟨c67, s67, h, ec67, es67⟩ := cadd_sp h
    refine g_callV hF my_J4_append_bf812 kw_1405 kw_1305 kw_1306 gC_20.1 (by decide) q_66 (c_J4_append_bf812 (d := d - 1) (by omega) q_66 (trip h67)) (by omega) (by omega) (by omega) rfl rfl (Nat.le_of_ble_eq_true rfl) dX11_text_23 (g_madeS (gOld_r (gT_lt q_65) (gOld_i gOld_0)) gOld_0 (fun ad67 e67 y67 => ?_))
    have X67 := gExt.tr X64 e67
    have W67 := gad_call y67 X64 W64
    have q_68 := e67 _ _ q_65
    obtain ⟨_, h69, h⟩ := gbnd h
    obtain ⟨l69, q_69⟩ := gkd_sp h69
    obtain ⟨x70, h70, h⟩ := gbnd h
    obtain ⟨c70, s70, h, ec70, es70⟩ := cadd_sp h
    refine g_callV hF my_J4_toString_0e30d kw_1406 kw_1266 kw_1267 gC_20.1 (by decide) q_69 (c_J4_toString_0e30d (d := d - 1) (by omega) q_69 (trip h70)) (by omega) (by omega) (by omega) rfl rfl (Nat.le_of_ble_eq_true rfl) dX11_text_26 (g_madeS (gOld_r (gT_lt q_68) (gOld_i gOld_0)) gOld_0 (fun ad70 e70 y70 => ?_))
    have X70 := gExt.tr X67 e70
    have W70 := gad_call y70 X67 W67
    have q_71 := e70 _ _ q_68
    obtain ⟨_, h72, h⟩ := gbnd h
    have q_72 := gks_sp h72
    cases h
    exact g_ret_a hF rfl (Or.inl ⟨_, rfl⟩) dX11_text_29 (hR ad70 X70 W70) (by omega) (by omega)
theorem c_X11_text {d : Nat} {T : gT} {M : gM} {c9 s9 : Nat} {rec : gRecT_X11_text} {dr : Nat} {m_a0 : Nat} {a0 : Nat} {i1 : Int32} {o : Nat × gT × gM} (hd : 7 ≤ d) (hrec : gRecOk_X11_text dr rec) (hdr : dr + 1 ≤ d) (q0 : T[a0]? = some (17, m_a0)) (h : f_X11_text rec T M a0 i1 = some (o, c9, s9)) : gRet d yX11_text cX11_text 4 (some (.object RJ0)) c9 s9 [.ref a0, .int i1] T M (gMade T (some (.ref o.1)) o.2.1 o.2.2) := by
  refine gRet_of (own := RX11) (by decide) rfl (Nat.le_of_ble_eq_true rfl) (fun Z ad0 hn h0 hF => ?_)
  exact t_X11_text (ce := 0) (so := 0) hF hn hd hrec hdr (by omega) (by omega) q0 h (fun ad1 x1 y1 => ⟨rfl, rfl, rfl, x1, y1⟩)
theorem gRecAll_X11_text : ∀ n : Nat, gRecOk_X11_text (7 + n) (g_X11_text n)
  | 0 => fun _ _ h => nomatch h
  | n + 1 => fun hd q0 h => c_X11_text (by omega) (gRecAll_X11_text n) (by omega) q0 h
theorem c_X11_text_c {d : Nat} {T : gT} {M : gM} {c9 s9 : Nat} {m_a0 : Nat} {a0 : Nat} {i1 : Int32} {o : Nat × gT × gM} (hd : 13 ≤ d) (q0 : T[a0]? = some (17, m_a0)) (h : f_X11_text_c T M a0 i1 = some (o, c9, s9)) : gRet d yX11_text cX11_text 4 (some (.object RJ0)) c9 s9 [.ref a0, .int i1] T M (gMade T (some (.ref o.1)) o.2.1 o.2.2) := gRecAll_X11_text 6 (by omega) q0 h
theorem t_X12_init {Z : gZ} {d mc ms : Nat} {Acc : Option Value → (Nat → Nat) → gT → gM → Prop} {AccX : Nat → (Nat → Nat) → gT → gM → Prop} {ad : Nat → Nat} {T : gT} {M : gM} {ce so : Nat} {m_a0 : Nat} {a0 : Nat} {i1 : Int32} {o : gM} (hF : gFix Z cX12_init RX12 "<init>" none d mc ms Acc AccX) (hn : Z.2.2.2.2.2.1 = 2) (hd : 1 ≤ d) (hk1 : ce ≤ mc) (hk2 : so ≤ ms) (q0 : T[a0]? = some (18, m_a0)) (h : f_X12_init T M a0 i1 = some o) (hR : Acc (none) ad T o) : gG Z ad T M ce so 0 [(0, .ref a0), (1, .int i1)] [] := by
  unfold f_X12_init at h
  refine g_aload_n hF 0 rfl rfl dX12_init_0 ?_
  refine g_obj hF kw_631 kw_102 kw_103 (by omega) (Nat.le_of_ble_eq_true rfl) dX12_init_1 ?_
  refine g_aload_n hF 0 rfl rfl dX12_init_4 ?_
  refine g_iload_n hF 1 rfl rfl dX12_init_5 ?_
  refine g_put_i hF rfl rfl fl_RX12_7 q0 dX12_init_6 ?_
  obtain rfl := Option.some.inj h
  exact g_ret_v hF rfl dX12_init_9 hR (by omega) (by omega)
theorem c_X12_init {d : Nat} {T : gT} {M : gM} {m_a0 : Nat} {a0 : Nat} {i1 : Int32} {o : gM} (hd : 1 ≤ d) (q0 : T[a0]? = some (18, m_a0)) (h : f_X12_init T M a0 i1 = some o) : gRet d yX12_init cX12_init 2 none 0 0 [.ref a0, .int i1] T M (gSame T (none) o) := by
  refine gRet_of (own := RX12) (by decide) rfl (Nat.le_of_ble_eq_true rfl) (fun Z ad0 hn h0 hF => ?_)
  exact t_X12_init (ce := 0) (so := 0) hF hn hd (Nat.le_refl _) (Nat.le_refl _) q0 h ⟨rfl, rfl, rfl, rfl⟩
theorem t_L_flush_B22 {Z : gZ} {d mc ms : Nat} {Acc : Option Value → (Nat → Nat) → gT → gM → Prop} {AccX : Nat → (Nat → Nat) → gT → gM → Prop} {ad : Nat → Nat} {T : gT} {M : gM} {ce so : Nat} {m_a1 : Nat} {a1 : Nat} {i2 : Int32} {o : (gM) ⊕ (Int32 × gM)} (hF : gFix Z cL_flush RL "flush" none d mc ms Acc AccX) (hn : Z.2.2.2.2.2.1 = 3) (hd : 3 ≤ d) (hk1 : ce ≤ mc) (hk2 : so ≤ ms) (q1 : T[a1]? = some (11, m_a1)) (h : f_L_flush_B22 T M a1 i2 = some o) (hE : ∀ e9, o = .inl e9 → gG Z ad T e9 ce so 38 [] []) (hN : ∀ n9, o = .inr n9 → gG Z ad T n9.2 ce so 22 [(1, .ref a1), (2, .int n9.1)] []) : gG Z ad T M ce so 22 [(1, .ref a1), (2, .int i2)] [] := by
  unfold f_L_flush_B22 at h
  refine g_iload_n hF 1 rfl rfl dL_flush_22 ?_
  refine g_bipush (v := (6 : Int32)) hF rfl dL_flush_23 ?_
  refine g_icmp_ge (tgt := 38) hF dL_flush_25 (by decide) (fun c1 => ?_) (fun c1 => ?_)
  · replace h := gif_t c1 h
    exact gG_sub [] rfl (hE _ (Option.some.inj h).symm)
  · replace h := gif_f c1 h
    refine g_aload_n hF 0 rfl rfl dL_flush_28 ?_
    refine g_iload_n hF 1 rfl rfl dL_flush_29 ?_
    refine g_iconst (v := (0 : Int32)) hF rfl dL_flush_30 ?_
    obtain ⟨M2, h2, h⟩ := gbnd h
    obtain ⟨i2h, e2v⟩ := ast_sp q1 h2
    refine g_iast hF q1 i2h dL_flush_31 ?_
    rw [← e2v]
    refine g_iinc (n := 1) (v := (i2 + (1 : Int32))) (ls' := [(2, .int (i2 + (1 : Int32))), (1, .ref a1)]) hF 1 rfl rfl (by rw [hn]; decide) rfl dL_flush_32 ?_
    refine g_goto (tgt := 22) hF dL_flush_35 (by decide) ?_
    exact gG_sub [1, 0] rfl (hN _ (Option.some.inj h).symm)
theorem t_L_flush_L22 {Z : gZ} {d mc ms : Nat} {Acc : Option Value → (Nat → Nat) → gT → gM → Prop} {AccX : Nat → (Nat → Nat) → gT → gM → Prop} {ad : Nat → Nat} {T : gT} {M : gM} {ce so : Nat} {m_a1 : Nat} {a1 : Nat} {i2 : Int32} {o : gM} (hF : gFix Z cL_flush RL "flush" none d mc ms Acc AccX) (hn : Z.2.2.2.2.2.1 = 3) (hd : 3 ≤ d) (hk1 : ce ≤ mc) (hk2 : so ≤ ms) (q1 : T[a1]? = some (11, m_a1)) (h : gloop (fun x => f_L_flush_B22 T x.2 a1 x.1) gFU (i2, M) = some o) (hE : gG Z ad T o ce so 38 [] []) : gG Z ad T M ce so 22 [(1, .ref a1), (2, .int i2)] [] := by
  refine gloop_ind (P := fun x0 : Int32 × gM => gG Z ad T x0.2 ce so 22 [(1, .ref a1), (2, .int x0.1)] []) (e := o) (fun x0 y hy hl hr => ?_) gFU (i2, M) h
  exact t_L_flush_B22 hF hn hd hk1 hk2 q1 hy (fun e9 q9 => by rw [hl _ q9]; exact hE) (fun n9 q9 => hr n9 q9)
theorem t_L_flush {Z : gZ} {d mc ms : Nat} {Acc : Option Value → (Nat → Nat) → gT → gM → Prop} {AccX : Nat → (Nat → Nat) → gT → gM → Prop} {ad : Nat → Nat} {T : gT} {M : gM} {ce so : Nat} {m_a0 m_a1 : Nat} {a0 : Nat} {a1 : Nat} {o : gM} (hF : gFix Z cL_flush RL "flush" none d mc ms Acc AccX) (hn : Z.2.2.2.2.2.1 = 3) (hd : 3 ≤ d) (hk1 : ce ≤ mc) (hk2 : so ≤ ms) (q0 : T[a0]? = some (8, m_a0)) (q1 : T[a1]? = some (11, m_a1)) (h : f_L_flush T M a0 a1 = some o) (hR : Acc (none) ad T o) : gG Z ad T M ce so 0 [(0, .ref a0), (1, .ref a1)] [] := by
  unfold f_L_flush at h
  refine g_aload_n hF 0 rfl rfl dL_flush_0 ?_
  refine g_aload_n hF 1 rfl rfl dL_flush_1 ?_
  refine g_iconst (v := (1 : Int32)) hF rfl dL_flush_2 ?_
  obtain ⟨v3, h3, h⟩ := gbnd h
  obtain ⟨i3h, e3v⟩ := ald_sp q1 h3
  refine g_iald hF q1 i3h dL_flush_3 ?_
  rw [← e3v]
  refine g_aload_n hF 1 rfl rfl dL_flush_4 ?_
  refine g_iconst (v := (2 : Int32)) hF rfl dL_flush_5 ?_
  obtain ⟨v4, h4, h⟩ := gbnd h
  obtain ⟨i4h, e4v⟩ := ald_sp q1 h4
  refine g_iald hF q1 i4h dL_flush_6 ?_
  rw [← e4v]
  refine g_aload_n hF 1 rfl rfl dL_flush_7 ?_
  refine g_iconst (v := (3 : Int32)) hF rfl dL_flush_8 ?_
  obtain ⟨v5, h5, h⟩ := gbnd h
  obtain ⟨i5h, e5v⟩ := ald_sp q1 h5
  refine g_iald hF q1 i5h dL_flush_9 ?_
  rw [← e5v]
  refine g_aload_n hF 1 rfl rfl dL_flush_10 ?_
  refine g_iconst (v := (4 : Int32)) hF rfl dL_flush_11 ?_
  obtain ⟨v6, h6, h⟩ := gbnd h
  obtain ⟨i6h, e6v⟩ := ald_sp q1 h6
  refine g_iald hF q1 i6h dL_flush_12 ?_
  rw [← e6v]
  refine g_aload_n hF 1 rfl rfl dL_flush_13 ?_
  refine g_iconst (v := (5 : Int32)) hF rfl dL_flush_14 ?_
  obtain ⟨v7, h7, h⟩ := gbnd h
  obtain ⟨i7h, e7v⟩ := ald_sp q1 h7
  refine g_iald hF q1 i7h dL_flush_15 ?_
  rw [← e7v]
  obtain ⟨x8, h8, h⟩ := gbnd h
  refine g_callV hF my_X8_append kw_1117 kw_1118 kw_1119 gC_8.1 (by decide) q0 (c_X8_append (d := d - 1) (by omega) q0 h8) (by omega) (by omega) (by omega) rfl rfl (Nat.le_of_ble_eq_true rfl) dL_flush_16 (g_sameS ?_)
  refine g_pop hF rfl dL_flush_19 ?_
  refine g_iconst (v := (1 : Int32)) hF rfl dL_flush_20 ?_
  refine g_istore_n (ls' := [(2, .int (1 : Int32)), (0, .ref a0), (1, .ref a1)]) hF rfl (by rw [hn]; decide) rfl dL_flush_21 ?_
  obtain ⟨x9, h9, h⟩ := gbnd h
  refine gG_sub [2, 0] rfl (t_L_flush_L22 hF hn hd (by omega) (by omega) q1 h9 ?_)
  obtain rfl := Option.some.inj h
  exact g_ret_v hF rfl dL_flush_38 hR (by omega) (by omega)
theorem c_L_flush {d : Nat} {T : gT} {M : gM} {m_a0 m_a1 : Nat} {a0 : Nat} {a1 : Nat} {o : gM} (hd : 3 ≤ d) (q0 : T[a0]? = some (8, m_a0)) (q1 : T[a1]? = some (11, m_a1)) (h : f_L_flush T M a0 a1 = some o) : gRet d yL_flush cL_flush 3 none 0 0 [.ref a0, .ref a1] T M (gSame T (none) o) := by
  refine gRet_of (own := RL) (by decide) rfl (Nat.le_of_ble_eq_true rfl) (fun Z ad0 hn h0 hF => ?_)
  exact t_L_flush (ce := 0) (so := 0) hF hn hd (Nat.le_refl _) (Nat.le_refl _) q0 q1 h ⟨rfl, rfl, rfl, rfl⟩
theorem t_L_put {Z : gZ} {d mc ms : Nat} {Acc : Option Value → (Nat → Nat) → gT → gM → Prop} {AccX : Nat → (Nat → Nat) → gT → gM → Prop} {ad : Nat → Nat} {T : gT} {M : gM} {ce so : Nat} {m_a0 m_a1 : Nat} {a0 : Nat} {a1 : Nat} {i2 : Int32} {o : gM} (hF : gFix Z cL_put RL "put" none d mc ms Acc AccX) (hn : Z.2.2.2.2.2.1 = 3) (hd : 4 ≤ d) (hk1 : ce ≤ mc) (hk2 : so ≤ ms) (q0 : T[a0]? = some (8, m_a0)) (q1 : T[a1]? = some (11, m_a1)) (h : f_L_put T M a0 a1 i2 = some o) (hR : Acc (none) ad T o) : gG Z ad T M ce so 0 [(0, .ref a0), (1, .ref a1), (2, .int i2)] [] := by
  unfold f_L_put at h
  refine g_aload_n hF 1 rfl rfl dL_put_0 ?_
  refine g_iconst (v := (1 : Int32)) hF rfl dL_put_1 ?_
  refine g_aload_n hF 1 rfl rfl dL_put_2 ?_
  refine g_iconst (v := (0 : Int32)) hF rfl dL_put_3 ?_
  obtain ⟨v1, h1, h⟩ := gbnd h
  obtain ⟨i1h, e1v⟩ := ald_sp q1 h1
  refine g_iald hF q1 i1h dL_put_4 ?_
  rw [← e1v]
  refine g_bipush (v := (20 : Int32)) hF rfl dL_put_5 ?_
  refine g_irem hF (by decide) dL_put_7 ?_
  refine g_iconst (v := (4 : Int32)) hF rfl dL_put_8 ?_
  refine g_idiv hF (by decide) dL_put_9 ?_
  refine g_iadd hF dL_put_10 ?_
  refine g_dup2 hF rfl rfl dL_put_11 ?_
  obtain ⟨v2, h2, h⟩ := gbnd h
  obtain ⟨i2h, e2v⟩ := ald_sp q1 h2
  refine g_iald hF q1 i2h dL_put_12 ?_
  rw [← e2v]
  refine g_iload_n hF 2 rfl rfl dL_put_13 ?_
  refine g_bipush (v := (24 : Int32)) hF rfl dL_put_14 ?_
  refine g_bipush (v := (8 : Int32)) hF rfl dL_put_16 ?_
  refine g_aload_n hF 1 rfl rfl dL_put_18 ?_
  refine g_iconst (v := (0 : Int32)) hF rfl dL_put_19 ?_
  obtain ⟨v3, h3, h⟩ := gbnd h
  obtain ⟨i3h, e3v⟩ := ald_sp q1 h3
  refine g_iald hF q1 i3h dL_put_20 ?_
  rw [← e3v]
  refine g_iconst (v := (4 : Int32)) hF rfl dL_put_21 ?_
  refine g_irem hF (by decide) dL_put_22 ?_
  refine g_imul hF dL_put_23 ?_
  refine g_isub hF dL_put_24 ?_
  refine g_ishl hF dL_put_25 ?_
  refine g_ior hF dL_put_26 ?_
  obtain ⟨M4, h4, h⟩ := gbnd h
  obtain ⟨i4h, e4v⟩ := ast_sp q1 h4
  refine g_iast hF q1 i4h dL_put_27 ?_
  rw [← e4v]
  refine g_aload_n hF 1 rfl rfl dL_put_28 ?_
  refine g_iconst (v := (0 : Int32)) hF rfl dL_put_29 ?_
  refine g_dup2 hF rfl rfl dL_put_30 ?_
  obtain ⟨v5, h5, h⟩ := gbnd h
  obtain ⟨i5h, e5v⟩ := ald_sp q1 h5
  refine g_iald hF q1 i5h dL_put_31 ?_
  rw [← e5v]
  refine g_iconst (v := (1 : Int32)) hF rfl dL_put_32 ?_
  refine g_iadd hF dL_put_33 ?_
  obtain ⟨M6, h6, h⟩ := gbnd h
  obtain ⟨i6h, e6v⟩ := ast_sp q1 h6
  refine g_iast hF q1 i6h dL_put_34 ?_
  rw [← e6v]
  refine g_aload_n hF 1 rfl rfl dL_put_35 ?_
  refine g_iconst (v := (0 : Int32)) hF rfl dL_put_36 ?_
  obtain ⟨v7, h7, h⟩ := gbnd h
  obtain ⟨i7h, e7v⟩ := ald_sp q1 h7
  refine g_iald hF q1 i7h dL_put_37 ?_
  rw [← e7v]
  refine g_bipush (v := (20 : Int32)) hF rfl dL_put_38 ?_
  refine g_irem hF (by decide) dL_put_40 ?_
  refine g_if_ne (tgt := 49) hF dL_put_41 (by decide) (fun c8 => ?_) (fun c8 => ?_)
  · replace h := gif_t c8 h
    obtain rfl := Option.some.inj h
    exact g_ret_v hF rfl dL_put_49 hR (by omega) (by omega)
  · replace h := gif_n c8 h
    refine g_aload_n hF 0 rfl rfl dL_put_44 ?_
    refine g_aload_n hF 1 rfl rfl dL_put_45 ?_
    obtain ⟨x9, h9, h⟩ := gbnd h
    refine g_callS hF my_L_flush kw_1114 kw_1115 (c_L_flush (d := d - 1) (by omega) q0 q1 h9) (by omega) (by omega) (by omega) rfl rfl (Nat.le_of_ble_eq_true rfl) dL_put_46 (g_sameN ?_)
    obtain rfl := Option.some.inj h
    exact g_ret_v hF rfl dL_put_49 hR (by omega) (by omega)
theorem c_L_put {d : Nat} {T : gT} {M : gM} {m_a0 m_a1 : Nat} {a0 : Nat} {a1 : Nat} {i2 : Int32} {o : gM} (hd : 4 ≤ d) (q0 : T[a0]? = some (8, m_a0)) (q1 : T[a1]? = some (11, m_a1)) (h : f_L_put T M a0 a1 i2 = some o) : gRet d yL_put cL_put 3 none 0 0 [.ref a0, .ref a1, .int i2] T M (gSame T (none) o) := by
  refine gRet_of (own := RL) (by decide) rfl (Nat.le_of_ble_eq_true rfl) (fun Z ad0 hn h0 hF => ?_)
  exact t_L_put (ce := 0) (so := 0) hF hn hd (Nat.le_refl _) (Nat.le_refl _) q0 q1 h ⟨rfl, rfl, rfl, rfl⟩
theorem t_L_loadText_16 {Z : gZ} {d mc ms : Nat} {Acc : Option Value → (Nat → Nat) → gT → gM → Prop} {AccX : Nat → (Nat → Nat) → gT → gM → Prop} {ad : Nat → Nat} {T : gT} {M : gM} {ce so c9 s9 : Nat} {m_a0 m_a1 : Nat} {a0 : Nat} {a1 : Nat} {i2 : Int32} {o : Int32 × gT × gM} (hF : gFix Z cL_loadText RL "loadText" (some .int) d mc ms Acc AccX) (hn : Z.2.2.2.2.2.1 = 3) (hd : 58 ≤ d) (hk1 : ce + c9 ≤ mc) (hk2 : so + s9 ≤ ms) (q0 : T[a0]? = some (8, m_a0)) (q1 : T[a1]? = some (11, m_a1)) (h : f_L_loadText_16 T M a0 a1 i2 = some (o, c9, s9)) (hR : ∀ ad1 : Nat → Nat, gExt T o.2.1 → (∀ a : Nat, a < T.length → ad1 a = ad a) → Acc (some (.int o.1)) ad1 o.2.1 o.2.2) : gG Z ad T M ce so 16 [(0, .ref a0), (1, .ref a1), (2, .int i2)] [] := by
  unfold f_L_loadText_16 at h
  refine g_aload_n hF 1 rfl rfl dL_loadText_16 ?_
  refine g_iconst (v := (0 : Int32)) hF rfl dL_loadText_17 ?_
  refine g_iconst (v := (0 : Int32)) hF rfl dL_loadText_18 ?_
  obtain ⟨M1, h1, h⟩ := gbnd h
  obtain ⟨i1h, e1v⟩ := ast_sp q1 h1
  refine g_iast hF q1 i1h dL_loadText_19 ?_
  rw [← e1v]
  refine g_aload_n hF 0 rfl rfl dL_loadText_20 ?_
  refine g_iload_n hF 2 rfl rfl dL_loadText_21 ?_
  obtain ⟨x2, h2, h⟩ := gbnd h
  obtain ⟨c2, s2, h, ec2, es2⟩ := cadd_sp h
  refine g_callSW hF (n := 2) kw_643 kw_64 rfl (by decide +kernel) (by decide +kernel) (by decide) kw_641 kw_642 (c_L_load (d := d - 1) (by omega) q0 h2) (by omega) (by omega) (by omega) rfl rfl (Nat.le_of_ble_eq_true rfl) dL_loadText_22 (g_madeS (gOld_r (gT_lt q0) (gOld_r (gT_lt q1) (gOld_i gOld_0))) gOld_0 (fun ad2 e2 y2 => ?_))
  have X2 := gExt.tr gExt.rf e2
  have W2 := gad_call y2 gExt.rf (fun _ _ => rfl)
  have q_3 := e2 _ _ q0
  have q_4 := e2 _ _ q1
  cases h
  exact g_ret_i hF rfl rfl dL_loadText_25 (hR ad2 X2 W2) (by omega) (by omega)
theorem t_L_loadText {Z : gZ} {d mc ms : Nat} {Acc : Option Value → (Nat → Nat) → gT → gM → Prop} {AccX : Nat → (Nat → Nat) → gT → gM → Prop} {ad : Nat → Nat} {T : gT} {M : gM} {ce so c9 s9 : Nat} {m_a0 m_a1 : Nat} {a0 : Nat} {a1 : Nat} {o : Int32 × gT × gM} (hF : gFix Z cL_loadText RL "loadText" (some .int) d mc ms Acc AccX) (hn : Z.2.2.2.2.2.1 = 3) (hd : 58 ≤ d) (hk1 : ce + c9 ≤ mc) (hk2 : so + s9 ≤ ms) (q0 : T[a0]? = some (8, m_a0)) (q1 : T[a1]? = some (11, m_a1)) (h : f_L_loadText T M a0 a1 = some (o, c9, s9)) (hR : ∀ ad1 : Nat → Nat, gExt T o.2.1 → (∀ a : Nat, a < T.length → ad1 a = ad a) → Acc (some (.int o.1)) ad1 o.2.1 o.2.2) : gG Z ad T M ce so 0 [(0, .ref a0), (1, .ref a1)] [] := by
  unfold f_L_loadText at h
  refine g_aload_n hF 1 rfl rfl dL_loadText_0 ?_
  refine g_iconst (v := (0 : Int32)) hF rfl dL_loadText_1 ?_
  obtain ⟨v5, h5, h⟩ := gbnd h
  obtain ⟨i5h, e5v⟩ := ald_sp q1 h5
  refine g_iald hF q1 i5h dL_loadText_2 ?_
  rw [← e5v]
  refine g_istore_n (ls' := [(2, .int v5), (0, .ref a0), (1, .ref a1)]) hF rfl (by rw [hn]; decide) rfl dL_loadText_3 ?_
  refine g_iload_n hF 0 rfl rfl dL_loadText_4 ?_
  refine g_bipush (v := (20 : Int32)) hF rfl dL_loadText_5 ?_
  refine g_irem hF (by decide) dL_loadText_7 ?_
  refine g_if_le (tgt := 16) hF dL_loadText_8 (by decide) (fun c6 => ?_) (fun c6 => ?_)
  · replace h := gif_t c6 h
    exact gG_sub [1, 2, 0] rfl (t_L_loadText_16 hF hn hd (by omega) (by omega) q0 q1 h (fun ad1 x1 y1 => hR ad1 (gExt.tr gExt.rf x1) (gad_call y1 gExt.rf (fun _ _ => rfl))))
  · replace h := gif_f c6 h
    refine g_aload_n hF 1 rfl rfl dL_loadText_11 ?_
    refine g_aload_n hF 2 rfl rfl dL_loadText_12 ?_
    obtain ⟨x7, h7, h⟩ := gbnd h
    refine g_callS hF my_L_flush kw_1114 kw_1115 (c_L_flush (d := d - 1) (by omega) q0 q1 h7) (by omega) (by omega) (by omega) rfl rfl (Nat.le_of_ble_eq_true rfl) dL_loadText_13 (g_sameN ?_)
    exact gG_sub [1, 2, 0] rfl (t_L_loadText_16 hF hn hd (by omega) (by omega) q0 q1 h (fun ad1 x1 y1 => hR ad1 (gExt.tr gExt.rf x1) (gad_call y1 gExt.rf (fun _ _ => rfl))))
theorem c_L_loadText {d : Nat} {T : gT} {M : gM} {c9 s9 : Nat} {m_a0 m_a1 : Nat} {a0 : Nat} {a1 : Nat} {o : Int32 × gT × gM} (hd : 58 ≤ d) (q0 : T[a0]? = some (8, m_a0)) (q1 : T[a1]? = some (11, m_a1)) (h : f_L_loadText T M a0 a1 = some (o, c9, s9)) : gRet d yL_loadText cL_loadText 3 (some .int) c9 s9 [.ref a0, .ref a1] T M (gMade T (some (.int o.1)) o.2.1 o.2.2) := by
  refine gRet_of (own := RL) (by decide) rfl (Nat.le_of_ble_eq_true rfl) (fun Z ad0 hn h0 hF => ?_)
  exact t_L_loadText (ce := 0) (so := 0) hF hn hd (by omega) (by omega) q0 q1 h (fun ad1 x1 y1 => ⟨rfl, rfl, rfl, x1, y1⟩)
theorem t_L_write_B2 {Z : gZ} {d mc ms : Nat} {Acc : Option Value → (Nat → Nat) → gT → gM → Prop} {AccX : Nat → (Nat → Nat) → gT → gM → Prop} {ad : Nat → Nat} {T : gT} {M : gM} {ce so : Nat} {m_a0 m_a1 : Nat} {a0 : Nat} {a1 : Nat} {s2 : Nat} {i3 : Int32} {o : (gM) ⊕ (Int32 × gM)} (hF : gFix Z cL_write RL "write" none d mc ms Acc AccX) (hn : Z.2.2.2.2.2.1 = 4) (hd : 5 ≤ d) (hk1 : ce ≤ mc) (hk2 : so ≤ ms) (q0 : T[a0]? = some (8, m_a0)) (q1 : T[a1]? = some (11, m_a1)) (q2 : gStr T s2) (h : f_L_write_B2 T M a0 a1 s2 i3 = some o) (hE : ∀ e9, o = .inl e9 → gG Z ad T e9 ce so 26 [] []) (hN : ∀ n9, o = .inr n9 → gG Z ad T n9.2 ce so 2 [(0, .ref a0), (1, .ref a1), (2, .ref s2), (3, .int n9.1)] []) : gG Z ad T M ce so 2 [(0, .ref a0), (1, .ref a1), (2, .ref s2), (3, .int i3)] [] := by
  unfold f_L_write_B2 at h
  refine g_iload_n hF 3 rfl rfl dL_write_2 ?_
  refine g_aload_n hF 2 rfl rfl dL_write_3 ?_
  obtain ⟨v1, h1, h⟩ := gbnd h
  refine g_callStr hF q2 my_J0_length_8abf5 kw_1109 kw_766 kw_767 (cS_length (d := d - 1) (by omega) q2 h1) (by omega) (by omega) (by omega) rfl rfl (Nat.le_of_ble_eq_true rfl) dL_write_4 (g_sameS ?_)
  refine g_icmp_ge (tgt := 26) hF dL_write_7 (by decide) (fun c2 => ?_) (fun c2 => ?_)
  · replace h := gif_t c2 h
    exact gG_sub [] rfl (hE _ (Option.some.inj h).symm)
  · replace h := gif_f c2 h
    refine g_aload_n hF 0 rfl rfl dL_write_10 ?_
    refine g_aload_n hF 1 rfl rfl dL_write_11 ?_
    refine g_aload_n hF 2 rfl rfl dL_write_12 ?_
    refine g_iload_n hF 3 rfl rfl dL_write_13 ?_
    obtain ⟨v3, h3, h⟩ := gbnd h
    refine g_callStr hF q2 my_J0_charAt_5068e kw_1110 kw_776 kw_777 (cS_charAt (d := d - 1) (by omega) q2 h3) (by omega) (by omega) (by omega) rfl rfl (Nat.le_of_ble_eq_true rfl) dL_write_14 (g_sameS ?_)
    obtain ⟨x4, h4, h⟩ := gbnd h
    refine g_callS hF my_L_put kw_1111 kw_1112 (c_L_put (d := d - 1) (by omega) q0 q1 h4) (by omega) (by omega) (by omega) rfl rfl (Nat.le_of_ble_eq_true rfl) dL_write_17 (g_sameN ?_)
    refine g_iinc (n := 1) (v := (i3 + (1 : Int32))) (ls' := [(3, .int (i3 + (1 : Int32))), (0, .ref a0), (1, .ref a1), (2, .ref s2)]) hF 3 rfl rfl (by rw [hn]; decide) rfl dL_write_20 ?_
    refine g_goto (tgt := 2) hF dL_write_23 (by decide) ?_
    exact gG_sub [1, 2, 3, 0] rfl (hN _ (Option.some.inj h).symm)
