theorem t_L_agrees_232 {Z : gZ} {d mc ms : Nat} {Acc : Option Value → (Nat → Nat) → gT → gM → Prop} {AccX : Nat → (Nat → Nat) → gT → gM → Prop} {ad : Nat → Nat} {T : gT} {M : gM} {ce so c9 s9 : Nat}  {k0 : Int32} {o : Int32 × gT × gM} (hF : gFix Z cL_agrees RL "agrees" (some .boolean) d mc ms Acc AccX) (hn : Z.2.2.2.2.2.1 = 6) (hd : 14 ≤ d) (hk1 : ce + c9 ≤ mc) (hk2 : so + s9 ≤ ms)  (h : f_L_agrees_232 T M k0 = some (o, c9, s9)) (hR : ∀ ad1 : Nat → Nat, gExt T o.2.1 → (∀ a : Nat, a < T.length → ad1 a = ad a) → Acc (some (.int o.1)) ad1 o.2.1 o.2.2) : gG Z ad T M ce so 232 [] [.int k0] := by
  unfold f_L_agrees_232 at h
  obtain ⟨_, h49, h⟩ := gbnd h
  cases h
  exact g_ret_i hF rfl (gbool (chk_sp h49)) dL_agrees_232 (hR _ gExt.rf (fun _ _ => rfl)) (by omega) (by omega)
theorem t_L_agrees_231 {Z : gZ} {d mc ms : Nat} {Acc : Option Value → (Nat → Nat) → gT → gM → Prop} {AccX : Nat → (Nat → Nat) → gT → gM → Prop} {ad : Nat → Nat} {T : gT} {M : gM} {ce so c9 s9 : Nat}  {o : Int32 × gT × gM} (hF : gFix Z cL_agrees RL "agrees" (some .boolean) d mc ms Acc AccX) (hn : Z.2.2.2.2.2.1 = 6) (hd : 14 ≤ d) (hk1 : ce + c9 ≤ mc) (hk2 : so + s9 ≤ ms)  (h : f_L_agrees_231 T M  = some (o, c9, s9)) (hR : ∀ ad1 : Nat → Nat, gExt T o.2.1 → (∀ a : Nat, a < T.length → ad1 a = ad a) → Acc (some (.int o.1)) ad1 o.2.1 o.2.2) : gG Z ad T M ce so 231 [] [] := by
  unfold f_L_agrees_231 at h
  refine g_iconst (v := (0 : Int32)) hF rfl dL_agrees_231 ?_
  exact gG_sub [] rfl (t_L_agrees_232 hF hn hd (by omega) (by omega)  h (fun ad1 x1 y1 => hR ad1 (gExt.tr gExt.rf x1) (gad_call y1 gExt.rf (fun _ _ => rfl))))
theorem t_L_agrees_51 {Z : gZ} {d mc ms : Nat} {Acc : Option Value → (Nat → Nat) → gT → gM → Prop} {AccX : Nat → (Nat → Nat) → gT → gM → Prop} {ad : Nat → Nat} {T : gT} {M : gM} {ce so c9 s9 : Nat} {m_a0 m_a1 : Nat} {a0 : Nat} {a1 : Nat} {k0 : Int32} {o : Int32 × gT × gM} (hF : gFix Z cL_agrees RL "agrees" (some .boolean) d mc ms Acc AccX) (hn : Z.2.2.2.2.2.1 = 6) (hd : 14 ≤ d) (hk1 : ce + c9 ≤ mc) (hk2 : so + s9 ≤ ms) (q0 : T[a0]? = some (8, m_a0)) (q1 : T[a1]? = some (16, m_a1)) (h : f_L_agrees_51 T M a0 a1 k0 = some (o, c9, s9)) (hR : ∀ ad1 : Nat → Nat, gExt T o.2.1 → (∀ a : Nat, a < T.length → ad1 a = ad a) → Acc (some (.int o.1)) ad1 o.2.1 o.2.2) : gG Z ad T M ce so 51 [(0, .ref a0), (1, .ref a1)] [.int k0] := by
  unfold f_L_agrees_51 at h
  refine g_istore_n (ls' := [(2, .int k0), (0, .ref a0), (1, .ref a1)]) hF rfl (by rw [hn]; decide) rfl dL_agrees_51 ?_
  refine g_aload_n hF 2 rfl rfl dL_agrees_52 ?_
  obtain ⟨x50, h50, h⟩ := gbnd h
  obtain ⟨c50, s50, h, ec50, es50⟩ := cadd_sp h
  refine g_callV hF my_X10_bindings kw_611 kw_612 kw_613 gC_16.1 (by decide) q1 (c_X10_bindings (d := d - 1) (by omega) q1 (trip h50)) (by omega) (by omega) (by omega) rfl rfl (Nat.le_of_ble_eq_true rfl) dL_agrees_53 (g_madeS (gOld_i (gOld_r (gT_lt q0) (gOld_r (gT_lt q1) gOld_0))) gOld_0 (fun ad50 e50 y50 => ?_))
  have X50 := gExt.tr gExt.rf e50
  have W50 := gad_call y50 gExt.rf (fun _ _ => rfl)
  have q_51 := e50 _ _ q0
  have q_52 := e50 _ _ q1
  obtain ⟨_, h53, h⟩ := gbnd h
  obtain ⟨l53, q_53⟩ := gkd_sp h53
  refine g_astore_n (ls' := [(3, .ref x50.1.1), (2, .int k0), (0, .ref a0), (1, .ref a1)]) hF rfl (by rw [hn]; decide) rfl dL_agrees_56 ?_
  refine g_iconst (v := (0 : Int32)) hF rfl dL_agrees_57 ?_
  refine g_istore (ls' := [(4, .int (0 : Int32)), (3, .ref x50.1.1), (2, .int k0), (0, .ref a0), (1, .ref a1)]) hF (by rw [hn]; decide) rfl dL_agrees_58 ?_
  obtain ⟨x54, h54, h⟩ := gbnd h
  obtain ⟨c54, s54, h, ec54, es54⟩ := cadd_sp h
  refine gG_sub [3, 4, 2, 1, 0] rfl (t_L_agrees_L60 (K := c54) (KS := s54) hF hn hd gFU (trip h54) (by omega) (by omega) (fun e54 adE54 ceE54 soE54 qE54 xE54 yE54 kE54 kS54 => ?_))
  subst qE54
  have X54 := gExt.tr X50 xE54
  have W54 := gad_call yE54 X50 W50
  have q_55 := xE54 _ _ q_53
  have q_56 := xE54 _ _ q_51
  have q_57 := xE54 _ _ q_52
  refine g_iload_n hF 2 rfl rfl dL_agrees_195 ?_
  refine g_if_eq (tgt := 231) hF dL_agrees_196 (by decide) (fun c58 => ?_) (fun c58 => ?_)
  · replace h := gif_t c58 h
    exact gG_sub [] rfl (t_L_agrees_231 hF hn hd (by omega) (by omega)  h (fun ad1 x1 y1 => hR ad1 (gExt.tr X54 x1) (gad_call y1 X54 W54)))
  · replace h := gif_f c58 h
    refine g_aload_n hF 0 rfl rfl dL_agrees_199 ?_
    refine g_aload_n hF 1 rfl rfl dL_agrees_200 ?_
    obtain ⟨b59, h59, h⟩ := gbnd h
    obtain ⟨g59, l59, q_b59⟩ := ldr_sp h59
    refine g_get_r hF g59 fl_RL_161 q_57 dL_agrees_201 ?_
    refine g_alenA hF q_b59 (by decide) dL_agrees_204 ?_
    refine g_iconst (v := (0 : Int32)) hF rfl dL_agrees_205 ?_
    obtain ⟨x60, h60, h⟩ := gbnd h
    obtain ⟨c60, s60, h, ec60, es60⟩ := cadd_sp h
    refine g_callSW hF (n := 3) kw_1468 kw_64 rfl (by decide +kernel) (by decide +kernel) (by decide) kw_1466 kw_1467 (c_L_library (d := d - 1) (by omega) q_56 h60) (by omega) (by omega) (by omega) rfl rfl (Nat.le_of_ble_eq_true rfl) dL_agrees_206 (g_sameS ?_)
    refine g_ldc (v := (-2000000097 : Int32)) hF kw_971 dL_agrees_209 ?_
    refine g_icmp_ne (tgt := 231) hF dL_agrees_211 (by decide) (fun c61 => ?_) (fun c61 => ?_)
    · replace h := gif_t c61 h
      exact gG_sub [] rfl (t_L_agrees_231 hF hn hd (by omega) (by omega)  h (fun ad1 x1 y1 => hR ad1 (gExt.tr X54 x1) (gad_call y1 X54 W54)))
    · replace h := gif_n c61 h
      refine g_aload_n hF 0 rfl rfl dL_agrees_214 ?_
      refine g_aload_n hF 1 rfl rfl dL_agrees_215 ?_
      refine g_get_i hF fl_RL_141 q_57 dL_agrees_216 ?_
      obtain ⟨x62, h62, h⟩ := gbnd h
      obtain ⟨c62, s62, h, ec62, es62⟩ := cadd_sp h
      refine g_callSW hF (n := 2) kw_1481 kw_64 rfl (by decide +kernel) (by decide +kernel) (by decide) kw_1479 kw_1480 (c_L_winner (d := d - 1) (by omega) q_56 h62) (by omega) (by omega) (by omega) rfl rfl (Nat.le_of_ble_eq_true rfl) dL_agrees_219 (g_sameS ?_)
      refine g_ldc (v := (-2000000097 : Int32)) hF kw_971 dL_agrees_222 ?_
      refine g_icmp_ne (tgt := 231) hF dL_agrees_224 (by decide) (fun c63 => ?_) (fun c63 => ?_)
      · replace h := gif_t c63 h
        exact gG_sub [] rfl (t_L_agrees_231 hF hn hd (by omega) (by omega)  h (fun ad1 x1 y1 => hR ad1 (gExt.tr X54 x1) (gad_call y1 X54 W54)))
      · replace h := gif_n c63 h
        refine g_iconst (v := (1 : Int32)) hF rfl dL_agrees_227 ?_
        refine g_goto (tgt := 232) hF dL_agrees_228 (by decide) ?_
        exact gG_sub [] rfl (t_L_agrees_232 hF hn hd (by omega) (by omega)  h (fun ad1 x1 y1 => hR ad1 (gExt.tr X54 x1) (gad_call y1 X54 W54)))
theorem t_L_agrees_50 {Z : gZ} {d mc ms : Nat} {Acc : Option Value → (Nat → Nat) → gT → gM → Prop} {AccX : Nat → (Nat → Nat) → gT → gM → Prop} {ad : Nat → Nat} {T : gT} {M : gM} {ce so c9 s9 : Nat} {m_a0 m_a1 : Nat} {a0 : Nat} {a1 : Nat} {o : Int32 × gT × gM} (hF : gFix Z cL_agrees RL "agrees" (some .boolean) d mc ms Acc AccX) (hn : Z.2.2.2.2.2.1 = 6) (hd : 14 ≤ d) (hk1 : ce + c9 ≤ mc) (hk2 : so + s9 ≤ ms) (q0 : T[a0]? = some (8, m_a0)) (q1 : T[a1]? = some (16, m_a1)) (h : f_L_agrees_50 T M a0 a1 = some (o, c9, s9)) (hR : ∀ ad1 : Nat → Nat, gExt T o.2.1 → (∀ a : Nat, a < T.length → ad1 a = ad a) → Acc (some (.int o.1)) ad1 o.2.1 o.2.2) : gG Z ad T M ce so 50 [(0, .ref a0), (1, .ref a1)] [] := by
  unfold f_L_agrees_50 at h
  refine g_iconst (v := (0 : Int32)) hF rfl dL_agrees_50 ?_
  exact gG_sub [0, 1] rfl (t_L_agrees_51 hF hn hd (by omega) (by omega) q0 q1 h (fun ad1 x1 y1 => hR ad1 (gExt.tr gExt.rf x1) (gad_call y1 gExt.rf (fun _ _ => rfl))))
theorem t_L_agrees {Z : gZ} {d mc ms : Nat} {Acc : Option Value → (Nat → Nat) → gT → gM → Prop} {AccX : Nat → (Nat → Nat) → gT → gM → Prop} {ad : Nat → Nat} {T : gT} {M : gM} {ce so c9 s9 : Nat} {m_a0 m_a1 : Nat} {a0 : Nat} {a1 : Nat} {o : Int32 × gT × gM} (hF : gFix Z cL_agrees RL "agrees" (some .boolean) d mc ms Acc AccX) (hn : Z.2.2.2.2.2.1 = 6) (hd : 14 ≤ d) (hk1 : ce + c9 ≤ mc) (hk2 : so + s9 ≤ ms) (q0 : T[a0]? = some (8, m_a0)) (q1 : T[a1]? = some (16, m_a1)) (h : f_L_agrees T M a0 a1 = some (o, c9, s9)) (hR : ∀ ad1 : Nat → Nat, gExt T o.2.1 → (∀ a : Nat, a < T.length → ad1 a = ad a) → Acc (some (.int o.1)) ad1 o.2.1 o.2.2) : gG Z ad T M ce so 0 [(0, .ref a0), (1, .ref a1)] [] := by
  unfold f_L_agrees at h
  refine g_aload_n hF 0 rfl rfl dL_agrees_0 ?_
  obtain ⟨x64, h64, h⟩ := gbnd h
  refine g_callV hF my_X8_libraries kw_1422 kw_1423 kw_1424 gC_8.1 (by decide) q0 (c_X8_libraries (d := d - 1) (by omega) q0 h64) (by omega) (by omega) (by omega) rfl rfl (Nat.le_of_ble_eq_true rfl) dL_agrees_1 (g_sameS ?_)
  refine g_aload_n hF 1 rfl rfl dL_agrees_4 ?_
  obtain ⟨b65, h65, h⟩ := gbnd h
  obtain ⟨g65, l65, q_b65⟩ := ldr_sp h65
  refine g_get_r hF g65 fl_RL_161 q1 dL_agrees_5 ?_
  refine g_alenA hF q_b65 (by decide) dL_agrees_8 ?_
  refine g_icmp_ne (tgt := 50) hF dL_agrees_9 (by decide) (fun c66 => ?_) (fun c66 => ?_)
  · replace h := gif_t c66 h
    exact gG_sub [0, 1] rfl (t_L_agrees_50 hF hn hd (by omega) (by omega) q0 q1 h (fun ad1 x1 y1 => hR ad1 (gExt.tr gExt.rf x1) (gad_call y1 gExt.rf (fun _ _ => rfl))))
  · replace h := gif_n c66 h
    refine g_aload_n hF 0 rfl rfl dL_agrees_12 ?_
    obtain ⟨x67, h67, h⟩ := gbnd h
    refine g_callV hF my_X8_names kw_1426 kw_1427 kw_1428 gC_8.1 (by decide) q0 (c_X8_names (d := d - 1) (by omega) q0 h67) (by omega) (by omega) (by omega) rfl rfl (Nat.le_of_ble_eq_true rfl) dL_agrees_13 (g_sameS ?_)
    refine g_aload_n hF 1 rfl rfl dL_agrees_16 ?_
    refine g_get_i hF fl_RL_141 q1 dL_agrees_17 ?_
    refine g_icmp_ne (tgt := 50) hF dL_agrees_20 (by decide) (fun c68 => ?_) (fun c68 => ?_)
    · replace h := gif_t c68 h
      exact gG_sub [0, 1] rfl (t_L_agrees_50 hF hn hd (by omega) (by omega) q0 q1 h (fun ad1 x1 y1 => hR ad1 (gExt.tr gExt.rf x1) (gad_call y1 gExt.rf (fun _ _ => rfl))))
    · replace h := gif_n c68 h
      refine g_aload_n hF 0 rfl rfl dL_agrees_23 ?_
      obtain ⟨x69, h69, h⟩ := gbnd h
      refine g_callV hF my_X8_share kw_378 kw_379 kw_380 gC_8.1 (by decide) q0 (c_X8_share (d := d - 1) (by omega) q0 h69) (by omega) (by omega) (by omega) rfl rfl (Nat.le_of_ble_eq_true rfl) dL_agrees_24 (g_sameS ?_)
      refine g_aload_n hF 1 rfl rfl dL_agrees_27 ?_
      refine g_get_i hF fl_RL_209 q1 dL_agrees_28 ?_
      refine g_icmp_ne (tgt := 50) hF dL_agrees_31 (by decide) (fun c70 => ?_) (fun c70 => ?_)
      · replace h := gif_t c70 h
        exact gG_sub [0, 1] rfl (t_L_agrees_50 hF hn hd (by omega) (by omega) q0 q1 h (fun ad1 x1 y1 => hR ad1 (gExt.tr gExt.rf x1) (gad_call y1 gExt.rf (fun _ _ => rfl))))
      · replace h := gif_n c70 h
        refine g_aload_n hF 0 rfl rfl dL_agrees_34 ?_
        obtain ⟨x71, h71, h⟩ := gbnd h
        refine g_callV hF my_X8_checksum kw_1430 kw_1431 kw_1432 gC_8.1 (by decide) q0 (c_X8_checksum (d := d - 1) (by omega) q0 h71) (by omega) (by omega) (by omega) rfl rfl (Nat.le_of_ble_eq_true rfl) dL_agrees_35 (g_sameS ?_)
        refine g_aload_n hF 1 rfl rfl dL_agrees_38 ?_
        obtain ⟨x72, h72, h⟩ := gbnd h
        obtain ⟨c72, s72, h, ec72, es72⟩ := cadd_sp h
        refine g_callV hF my_X10_sum kw_1451 kw_1452 kw_1453 gC_16.1 (by decide) q1 (c_X10_sum (d := d - 1) (by omega) q1 (trip h72)) (by omega) (by omega) (by omega) rfl rfl (Nat.le_of_ble_eq_true rfl) dL_agrees_39 (g_madeS (gOld_r (gT_lt q0) (gOld_r (gT_lt q1) gOld_0)) (gOld_l gOld_0) (fun ad72 e72 y72 => ?_))
        have X72 := gExt.tr gExt.rf e72
        have W72 := gad_call y72 gExt.rf (fun _ _ => rfl)
        have q_73 := e72 _ _ q0
        have q_74 := e72 _ _ q1
        refine g_lcmp hF dL_agrees_42 ?_
        refine g_if_ne (tgt := 50) hF dL_agrees_43 (by decide) (fun c75 => ?_) (fun c75 => ?_)
        · replace h := gif_t c75 h
          exact gG_sub [0, 1] rfl (t_L_agrees_50 hF hn hd (by omega) (by omega) q_73 q_74 h (fun ad1 x1 y1 => hR ad1 (gExt.tr X72 x1) (gad_call y1 X72 W72)))
        · replace h := gif_n c75 h
          refine g_iconst (v := (1 : Int32)) hF rfl dL_agrees_46 ?_
          refine g_goto (tgt := 51) hF dL_agrees_47 (by decide) ?_
          exact gG_sub [0, 1] rfl (t_L_agrees_51 hF hn hd (by omega) (by omega) q_73 q_74 h (fun ad1 x1 y1 => hR ad1 (gExt.tr X72 x1) (gad_call y1 X72 W72)))
theorem c_L_agrees {d : Nat} {T : gT} {M : gM} {c9 s9 : Nat} {m_a0 m_a1 : Nat} {a0 : Nat} {a1 : Nat} {o : Int32 × gT × gM} (hd : 14 ≤ d) (q0 : T[a0]? = some (8, m_a0)) (q1 : T[a1]? = some (16, m_a1)) (h : f_L_agrees T M a0 a1 = some (o, c9, s9)) : gRet d yL_agrees cL_agrees 6 (some .boolean) c9 s9 [.ref a0, .ref a1] T M (gMade T (some (.int o.1)) o.2.1 o.2.2) := by
  refine gRet_of (own := RL) (by decide) rfl (Nat.le_of_ble_eq_true rfl) (fun Z ad0 hn h0 hF => ?_)
  exact t_L_agrees (ce := 0) (so := 0) hF hn hd (by omega) (by omega) q0 q1 h (fun ad1 x1 y1 => ⟨rfl, rfl, rfl, x1, y1⟩)
theorem t_L_law_1007 {Z : gZ} {d mc ms : Nat} {ad : Nat → Nat} {T : gT} {M : gM} {ce so c9 s9 K KS : Nat} {n : Nat} {f : Nat → Int32} {nm : String} {m_a3 m_a5 m_a6 m_a7 m_a10 m_a11 m_a26 m_a27 : Nat} {i2 : Int32} {a3 : Nat} {a5 : Nat} {a6 : Nat} {a7 : Nat} {i8 : Int32} {i9 : Int32} {a10 : Nat} {a11 : Nat} {i12 : Int32} {i15 : Int32} {a26 : Nat} {a27 : Nat} {i28 : Int32} {i29 : Int32} {o : (Nat × gT × gM) ⊕ (Nat × Int32 × gT × gM)} (hFL : gFixL Z cL_law RL nm (some .boolean) d mc ms (fun v _ _ _ => v = some (.int 1)) (fun _ _ _ _ => False) n f) (hn : Z.2.2.2.2.2.1 = 31) (hd : 60 ≤ d) (hk1 : ce + c9 + K ≤ mc) (hk2 : so + s9 + KS ≤ ms) (q3 : T[a3]? = some (8, m_a3)) (q5 : T[a5]? = some (18, m_a5)) (q6 : T[a6]? = some (16, m_a6)) (q7 : T[a7]? = some (22, m_a7)) (q10 : T[a10]? = some (16, m_a10)) (q11 : T[a11]? = some (15, m_a11)) (q26 : T[a26]? = some (11, m_a26)) (q27 : T[a27]? = some (11, m_a27)) (h : f_L_law_1007 n f T M i2 a3 a5 a6 a7 i8 i9 a10 a11 i12 i15 a26 a27 i28 i29 = some (o, c9, s9)) (hE : ∀ (e9 : Nat × gT × gM) (ad1 : Nat → Nat) (ce1 so1 : Nat), o = .inl e9 → gExt T e9.2.1 → (∀ a : Nat, a < T.length → ad1 a = ad a) → ce1 + K ≤ mc → so1 + KS ≤ ms → gG Z ad1 e9.2.1 e9.2.2 ce1 so1 1013 [(0, .ref (gSB + 3000)), (2, .int i2), (3, .ref a3), (5, .ref a5), (6, .ref a6), (7, .ref a7), (8, .int i8), (9, .int i9), (10, .ref a10), (11, .ref a11), (12, .int i12), (15, .int i15), (26, .ref e9.1)] []) (hN : ∀ (n9 : Nat × Int32 × gT × gM) (ad1 : Nat → Nat) (ce1 so1 : Nat), o = .inr n9 → gExt T n9.2.2.1 → (∀ a : Nat, a < T.length → ad1 a = ad a) → ce1 + K ≤ mc → so1 + KS ≤ ms → gG Z ad1 n9.2.2.1 n9.2.2.2 ce1 so1 977 [(0, .ref (gSB + 3000)), (2, .int i2), (3, .ref a3), (5, .ref a5), (6, .ref a6), (7, .ref a7), (8, .int i8), (9, .int i9), (10, .ref a10), (11, .ref a11), (12, .int i12), (15, .int i15), (26, .ref n9.1), (27, .ref a27), (28, .int i28), (29, .int n9.2.1)] []) : gG Z ad T M ce so 1007 [(0, .ref (gSB + 3000)), (2, .int i2), (3, .ref a3), (5, .ref a5), (6, .ref a6), (7, .ref a7), (8, .int i8), (9, .int i9), (10, .ref a10), (11, .ref a11), (12, .int i12), (15, .int i15), (26, .ref a26), (27, .ref a27), (28, .int i28), (29, .int i29)] [] := by
  have hF := hFL.fix
  unfold f_L_law_1007 at h
  refine g_iinc (n := 1) (v := (i29 + (1 : Int32))) (ls' := [(29, .int (i29 + (1 : Int32))), (0, .ref (gSB + 3000)), (2, .int i2), (3, .ref a3), (5, .ref a5), (6, .ref a6), (7, .ref a7), (8, .int i8), (9, .int i9), (10, .ref a10), (11, .ref a11), (12, .int i12), (15, .int i15), (26, .ref a26), (27, .ref a27), (28, .int i28)]) hF 15 rfl rfl (by rw [hn]; decide) rfl dL_law_1007 ?_
  refine g_goto (tgt := 977) hF dL_law_1010 (by decide) ?_
  cases h
  exact gG_sub [1, 2, 3, 4, 5, 6, 7, 8, 9, 10, 11, 12, 13, 14, 15, 0] rfl (hN _ _ _ _ rfl gExt.rf (fun _ _ => rfl) (by omega) (by omega))
theorem t_L_law_B1138 {Z : gZ} {d mc ms : Nat} {ad : Nat → Nat} {T : gT} {M : gM} {ce so : Nat} {n : Nat} {f : Nat → Int32} {nm : String} {m_a3 m_a5 m_a6 m_a7 m_a10 : Nat} {i1 : Int32} {i2 : Int32} {a3 : Nat} {a5 : Nat} {a6 : Nat} {a7 : Nat} {i8 : Int32} {i9 : Int32} {a10 : Nat} {i20 : Int32} {o : (gM) ⊕ (Int32 × gM)} (hFL : gFixL Z cL_law RL nm (some .boolean) d mc ms (fun v _ _ _ => v = some (.int 1)) (fun _ _ _ _ => False) n f) (hn : Z.2.2.2.2.2.1 = 31) (hd : 60 ≤ d) (hk1 : ce ≤ mc) (hk2 : so ≤ ms) (q3 : T[a3]? = some (8, m_a3)) (q5 : T[a5]? = some (18, m_a5)) (q6 : T[a6]? = some (16, m_a6)) (q7 : T[a7]? = some (22, m_a7)) (q10 : T[a10]? = some (16, m_a10)) (h : f_L_law_B1138 n f T M i1 i2 a3 a5 a6 a7 i8 i9 a10 i20 = some o) (hE : ∀ e9, o = .inl e9 → gG Z ad T e9 ce so 1161 [(0, .ref (gSB + 3000)), (1, .int i1), (2, .int i2), (3, .ref a3), (5, .ref a5), (6, .ref a6), (7, .ref a7), (8, .int i8), (9, .int i9), (10, .ref a10)] []) (hN : ∀ n9, o = .inr n9 → gG Z ad T n9.2 ce so 1138 [(0, .ref (gSB + 3000)), (1, .int i1), (2, .int i2), (3, .ref a3), (5, .ref a5), (6, .ref a6), (7, .ref a7), (8, .int i8), (9, .int i9), (10, .ref a10), (20, .int n9.1)] []) : gG Z ad T M ce so 1138 [(0, .ref (gSB + 3000)), (1, .int i1), (2, .int i2), (3, .ref a3), (5, .ref a5), (6, .ref a6), (7, .ref a7), (8, .int i8), (9, .int i9), (10, .ref a10), (20, .int i20)] [] := by
  have hF := hFL.fix
  unfold f_L_law_B1138 at h
  refine g_iload hF 10 rfl dL_law_1138 ?_
  refine g_if_le (tgt := 1161) hF dL_law_1140 (by decide) (fun c1 => ?_) (fun c1 => ?_)
  · replace h := gif_t c1 h
    exact gG_sub [0, 1, 2, 3, 4, 5, 6, 7, 8, 9] rfl (hE _ (Option.some.inj h).symm)
  · replace h := gif_f c1 h
    refine g_aload hF 6 rfl dL_law_1143 ?_
    refine g_iload hF 10 rfl dL_law_1145 ?_
    refine g_aload hF 6 rfl dL_law_1147 ?_
    refine g_iload hF 10 rfl dL_law_1149 ?_
    refine g_iconst (v := (1 : Int32)) hF rfl dL_law_1151 ?_
    refine g_isub hF dL_law_1152 ?_
    obtain ⟨o2, h2, h⟩ := gbnd h
    obtain ⟨_, z2, h⟩ := gbnd h
    have q_2 := gko_sp z2
    obtain ⟨i2h, e2v⟩ := aldo_sp q7 h2
    refine g_aald_o hF q7 i2h dL_law_1153 ?_
    rw [← e2v]
    obtain ⟨M3, h3, h⟩ := gbnd h
    obtain ⟨i3h, e3v⟩ := astro_sp q7 h3
    refine g_aast_o (o := o2) hF q7 q_2 i3h dL_law_1154 ?_
    rw [← e3v]
    refine g_iinc (n := -1) (v := (i20 + (-1 : Int32))) (ls' := [(20, .int (i20 + (-1 : Int32))), (0, .ref (gSB + 3000)), (1, .int i1), (2, .int i2), (3, .ref a3), (5, .ref a5), (6, .ref a6), (7, .ref a7), (8, .int i8), (9, .int i9), (10, .ref a10)]) hF 10 rfl (congrArg (HAdd.hAdd i20) (by decide)) (by rw [hn]; decide) rfl dL_law_1155 ?_
    refine g_goto (tgt := 1138) hF dL_law_1158 (by decide) ?_
    exact gG_sub [1, 2, 3, 4, 5, 6, 7, 8, 9, 10, 0] rfl (hN _ (Option.some.inj h).symm)
theorem t_L_law_L1138 {Z : gZ} {d mc ms : Nat} {ad : Nat → Nat} {T : gT} {M : gM} {ce so : Nat} {n : Nat} {f : Nat → Int32} {nm : String} {m_a3 m_a5 m_a6 m_a7 m_a10 : Nat} {i1 : Int32} {i2 : Int32} {a3 : Nat} {a5 : Nat} {a6 : Nat} {a7 : Nat} {i8 : Int32} {i9 : Int32} {a10 : Nat} {i20 : Int32} {o : gM} (hFL : gFixL Z cL_law RL nm (some .boolean) d mc ms (fun v _ _ _ => v = some (.int 1)) (fun _ _ _ _ => False) n f) (hn : Z.2.2.2.2.2.1 = 31) (hd : 60 ≤ d) (hk1 : ce ≤ mc) (hk2 : so ≤ ms) (q3 : T[a3]? = some (8, m_a3)) (q5 : T[a5]? = some (18, m_a5)) (q6 : T[a6]? = some (16, m_a6)) (q7 : T[a7]? = some (22, m_a7)) (q10 : T[a10]? = some (16, m_a10)) (h : gloop (fun x => f_L_law_B1138 n f T x.2 i1 i2 a3 a5 a6 a7 i8 i9 a10 x.1) gFU (i20, M) = some o) (hE : gG Z ad T o ce so 1161 [(0, .ref (gSB + 3000)), (1, .int i1), (2, .int i2), (3, .ref a3), (5, .ref a5), (6, .ref a6), (7, .ref a7), (8, .int i8), (9, .int i9), (10, .ref a10)] []) : gG Z ad T M ce so 1138 [(0, .ref (gSB + 3000)), (1, .int i1), (2, .int i2), (3, .ref a3), (5, .ref a5), (6, .ref a6), (7, .ref a7), (8, .int i8), (9, .int i9), (10, .ref a10), (20, .int i20)] [] := by
  refine gloop_ind (P := fun x0 : Int32 × gM => gG Z ad T x0.2 ce so 1138 [(0, .ref (gSB + 3000)), (1, .int i1), (2, .int i2), (3, .ref a3), (5, .ref a5), (6, .ref a6), (7, .ref a7), (8, .int i8), (9, .int i9), (10, .ref a10), (20, .int x0.1)] []) (e := o) (fun x0 y hy hl hr => ?_) gFU (i20, M) h
  exact t_L_law_B1138 hFL hn hd hk1 hk2 q3 q5 q6 q7 q10 hy (fun e9 q9 => by rw [hl _ q9]; exact hE) (fun n9 q9 => hr n9 q9)
theorem t_L_law_B977 {Z : gZ} {d mc ms : Nat} {ad : Nat → Nat} {T : gT} {M : gM} {ce so c9 s9 K KS : Nat} {n : Nat} {f : Nat → Int32} {nm : String}  {i2 : Int32} {a3 : Nat} {a5 : Nat} {a6 : Nat} {a7 : Nat} {i8 : Int32} {i9 : Int32} {a10 : Nat} {a11 : Nat} {i12 : Int32} {i15 : Int32} {a26 : Nat} {a27 : Nat} {i28 : Int32} {i29 : Int32} {o : (Nat × gT × gM) ⊕ (Nat × Int32 × gT × gM)} (hFL : gFixL Z cL_law RL nm (some .boolean) d mc ms (fun v _ _ _ => v = some (.int 1)) (fun _ _ _ _ => False) n f) (hn : Z.2.2.2.2.2.1 = 31) (hd : 60 ≤ d) (hk1 : ce + c9 + K ≤ mc) (hk2 : so + s9 + KS ≤ ms)  (h : f_L_law_B977 n f T M i2 a3 a5 a6 a7 i8 i9 a10 a11 i12 i15 a26 a27 i28 i29 = some (o, c9, s9)) (hE : ∀ (e9 : Nat × gT × gM) (ad1 : Nat → Nat) (ce1 so1 : Nat), o = .inl e9 → gExt T e9.2.1 → (∀ a : Nat, a < T.length → ad1 a = ad a) → ce1 + K ≤ mc → so1 + KS ≤ ms → gG Z ad1 e9.2.1 e9.2.2 ce1 so1 1013 [(0, .ref (gSB + 3000)), (2, .int i2), (3, .ref a3), (5, .ref a5), (6, .ref a6), (7, .ref a7), (8, .int i8), (9, .int i9), (10, .ref a10), (11, .ref a11), (12, .int i12), (15, .int i15), (26, .ref e9.1)] []) (hN : ∀ (n9 : Nat × Int32 × gT × gM) (ad1 : Nat → Nat) (ce1 so1 : Nat), o = .inr n9 → gExt T n9.2.2.1 → (∀ a : Nat, a < T.length → ad1 a = ad a) → ce1 + K ≤ mc → so1 + KS ≤ ms → gG Z ad1 n9.2.2.1 n9.2.2.2 ce1 so1 977 [(0, .ref (gSB + 3000)), (2, .int i2), (3, .ref a3), (5, .ref a5), (6, .ref a6), (7, .ref a7), (8, .int i8), (9, .int i9), (10, .ref a10), (11, .ref a11), (12, .int i12), (15, .int i15), (26, .ref n9.1), (27, .ref a27), (28, .int i28), (29, .int n9.2.1)] []) : gG Z ad T M ce so 977 [(0, .ref (gSB + 3000)), (2, .int i2), (3, .ref a3), (5, .ref a5), (6, .ref a6), (7, .ref a7), (8, .int i8), (9, .int i9), (10, .ref a10), (11, .ref a11), (12, .int i12), (15, .int i15), (26, .ref a26), (27, .ref a27), (28, .int i28), (29, .int i29)] [] := by
  have hF := hFL.fix
  unfold f_L_law_B977 at h
  obtain ⟨_, h6, h⟩ := gbnd h
  obtain ⟨l6, q_6⟩ := gkd_sp h6
  obtain ⟨_, h7, h⟩ := gbnd h
  obtain ⟨l7, q_7⟩ := gkd_sp h7
  obtain ⟨_, h8, h⟩ := gbnd h
  obtain ⟨l8, q_8⟩ := gkd_sp h8
  obtain ⟨_, h9, h⟩ := gbnd h
  obtain ⟨l9, q_9⟩ := gkd_sp h9
  obtain ⟨_, h12, h⟩ := gbnd h
  obtain ⟨l12, q_12⟩ := gkd_sp h12
  obtain ⟨_, h13, h⟩ := gbnd h
  obtain ⟨l13, q_13⟩ := gkd_sp h13
  obtain ⟨_, h16, h⟩ := gbnd h
  obtain ⟨l16, q_16⟩ := gkd_sp h16
  obtain ⟨_, h17, h⟩ := gbnd h
  obtain ⟨l17, q_17⟩ := gkd_sp h17
  refine g_iload hF 15 rfl dL_law_977 ?_
  refine g_iload hF 14 rfl dL_law_979 ?_
  refine g_icmp_ge (tgt := 1013) hF dL_law_981 (by decide) (fun c20 => ?_) (fun c20 => ?_)
  · replace h := gif_t c20 h
    cases h
    exact gG_sub [0, 1, 2, 3, 4, 5, 6, 7, 8, 9, 10, 11, 12] rfl (hE _ _ _ _ rfl gExt.rf (fun _ _ => rfl) (by omega) (by omega))
  · replace h := gif_f c20 h
    refine g_aload hF 13 rfl dL_law_984 ?_
    refine g_iload hF 15 rfl dL_law_986 ?_
    obtain ⟨v21, h21, h⟩ := gbnd h
    obtain ⟨i21h, e21v⟩ := ald_sp q_17 h21
    refine g_iald hF q_17 i21h dL_law_988 ?_
    rw [← e21v]
    refine g_istore (ls' := [(30, .int v21), (0, .ref (gSB + 3000)), (2, .int i2), (3, .ref a3), (5, .ref a5), (6, .ref a6), (7, .ref a7), (8, .int i8), (9, .int i9), (10, .ref a10), (11, .ref a11), (12, .int i12), (15, .int i15), (26, .ref a26), (27, .ref a27), (28, .int i28), (29, .int i29)]) hF (by rw [hn]; decide) rfl dL_law_989 ?_
    refine g_iload hF 0 rfl dL_law_991 ?_
    refine g_iload hF 12 rfl dL_law_993 ?_
    refine g_icmp_eq (tgt := 1007) hF dL_law_995 (by decide) (fun c22 => ?_) (fun c22 => ?_)
    · replace h := gif_t c22 h
      exact gG_sub [1, 2, 3, 4, 5, 6, 7, 8, 9, 10, 11, 12, 13, 14, 15, 16] rfl (t_L_law_1007 hFL hn hd (by omega) (by omega) q_6 q_7 q_8 q_9 q_12 q_13 q_16 q_17 h (fun v9 ad1 ce1 so1 q9 x1 y1 => hE v9 ad1 ce1 so1 q9 (gExt.tr gExt.rf x1) (gad_call y1 gExt.rf (fun _ _ => rfl))) (fun v9 ad1 ce1 so1 q9 x1 y1 => hN v9 ad1 ce1 so1 q9 (gExt.tr gExt.rf x1) (gad_call y1 gExt.rf (fun _ _ => rfl))))
    · replace h := gif_f c22 h
      refine g_aload hF 13 rfl dL_law_998 ?_
      refine g_iload hF 0 rfl dL_law_1000 ?_
      obtain ⟨x23, h23, h⟩ := gbnd h
      obtain ⟨c23, s23, h, ec23, es23⟩ := cadd_sp h
      refine g_callS hF my_L_with kw_1099 kw_1100 (c_L_with (d := d - 1) (by omega) q_16 (trip h23)) (by omega) (by omega) (by omega) rfl rfl (Nat.le_of_ble_eq_true rfl) dL_law_1002 (g_madeS (gOld_i (gOld_s (Nat.le_add_right _ _) (gOld_i (gOld_r (gT_lt q_6) (gOld_r (gT_lt q_7) (gOld_r (gT_lt q_8) (gOld_r (gT_lt q_9) (gOld_i (gOld_i (gOld_r (gT_lt q_12) (gOld_r (gT_lt q_13) (gOld_i (gOld_i (gOld_r (gT_lt q_16) (gOld_r (gT_lt q_17) (gOld_i (gOld_i gOld_0))))))))))))))))) gOld_0 (fun ad23 e23 y23 => ?_))
      have X23 := gExt.tr gExt.rf e23
      have W23 := gad_call y23 gExt.rf (fun _ _ => rfl)
      have q_24 := e23 _ _ q_6
      have q_25 := e23 _ _ q_7
      have q_26 := e23 _ _ q_8
      have q_27 := e23 _ _ q_9
      have q_28 := e23 _ _ q_12
      have q_29 := e23 _ _ q_13
      have q_30 := e23 _ _ q_16
      have q_31 := e23 _ _ q_17
      obtain ⟨_, h32, h⟩ := gbnd h
      obtain ⟨l32, q_32⟩ := gkd_sp h32
      refine g_astore (ls' := [(26, .ref x23.1.1), (30, .int v21), (0, .ref (gSB + 3000)), (2, .int i2), (3, .ref a3), (5, .ref a5), (6, .ref a6), (7, .ref a7), (8, .int i8), (9, .int i9), (10, .ref a10), (11, .ref a11), (12, .int i12), (15, .int i15), (27, .ref a27), (28, .int i28), (29, .int i29)]) hF (by rw [hn]; decide) rfl dL_law_1005 ?_
      exact gG_sub [2, 3, 4, 5, 6, 7, 8, 9, 10, 11, 12, 13, 0, 14, 15, 16] rfl (t_L_law_1007 hFL hn hd (by omega) (by omega) q_24 q_25 q_26 q_27 q_28 q_29 q_32 q_31 h (fun v9 ad1 ce1 so1 q9 x1 y1 => hE v9 ad1 ce1 so1 q9 (gExt.tr X23 x1) (gad_call y1 X23 W23)) (fun v9 ad1 ce1 so1 q9 x1 y1 => hN v9 ad1 ce1 so1 q9 (gExt.tr X23 x1) (gad_call y1 X23 W23)))
theorem t_L_law_L977 {Z : gZ} {d mc ms : Nat} {K KS : Nat} {n : Nat} {f : Nat → Int32} {nm : String} {i2 : Int32} {a3 : Nat} {a5 : Nat} {a6 : Nat} {a7 : Nat} {i8 : Int32} {i9 : Int32} {a10 : Nat} {a11 : Nat} {i12 : Int32} {i15 : Int32} {a27 : Nat} {i28 : Int32} (hFL : gFixL Z cL_law RL nm (some .boolean) d mc ms (fun v _ _ _ => v = some (.int 1)) (fun _ _ _ _ => False) n f) (hn : Z.2.2.2.2.2.1 = 31) (hd : 60 ≤ d) : ∀ (n9 : Nat) {ad : Nat → Nat} {x0 : Nat × Int32 × gT × gM} {e0 : Nat × gT × gM} {ce so c9 s9 : Nat}, gloopc (fun x : Nat × Int32 × gT × gM => f_L_law_B977 n f x.2.2.1 x.2.2.2 i2 a3 a5 a6 a7 i8 i9 a10 a11 i12 i15 x.1 a27 i28 x.2.1) n9 x0 = some (e0, c9, s9) → ce + c9 + K ≤ mc → so + s9 + KS ≤ ms → ∀ (hE : ∀ (e9 : Nat × gT × gM) (ad1 : Nat → Nat) (ce1 so1 : Nat), e0 = e9 → gExt x0.2.2.1 e9.2.1 → (∀ a : Nat, a < x0.2.2.1.length → ad1 a = ad a) → ce1 + K ≤ mc → so1 + KS ≤ ms → gG Z ad1 e9.2.1 e9.2.2 ce1 so1 1013 [(0, .ref (gSB + 3000)), (2, .int i2), (3, .ref a3), (5, .ref a5), (6, .ref a6), (7, .ref a7), (8, .int i8), (9, .int i9), (10, .ref a10), (11, .ref a11), (12, .int i12), (15, .int i15), (26, .ref e9.1)] []), gG Z ad x0.2.2.1 x0.2.2.2 ce so 977 [(0, .ref (gSB + 3000)), (2, .int i2), (3, .ref a3), (5, .ref a5), (6, .ref a6), (7, .ref a7), (8, .int i8), (9, .int i9), (10, .ref a10), (11, .ref a11), (12, .int i12), (15, .int i15), (26, .ref x0.1), (27, .ref a27), (28, .int i28), (29, .int x0.2.1)] []
  | 0 => fun h => nomatch h
  | n9 + 1 => fun h hk1 hk2 hE => by
    rcases gloopc_sp h with hB | ⟨a9, c1, s1, c2, s2, hB, h2, e1, e2⟩
    · exact t_L_law_B977 (K := K) (KS := KS) hFL hn hd hk1 hk2 hB (fun e9 ad1 ce1 so1 q9 => hE e9 ad1 ce1 so1 (Sum.inl.inj q9)) (fun n8 ad1 ce1 so1 q9 => nomatch q9)
    · exact t_L_law_B977 (K := c2 + K) (KS := s2 + KS) hFL hn hd (by omega) (by omega) hB (fun e9 ad1 ce1 so1 q9 => nomatch q9) (fun n8 ad1 ce1 so1 q9 x9 y9 k1 k2 => by rw [← Sum.inr.inj q9] at x9 ⊢; exact t_L_law_L977 (K := K) (KS := KS) hFL hn hd n9 h2 (by omega) (by omega) (fun e9 ad2 ce2 so2 q8 x2 y2 => hE e9 ad2 ce2 so2 q8 (gExt.tr x9 x2) (gad_call y2 x9 y9)))
theorem t_L_law_1240 {Z : gZ} {d mc ms : Nat} {ad : Nat → Nat} {T : gT} {M : gM} {ce so c9 s9 K KS : Nat} {n : Nat} {f : Nat → Int32} {nm : String} {m_a3 m_a7 : Nat} {i2 : Int32} {a3 : Nat} {a7 : Nat} {i8 : Int32} {i9 : Int32} {k0 : Int32} {o : (Int32 × gT × gM) ⊕ (Int32 × Int32 × gT × gM)} (hFL : gFixL Z cL_law RL nm (some .boolean) d mc ms (fun v _ _ _ => v = some (.int 1)) (fun _ _ _ _ => False) n f) (hn : Z.2.2.2.2.2.1 = 31) (hd : 60 ≤ d) (hk1 : ce + c9 + K ≤ mc) (hk2 : so + s9 + KS ≤ ms) (q3 : T[a3]? = some (8, m_a3)) (q7 : T[a7]? = some (22, m_a7)) (h : f_L_law_1240 n f T M i2 a3 a7 i8 i9 k0 = some (o, c9, s9)) (hE : ∀ (e9 : Int32 × gT × gM) (ad1 : Nat → Nat) (ce1 so1 : Nat), o = .inl e9 → gExt T e9.2.1 → (∀ a : Nat, a < T.length → ad1 a = ad a) → ce1 + K ≤ mc → so1 + KS ≤ ms → gG Z ad1 e9.2.1 e9.2.2 ce1 so1 1247 [(0, .ref (gSB + 3000)), (1, .int e9.1), (2, .int i2), (3, .ref a3)] []) (hN : ∀ (n9 : Int32 × Int32 × gT × gM) (ad1 : Nat → Nat) (ce1 so1 : Nat), o = .inr n9 → gExt T n9.2.2.1 → (∀ a : Nat, a < T.length → ad1 a = ad a) → ce1 + K ≤ mc → so1 + KS ≤ ms → gG Z ad1 n9.2.2.1 n9.2.2.2 ce1 so1 1198 [(0, .ref (gSB + 3000)), (1, .int n9.1), (2, .int i2), (3, .ref a3), (7, .ref a7), (8, .int i8), (9, .int n9.2.1)] []) : gG Z ad T M ce so 1240 [(0, .ref (gSB + 3000)), (2, .int i2), (3, .ref a3), (7, .ref a7), (8, .int i8), (9, .int i9)] [.int k0] := by
  have hF := hFL.fix
  unfold f_L_law_1240 at h
  refine g_istore_n (ls' := [(1, .int k0), (0, .ref (gSB + 3000)), (2, .int i2), (3, .ref a3), (7, .ref a7), (8, .int i8), (9, .int i9)]) hF rfl (by rw [hn]; decide) rfl dL_law_1240 ?_
  refine g_iinc (n := 1) (v := (i9 + (1 : Int32))) (ls' := [(9, .int (i9 + (1 : Int32))), (1, .int k0), (0, .ref (gSB + 3000)), (2, .int i2), (3, .ref a3), (7, .ref a7), (8, .int i8)]) hF 6 rfl rfl (by rw [hn]; decide) rfl dL_law_1241 ?_
  refine g_goto (tgt := 1198) hF dL_law_1244 (by decide) ?_
  cases h
  exact gG_sub [2, 1, 3, 4, 5, 6, 0] rfl (hN _ _ _ _ rfl gExt.rf (fun _ _ => rfl) (by omega) (by omega))
theorem t_L_law_1239 {Z : gZ} {d mc ms : Nat} {ad : Nat → Nat} {T : gT} {M : gM} {ce so c9 s9 K KS : Nat} {n : Nat} {f : Nat → Int32} {nm : String} {m_a3 m_a7 : Nat} {i2 : Int32} {a3 : Nat} {a7 : Nat} {i8 : Int32} {i9 : Int32} {o : (Int32 × gT × gM) ⊕ (Int32 × Int32 × gT × gM)} (hFL : gFixL Z cL_law RL nm (some .boolean) d mc ms (fun v _ _ _ => v = some (.int 1)) (fun _ _ _ _ => False) n f) (hn : Z.2.2.2.2.2.1 = 31) (hd : 60 ≤ d) (hk1 : ce + c9 + K ≤ mc) (hk2 : so + s9 + KS ≤ ms) (q3 : T[a3]? = some (8, m_a3)) (q7 : T[a7]? = some (22, m_a7)) (h : f_L_law_1239 n f T M i2 a3 a7 i8 i9 = some (o, c9, s9)) (hE : ∀ (e9 : Int32 × gT × gM) (ad1 : Nat → Nat) (ce1 so1 : Nat), o = .inl e9 → gExt T e9.2.1 → (∀ a : Nat, a < T.length → ad1 a = ad a) → ce1 + K ≤ mc → so1 + KS ≤ ms → gG Z ad1 e9.2.1 e9.2.2 ce1 so1 1247 [(0, .ref (gSB + 3000)), (1, .int e9.1), (2, .int i2), (3, .ref a3)] []) (hN : ∀ (n9 : Int32 × Int32 × gT × gM) (ad1 : Nat → Nat) (ce1 so1 : Nat), o = .inr n9 → gExt T n9.2.2.1 → (∀ a : Nat, a < T.length → ad1 a = ad a) → ce1 + K ≤ mc → so1 + KS ≤ ms → gG Z ad1 n9.2.2.1 n9.2.2.2 ce1 so1 1198 [(0, .ref (gSB + 3000)), (1, .int n9.1), (2, .int i2), (3, .ref a3), (7, .ref a7), (8, .int i8), (9, .int n9.2.1)] []) : gG Z ad T M ce so 1239 [(0, .ref (gSB + 3000)), (2, .int i2), (3, .ref a3), (7, .ref a7), (8, .int i8), (9, .int i9)] [] := by
  have hF := hFL.fix
  unfold f_L_law_1239 at h
  refine g_iconst (v := (0 : Int32)) hF rfl dL_law_1239 ?_
  exact gG_sub [0, 1, 2, 3, 4, 5] rfl (t_L_law_1240 hFL hn hd (by omega) (by omega) q3 q7 h (fun v9 ad1 ce1 so1 q9 x1 y1 => hE v9 ad1 ce1 so1 q9 (gExt.tr gExt.rf x1) (gad_call y1 gExt.rf (fun _ _ => rfl))) (fun v9 ad1 ce1 so1 q9 x1 y1 => hN v9 ad1 ce1 so1 q9 (gExt.tr gExt.rf x1) (gad_call y1 gExt.rf (fun _ _ => rfl))))
theorem t_L_law_1188 {Z : gZ} {d mc ms : Nat} {ad : Nat → Nat} {T : gT} {M : gM} {ce so c9 s9 K KS : Nat} {n : Nat} {f : Nat → Int32} {nm : String} {m_a3 m_a5 m_a6 m_a7 : Nat} {i2 : Int32} {a3 : Nat} {a5 : Nat} {a6 : Nat} {a7 : Nat} {i8 : Int32} {i9 : Int32} {k0 : Int32} {o : (Int32 × Int32 × gT × gM) ⊕ (Int32 × Int32 × Int32 × gT × gM)} (hFL : gFixL Z cL_law RL nm (some .boolean) d mc ms (fun v _ _ _ => v = some (.int 1)) (fun _ _ _ _ => False) n f) (hn : Z.2.2.2.2.2.1 = 31) (hd : 60 ≤ d) (hk1 : ce + c9 + K ≤ mc) (hk2 : so + s9 + KS ≤ ms) (q3 : T[a3]? = some (8, m_a3)) (q5 : T[a5]? = some (18, m_a5)) (q6 : T[a6]? = some (16, m_a6)) (q7 : T[a7]? = some (22, m_a7)) (h : f_L_law_1188 n f T M i2 a3 a5 a6 a7 i8 i9 k0 = some (o, c9, s9)) (hE : ∀ (e9 : Int32 × Int32 × gT × gM) (ad1 : Nat → Nat) (ce1 so1 : Nat), o = .inl e9 → gExt T e9.2.2.1 → (∀ a : Nat, a < T.length → ad1 a = ad a) → ce1 + K ≤ mc → so1 + KS ≤ ms → gG Z ad1 e9.2.2.1 e9.2.2.2 ce1 so1 1195 [(0, .ref (gSB + 3000)), (1, .int e9.1), (2, .int i2), (3, .ref a3), (7, .ref a7), (8, .int e9.2.1)] []) (hN : ∀ (n9 : Int32 × Int32 × Int32 × gT × gM) (ad1 : Nat → Nat) (ce1 so1 : Nat), o = .inr n9 → gExt T n9.2.2.2.1 → (∀ a : Nat, a < T.length → ad1 a = ad a) → ce1 + K ≤ mc → so1 + KS ≤ ms → gG Z ad1 n9.2.2.2.1 n9.2.2.2.2 ce1 so1 192 [(0, .ref (gSB + 3000)), (1, .int n9.1), (2, .int i2), (3, .ref a3), (5, .ref a5), (6, .ref a6), (7, .ref a7), (8, .int n9.2.1), (9, .int n9.2.2.1)] []) : gG Z ad T M ce so 1188 [(0, .ref (gSB + 3000)), (2, .int i2), (3, .ref a3), (5, .ref a5), (6, .ref a6), (7, .ref a7), (8, .int i8), (9, .int i9)] [.int k0] := by
  have hF := hFL.fix
  unfold f_L_law_1188 at h
  refine g_istore_n (ls' := [(1, .int k0), (0, .ref (gSB + 3000)), (2, .int i2), (3, .ref a3), (5, .ref a5), (6, .ref a6), (7, .ref a7), (8, .int i8), (9, .int i9)]) hF rfl (by rw [hn]; decide) rfl dL_law_1188 ?_
  refine g_iinc (n := 1) (v := (i9 + (1 : Int32))) (ls' := [(9, .int (i9 + (1 : Int32))), (1, .int k0), (0, .ref (gSB + 3000)), (2, .int i2), (3, .ref a3), (5, .ref a5), (6, .ref a6), (7, .ref a7), (8, .int i8)]) hF 8 rfl rfl (by rw [hn]; decide) rfl dL_law_1189 ?_
  refine g_goto (tgt := 192) hF dL_law_1192 (by decide) ?_
  cases h
  exact gG_sub [2, 1, 3, 4, 5, 6, 7, 8, 0] rfl (hN _ _ _ _ rfl gExt.rf (fun _ _ => rfl) (by omega) (by omega))
theorem t_L_law_1187 {Z : gZ} {d mc ms : Nat} {ad : Nat → Nat} {T : gT} {M : gM} {ce so c9 s9 K KS : Nat} {n : Nat} {f : Nat → Int32} {nm : String} {m_a3 m_a5 m_a6 m_a7 : Nat} {i2 : Int32} {a3 : Nat} {a5 : Nat} {a6 : Nat} {a7 : Nat} {i8 : Int32} {i9 : Int32} {o : (Int32 × Int32 × gT × gM) ⊕ (Int32 × Int32 × Int32 × gT × gM)} (hFL : gFixL Z cL_law RL nm (some .boolean) d mc ms (fun v _ _ _ => v = some (.int 1)) (fun _ _ _ _ => False) n f) (hn : Z.2.2.2.2.2.1 = 31) (hd : 60 ≤ d) (hk1 : ce + c9 + K ≤ mc) (hk2 : so + s9 + KS ≤ ms) (q3 : T[a3]? = some (8, m_a3)) (q5 : T[a5]? = some (18, m_a5)) (q6 : T[a6]? = some (16, m_a6)) (q7 : T[a7]? = some (22, m_a7)) (h : f_L_law_1187 n f T M i2 a3 a5 a6 a7 i8 i9 = some (o, c9, s9)) (hE : ∀ (e9 : Int32 × Int32 × gT × gM) (ad1 : Nat → Nat) (ce1 so1 : Nat), o = .inl e9 → gExt T e9.2.2.1 → (∀ a : Nat, a < T.length → ad1 a = ad a) → ce1 + K ≤ mc → so1 + KS ≤ ms → gG Z ad1 e9.2.2.1 e9.2.2.2 ce1 so1 1195 [(0, .ref (gSB + 3000)), (1, .int e9.1), (2, .int i2), (3, .ref a3), (7, .ref a7), (8, .int e9.2.1)] []) (hN : ∀ (n9 : Int32 × Int32 × Int32 × gT × gM) (ad1 : Nat → Nat) (ce1 so1 : Nat), o = .inr n9 → gExt T n9.2.2.2.1 → (∀ a : Nat, a < T.length → ad1 a = ad a) → ce1 + K ≤ mc → so1 + KS ≤ ms → gG Z ad1 n9.2.2.2.1 n9.2.2.2.2 ce1 so1 192 [(0, .ref (gSB + 3000)), (1, .int n9.1), (2, .int i2), (3, .ref a3), (5, .ref a5), (6, .ref a6), (7, .ref a7), (8, .int n9.2.1), (9, .int n9.2.2.1)] []) : gG Z ad T M ce so 1187 [(0, .ref (gSB + 3000)), (2, .int i2), (3, .ref a3), (5, .ref a5), (6, .ref a6), (7, .ref a7), (8, .int i8), (9, .int i9)] [] := by
  have hF := hFL.fix
  unfold f_L_law_1187 at h
  refine g_iconst (v := (0 : Int32)) hF rfl dL_law_1187 ?_
  exact gG_sub [0, 1, 2, 3, 4, 5, 6, 7] rfl (t_L_law_1188 hFL hn hd (by omega) (by omega) q3 q5 q6 q7 h (fun v9 ad1 ce1 so1 q9 x1 y1 => hE v9 ad1 ce1 so1 q9 (gExt.tr gExt.rf x1) (gad_call y1 gExt.rf (fun _ _ => rfl))) (fun v9 ad1 ce1 so1 q9 x1 y1 => hN v9 ad1 ce1 so1 q9 (gExt.tr gExt.rf x1) (gad_call y1 gExt.rf (fun _ _ => rfl))))
theorem t_L_law_1170 {Z : gZ} {d mc ms : Nat} {ad : Nat → Nat} {T : gT} {M : gM} {ce so c9 s9 K KS : Nat} {n : Nat} {f : Nat → Int32} {nm : String} {m_a3 m_a5 m_a6 m_a7 : Nat} {i1 : Int32} {i2 : Int32} {a3 : Nat} {a5 : Nat} {a6 : Nat} {a7 : Nat} {i8 : Int32} {i9 : Int32} {o : (Int32 × Int32 × gT × gM) ⊕ (Int32 × Int32 × Int32 × gT × gM)} (hFL : gFixL Z cL_law RL nm (some .boolean) d mc ms (fun v _ _ _ => v = some (.int 1)) (fun _ _ _ _ => False) n f) (hn : Z.2.2.2.2.2.1 = 31) (hd : 60 ≤ d) (hk1 : ce + c9 + K ≤ mc) (hk2 : so + s9 + KS ≤ ms) (q3 : T[a3]? = some (8, m_a3)) (q5 : T[a5]? = some (18, m_a5)) (q6 : T[a6]? = some (16, m_a6)) (q7 : T[a7]? = some (22, m_a7)) (h : f_L_law_1170 n f T M i1 i2 a3 a5 a6 a7 i8 i9 = some (o, c9, s9)) (hE : ∀ (e9 : Int32 × Int32 × gT × gM) (ad1 : Nat → Nat) (ce1 so1 : Nat), o = .inl e9 → gExt T e9.2.2.1 → (∀ a : Nat, a < T.length → ad1 a = ad a) → ce1 + K ≤ mc → so1 + KS ≤ ms → gG Z ad1 e9.2.2.1 e9.2.2.2 ce1 so1 1195 [(0, .ref (gSB + 3000)), (1, .int e9.1), (2, .int i2), (3, .ref a3), (7, .ref a7), (8, .int e9.2.1)] []) (hN : ∀ (n9 : Int32 × Int32 × Int32 × gT × gM) (ad1 : Nat → Nat) (ce1 so1 : Nat), o = .inr n9 → gExt T n9.2.2.2.1 → (∀ a : Nat, a < T.length → ad1 a = ad a) → ce1 + K ≤ mc → so1 + KS ≤ ms → gG Z ad1 n9.2.2.2.1 n9.2.2.2.2 ce1 so1 192 [(0, .ref (gSB + 3000)), (1, .int n9.1), (2, .int i2), (3, .ref a3), (5, .ref a5), (6, .ref a6), (7, .ref a7), (8, .int n9.2.1), (9, .int n9.2.2.1)] []) : gG Z ad T M ce so 1170 [(0, .ref (gSB + 3000)), (1, .int i1), (2, .int i2), (3, .ref a3), (5, .ref a5), (6, .ref a6), (7, .ref a7), (8, .int i8), (9, .int i9)] [] := by
  have hF := hFL.fix
  unfold f_L_law_1170 at h
  refine g_iload_n hF 1 rfl rfl dL_law_1170 ?_
  refine g_if_eq (tgt := 1187) hF dL_law_1171 (by decide) (fun c33 => ?_) (fun c33 => ?_)
  · replace h := gif_t c33 h
    exact gG_sub [0, 2, 3, 4, 5, 6, 7, 8] rfl (t_L_law_1187 hFL hn hd (by omega) (by omega) q3 q5 q6 q7 h (fun v9 ad1 ce1 so1 q9 x1 y1 => hE v9 ad1 ce1 so1 q9 (gExt.tr gExt.rf x1) (gad_call y1 gExt.rf (fun _ _ => rfl))) (fun v9 ad1 ce1 so1 q9 x1 y1 => hN v9 ad1 ce1 so1 q9 (gExt.tr gExt.rf x1) (gad_call y1 gExt.rf (fun _ _ => rfl))))
  · replace h := gif_f c33 h
    refine g_aload_n hF 3 rfl rfl dL_law_1174 ?_
    refine g_aload hF 5 rfl dL_law_1175 ?_
    obtain ⟨x34, h34, h⟩ := gbnd h
    obtain ⟨c34, s34, h, ec34, es34⟩ := cadd_sp h
    refine g_callS hF my_L_agrees kw_1419 kw_1420 (c_L_agrees (d := d - 1) (by omega) q3 q6 (trip h34)) (by omega) (by omega) (by omega) rfl rfl (Nat.le_of_ble_eq_true rfl) dL_law_1177 (g_madeS (gOld_s (Nat.le_add_right _ _) (gOld_i (gOld_i (gOld_r (gT_lt q3) (gOld_r (gT_lt q5) (gOld_r (gT_lt q6) (gOld_r (gT_lt q7) (gOld_i (gOld_i gOld_0))))))))) gOld_0 (fun ad34 e34 y34 => ?_))
    have X34 := gExt.tr gExt.rf e34
    have W34 := gad_call y34 gExt.rf (fun _ _ => rfl)
    have q_35 := e34 _ _ q3
    have q_36 := e34 _ _ q5
    have q_37 := e34 _ _ q6
    have q_38 := e34 _ _ q7
    refine g_if_eq (tgt := 1187) hF dL_law_1180 (by decide) (fun c39 => ?_) (fun c39 => ?_)
    · replace h := gif_t c39 h
      exact gG_sub [0, 2, 3, 4, 5, 6, 7, 8] rfl (t_L_law_1187 hFL hn hd (by omega) (by omega) q_35 q_36 q_37 q_38 h (fun v9 ad1 ce1 so1 q9 x1 y1 => hE v9 ad1 ce1 so1 q9 (gExt.tr X34 x1) (gad_call y1 X34 W34)) (fun v9 ad1 ce1 so1 q9 x1 y1 => hN v9 ad1 ce1 so1 q9 (gExt.tr X34 x1) (gad_call y1 X34 W34)))
    · replace h := gif_f c39 h
      refine g_iconst (v := (1 : Int32)) hF rfl dL_law_1183 ?_
      refine g_goto (tgt := 1188) hF dL_law_1184 (by decide) ?_
      exact gG_sub [0, 2, 3, 4, 5, 6, 7, 8] rfl (t_L_law_1188 hFL hn hd (by omega) (by omega) q_35 q_36 q_37 q_38 h (fun v9 ad1 ce1 so1 q9 x1 y1 => hE v9 ad1 ce1 so1 q9 (gExt.tr X34 x1) (gad_call y1 X34 W34)) (fun v9 ad1 ce1 so1 q9 x1 y1 => hN v9 ad1 ce1 so1 q9 (gExt.tr X34 x1) (gad_call y1 X34 W34)))
theorem t_L_law_1129 {Z : gZ} {d mc ms : Nat} {ad : Nat → Nat} {T : gT} {M : gM} {ce so c9 s9 K KS : Nat} {n : Nat} {f : Nat → Int32} {nm : String} {m_a3 m_a5 m_a6 m_a7 m_a10 : Nat} {i1 : Int32} {i2 : Int32} {a3 : Nat} {a5 : Nat} {a6 : Nat} {a7 : Nat} {i8 : Int32} {i9 : Int32} {a10 : Nat} {i12 : Int32} {o : (Int32 × Int32 × gT × gM) ⊕ (Int32 × Int32 × Int32 × gT × gM)} (hFL : gFixL Z cL_law RL nm (some .boolean) d mc ms (fun v _ _ _ => v = some (.int 1)) (fun _ _ _ _ => False) n f) (hn : Z.2.2.2.2.2.1 = 31) (hd : 60 ≤ d) (hk1 : ce + c9 + K ≤ mc) (hk2 : so + s9 + KS ≤ ms) (q3 : T[a3]? = some (8, m_a3)) (q5 : T[a5]? = some (18, m_a5)) (q6 : T[a6]? = some (16, m_a6)) (q7 : T[a7]? = some (22, m_a7)) (q10 : T[a10]? = some (16, m_a10)) (h : f_L_law_1129 n f T M i1 i2 a3 a5 a6 a7 i8 i9 a10 i12 = some (o, c9, s9)) (hE : ∀ (e9 : Int32 × Int32 × gT × gM) (ad1 : Nat → Nat) (ce1 so1 : Nat), o = .inl e9 → gExt T e9.2.2.1 → (∀ a : Nat, a < T.length → ad1 a = ad a) → ce1 + K ≤ mc → so1 + KS ≤ ms → gG Z ad1 e9.2.2.1 e9.2.2.2 ce1 so1 1195 [(0, .ref (gSB + 3000)), (1, .int e9.1), (2, .int i2), (3, .ref a3), (7, .ref a7), (8, .int e9.2.1)] []) (hN : ∀ (n9 : Int32 × Int32 × Int32 × gT × gM) (ad1 : Nat → Nat) (ce1 so1 : Nat), o = .inr n9 → gExt T n9.2.2.2.1 → (∀ a : Nat, a < T.length → ad1 a = ad a) → ce1 + K ≤ mc → so1 + KS ≤ ms → gG Z ad1 n9.2.2.2.1 n9.2.2.2.2 ce1 so1 192 [(0, .ref (gSB + 3000)), (1, .int n9.1), (2, .int i2), (3, .ref a3), (5, .ref a5), (6, .ref a6), (7, .ref a7), (8, .int n9.2.1), (9, .int n9.2.2.1)] []) : gG Z ad T M ce so 1129 [(0, .ref (gSB + 3000)), (1, .int i1), (2, .int i2), (3, .ref a3), (5, .ref a5), (6, .ref a6), (7, .ref a7), (8, .int i8), (9, .int i9), (10, .ref a10), (12, .int i12)] [] := by
  have hF := hFL.fix
  unfold f_L_law_1129 at h
  refine g_iload hF 10 rfl dL_law_1129 ?_
  refine g_if_eq (tgt := 1170) hF dL_law_1131 (by decide) (fun c40 => ?_) (fun c40 => ?_)
  · replace h := gif_t c40 h
    exact gG_sub [0, 1, 2, 3, 4, 5, 6, 7, 8] rfl (t_L_law_1170 hFL hn hd (by omega) (by omega) q3 q5 q6 q7 h (fun v9 ad1 ce1 so1 q9 x1 y1 => hE v9 ad1 ce1 so1 q9 (gExt.tr gExt.rf x1) (gad_call y1 gExt.rf (fun _ _ => rfl))) (fun v9 ad1 ce1 so1 q9 x1 y1 => hN v9 ad1 ce1 so1 q9 (gExt.tr gExt.rf x1) (gad_call y1 gExt.rf (fun _ _ => rfl))))
  · replace h := gif_f c40 h
    refine g_bipush (v := (8 : Int32)) hF rfl dL_law_1134 ?_
    refine g_istore (ls' := [(20, .int (8 : Int32)), (0, .ref (gSB + 3000)), (1, .int i1), (2, .int i2), (3, .ref a3), (5, .ref a5), (6, .ref a6), (7, .ref a7), (8, .int i8), (9, .int i9), (10, .ref a10), (12, .int i12)]) hF (by rw [hn]; decide) rfl dL_law_1136 ?_
    obtain ⟨x41, h41, h⟩ := gbnd h
    refine gG_sub [1, 2, 3, 4, 5, 6, 7, 8, 9, 10, 0] rfl (t_L_law_L1138 hFL hn hd (by omega) (by omega) q3 q5 q6 q7 q10 h41 ?_)
    refine g_aload hF 6 rfl dL_law_1161 ?_
    refine g_iconst (v := (0 : Int32)) hF rfl dL_law_1163 ?_
    refine g_aload hF 9 rfl dL_law_1164 ?_
    obtain ⟨M42, h42, h⟩ := gbnd h
    obtain ⟨i42h, e42v⟩ := astro_sp q7 h42
    refine g_aast_o (o := (some a10)) hF q7 (gOk_some q10) i42h dL_law_1166 ?_
    rw [← e42v]
    refine g_iinc (n := 1) (v := (i8 + (1 : Int32))) (ls' := [(8, .int (i8 + (1 : Int32))), (0, .ref (gSB + 3000)), (1, .int i1), (2, .int i2), (3, .ref a3), (5, .ref a5), (6, .ref a6), (7, .ref a7), (9, .int i9), (10, .ref a10)]) hF 7 rfl rfl (by rw [hn]; decide) rfl dL_law_1167 ?_
    exact gG_sub [1, 2, 3, 4, 5, 6, 7, 0, 8] rfl (t_L_law_1170 hFL hn hd (by omega) (by omega) q3 q5 q6 q7 h (fun v9 ad1 ce1 so1 q9 x1 y1 => hE v9 ad1 ce1 so1 q9 (gExt.tr gExt.rf x1) (gad_call y1 gExt.rf (fun _ _ => rfl))) (fun v9 ad1 ce1 so1 q9 x1 y1 => hN v9 ad1 ce1 so1 q9 (gExt.tr gExt.rf x1) (gad_call y1 gExt.rf (fun _ _ => rfl))))
theorem t_L_law_1128 {Z : gZ} {d mc ms : Nat} {ad : Nat → Nat} {T : gT} {M : gM} {ce so c9 s9 K KS : Nat} {n : Nat} {f : Nat → Int32} {nm : String} {m_a3 m_a5 m_a6 m_a7 m_a10 : Nat} {i2 : Int32} {a3 : Nat} {a5 : Nat} {a6 : Nat} {a7 : Nat} {i8 : Int32} {i9 : Int32} {a10 : Nat} {i12 : Int32} {k0 : Int32} {o : (Int32 × Int32 × gT × gM) ⊕ (Int32 × Int32 × Int32 × gT × gM)} (hFL : gFixL Z cL_law RL nm (some .boolean) d mc ms (fun v _ _ _ => v = some (.int 1)) (fun _ _ _ _ => False) n f) (hn : Z.2.2.2.2.2.1 = 31) (hd : 60 ≤ d) (hk1 : ce + c9 + K ≤ mc) (hk2 : so + s9 + KS ≤ ms) (q3 : T[a3]? = some (8, m_a3)) (q5 : T[a5]? = some (18, m_a5)) (q6 : T[a6]? = some (16, m_a6)) (q7 : T[a7]? = some (22, m_a7)) (q10 : T[a10]? = some (16, m_a10)) (h : f_L_law_1128 n f T M i2 a3 a5 a6 a7 i8 i9 a10 i12 k0 = some (o, c9, s9)) (hE : ∀ (e9 : Int32 × Int32 × gT × gM) (ad1 : Nat → Nat) (ce1 so1 : Nat), o = .inl e9 → gExt T e9.2.2.1 → (∀ a : Nat, a < T.length → ad1 a = ad a) → ce1 + K ≤ mc → so1 + KS ≤ ms → gG Z ad1 e9.2.2.1 e9.2.2.2 ce1 so1 1195 [(0, .ref (gSB + 3000)), (1, .int e9.1), (2, .int i2), (3, .ref a3), (7, .ref a7), (8, .int e9.2.1)] []) (hN : ∀ (n9 : Int32 × Int32 × Int32 × gT × gM) (ad1 : Nat → Nat) (ce1 so1 : Nat), o = .inr n9 → gExt T n9.2.2.2.1 → (∀ a : Nat, a < T.length → ad1 a = ad a) → ce1 + K ≤ mc → so1 + KS ≤ ms → gG Z ad1 n9.2.2.2.1 n9.2.2.2.2 ce1 so1 192 [(0, .ref (gSB + 3000)), (1, .int n9.1), (2, .int i2), (3, .ref a3), (5, .ref a5), (6, .ref a6), (7, .ref a7), (8, .int n9.2.1), (9, .int n9.2.2.1)] []) : gG Z ad T M ce so 1128 [(0, .ref (gSB + 3000)), (2, .int i2), (3, .ref a3), (5, .ref a5), (6, .ref a6), (7, .ref a7), (8, .int i8), (9, .int i9), (10, .ref a10), (12, .int i12)] [.int k0] := by
  have hF := hFL.fix
  unfold f_L_law_1128 at h
  refine g_istore_n (ls' := [(1, .int k0), (0, .ref (gSB + 3000)), (2, .int i2), (3, .ref a3), (5, .ref a5), (6, .ref a6), (7, .ref a7), (8, .int i8), (9, .int i9), (10, .ref a10), (12, .int i12)]) hF rfl (by rw [hn]; decide) rfl dL_law_1128 ?_
  exact gG_sub [1, 0, 2, 3, 4, 5, 6, 7, 8, 9, 10] rfl (t_L_law_1129 hFL hn hd (by omega) (by omega) q3 q5 q6 q7 q10 h (fun v9 ad1 ce1 so1 q9 x1 y1 => hE v9 ad1 ce1 so1 q9 (gExt.tr gExt.rf x1) (gad_call y1 gExt.rf (fun _ _ => rfl))) (fun v9 ad1 ce1 so1 q9 x1 y1 => hN v9 ad1 ce1 so1 q9 (gExt.tr gExt.rf x1) (gad_call y1 gExt.rf (fun _ _ => rfl))))
