theorem t_L_law_332 {Z : gZ} {d mc ms : Nat} {ad : Nat → Nat} {T : gT} {M : gM} {ce so c9 s9 K KS : Nat} {n : Nat} {f : Nat → Int32} {nm : String} {m_a3 m_a5 m_a6 m_a7 m_a10 m_a11 : Nat} {i2 : Int32} {a3 : Nat} {a5 : Nat} {a6 : Nat} {a7 : Nat} {i8 : Int32} {i9 : Int32} {a10 : Nat} {a11 : Nat} {i13 : Int32} {i15 : Int32} {i16 : Int32} {i17 : Int32} {k0 : Int32} {o : (Int32 × Int32 × gT × gM) ⊕ (Int32 × Int32 × Int32 × gT × gM)} (hFL : gFixL Z cL_law RL nm (some .boolean) d mc ms (fun v _ _ _ => v = some (.int 1)) (fun _ _ _ _ => False) n f) (hn : Z.2.2.2.2.2.1 = 31) (hd : 60 ≤ d) (hk1 : ce + c9 + K ≤ mc) (hk2 : so + s9 + KS ≤ ms) (q3 : T[a3]? = some (8, m_a3)) (q5 : T[a5]? = some (18, m_a5)) (q6 : T[a6]? = some (16, m_a6)) (q7 : T[a7]? = some (22, m_a7)) (q10 : T[a10]? = some (16, m_a10)) (q11 : T[a11]? = some (15, m_a11)) (h : f_L_law_332 n f T M i2 a3 a5 a6 a7 i8 i9 a10 a11 i13 i15 i16 i17 k0 = some (o, c9, s9)) (hE : ∀ (e9 : Int32 × Int32 × gT × gM) (ad1 : Nat → Nat) (ce1 so1 : Nat), o = .inl e9 → gExt T e9.2.2.1 → (∀ a : Nat, a < T.length → ad1 a = ad a) → ce1 + K ≤ mc → so1 + KS ≤ ms → gG Z ad1 e9.2.2.1 e9.2.2.2 ce1 so1 1195 [(0, .ref (gSB + 3000)), (1, .int e9.1), (2, .int i2), (3, .ref a3), (7, .ref a7), (8, .int e9.2.1)] []) (hN : ∀ (n9 : Int32 × Int32 × Int32 × gT × gM) (ad1 : Nat → Nat) (ce1 so1 : Nat), o = .inr n9 → gExt T n9.2.2.2.1 → (∀ a : Nat, a < T.length → ad1 a = ad a) → ce1 + K ≤ mc → so1 + KS ≤ ms → gG Z ad1 n9.2.2.2.1 n9.2.2.2.2 ce1 so1 192 [(0, .ref (gSB + 3000)), (1, .int n9.1), (2, .int i2), (3, .ref a3), (5, .ref a5), (6, .ref a6), (7, .ref a7), (8, .int n9.2.1), (9, .int n9.2.2.1)] []) : gG Z ad T M ce so 332 [(0, .ref (gSB + 3000)), (2, .int i2), (3, .ref a3), (5, .ref a5), (6, .ref a6), (7, .ref a7), (8, .int i8), (9, .int i9), (10, .ref a10), (11, .ref a11), (13, .int i13), (15, .int i15), (16, .int i16), (17, .int i17)] [.int k0] := by
  have hF := hFL.fix
  unfold f_L_law_332 at h
  refine g_istore (ls' := [(18, .int k0), (0, .ref (gSB + 3000)), (2, .int i2), (3, .ref a3), (5, .ref a5), (6, .ref a6), (7, .ref a7), (8, .int i8), (9, .int i9), (10, .ref a10), (11, .ref a11), (13, .int i13), (15, .int i15), (16, .int i16), (17, .int i17)]) hF (by rw [hn]; decide) rfl dL_law_332 ?_
  refine g_iload hF 14 rfl dL_law_334 ?_
  refine g_if_eq (tgt := 350) hF dL_law_336 (by decide) (fun c192 => ?_) (fun c192 => ?_)
  · replace h := gif_t c192 h
    refine g_null hF dL_law_350 ?_
    exact gG_sub [1, 2, 3, 4, 5, 6, 7, 8, 9, 10, 11, 12, 13, 14, 0] rfl (t_L_law_351 hFL hn hd (by omega) (by omega) q3 q5 q6 q7 q10 q11 gOk_none h (fun v9 ad1 ce1 so1 q9 x1 y1 => hE v9 ad1 ce1 so1 q9 (gExt.tr gExt.rf x1) (gad_call y1 gExt.rf (fun _ _ => rfl))) (fun v9 ad1 ce1 so1 q9 x1 y1 => hN v9 ad1 ce1 so1 q9 (gExt.tr gExt.rf x1) (gad_call y1 gExt.rf (fun _ _ => rfl))))
  · replace h := gif_f c192 h
    refine g_aload hF 5 rfl dL_law_339 ?_
    obtain ⟨b193, h193, h⟩ := gbnd h
    obtain ⟨g193, l193, q_b193⟩ := ldr_sp h193
    refine g_get_r hF g193 fl_RL_161 q6 dL_law_341 ?_
    refine g_iload hF 12 rfl dL_law_344 ?_
    obtain ⟨b194, h194, h⟩ := gbnd h
    obtain ⟨i194h, g194, l194, q_b194⟩ := aldr_sp q_b193 h194
    refine g_aald hF q_b193 (Or.inr (Or.inr (Or.inl ⟨rfl, rfl⟩))) i194h g194 dL_law_346 ?_
    refine g_goto (tgt := 351) hF dL_law_347 (by decide) ?_
    exact gG_sub [1, 2, 3, 4, 5, 6, 7, 8, 9, 10, 11, 12, 13, 14, 0] rfl (t_L_law_351 hFL hn hd (by omega) (by omega) q3 q5 q6 q7 q10 q11 (gOk_some q_b194) h (fun v9 ad1 ce1 so1 q9 x1 y1 => hE v9 ad1 ce1 so1 q9 (gExt.tr gExt.rf x1) (gad_call y1 gExt.rf (fun _ _ => rfl))) (fun v9 ad1 ce1 so1 q9 x1 y1 => hN v9 ad1 ce1 so1 q9 (gExt.tr gExt.rf x1) (gad_call y1 gExt.rf (fun _ _ => rfl))))
theorem t_L_law_331 {Z : gZ} {d mc ms : Nat} {ad : Nat → Nat} {T : gT} {M : gM} {ce so c9 s9 K KS : Nat} {n : Nat} {f : Nat → Int32} {nm : String} {m_a3 m_a5 m_a6 m_a7 m_a10 m_a11 : Nat} {i2 : Int32} {a3 : Nat} {a5 : Nat} {a6 : Nat} {a7 : Nat} {i8 : Int32} {i9 : Int32} {a10 : Nat} {a11 : Nat} {i13 : Int32} {i15 : Int32} {i16 : Int32} {i17 : Int32} {o : (Int32 × Int32 × gT × gM) ⊕ (Int32 × Int32 × Int32 × gT × gM)} (hFL : gFixL Z cL_law RL nm (some .boolean) d mc ms (fun v _ _ _ => v = some (.int 1)) (fun _ _ _ _ => False) n f) (hn : Z.2.2.2.2.2.1 = 31) (hd : 60 ≤ d) (hk1 : ce + c9 + K ≤ mc) (hk2 : so + s9 + KS ≤ ms) (q3 : T[a3]? = some (8, m_a3)) (q5 : T[a5]? = some (18, m_a5)) (q6 : T[a6]? = some (16, m_a6)) (q7 : T[a7]? = some (22, m_a7)) (q10 : T[a10]? = some (16, m_a10)) (q11 : T[a11]? = some (15, m_a11)) (h : f_L_law_331 n f T M i2 a3 a5 a6 a7 i8 i9 a10 a11 i13 i15 i16 i17 = some (o, c9, s9)) (hE : ∀ (e9 : Int32 × Int32 × gT × gM) (ad1 : Nat → Nat) (ce1 so1 : Nat), o = .inl e9 → gExt T e9.2.2.1 → (∀ a : Nat, a < T.length → ad1 a = ad a) → ce1 + K ≤ mc → so1 + KS ≤ ms → gG Z ad1 e9.2.2.1 e9.2.2.2 ce1 so1 1195 [(0, .ref (gSB + 3000)), (1, .int e9.1), (2, .int i2), (3, .ref a3), (7, .ref a7), (8, .int e9.2.1)] []) (hN : ∀ (n9 : Int32 × Int32 × Int32 × gT × gM) (ad1 : Nat → Nat) (ce1 so1 : Nat), o = .inr n9 → gExt T n9.2.2.2.1 → (∀ a : Nat, a < T.length → ad1 a = ad a) → ce1 + K ≤ mc → so1 + KS ≤ ms → gG Z ad1 n9.2.2.2.1 n9.2.2.2.2 ce1 so1 192 [(0, .ref (gSB + 3000)), (1, .int n9.1), (2, .int i2), (3, .ref a3), (5, .ref a5), (6, .ref a6), (7, .ref a7), (8, .int n9.2.1), (9, .int n9.2.2.1)] []) : gG Z ad T M ce so 331 [(0, .ref (gSB + 3000)), (2, .int i2), (3, .ref a3), (5, .ref a5), (6, .ref a6), (7, .ref a7), (8, .int i8), (9, .int i9), (10, .ref a10), (11, .ref a11), (13, .int i13), (15, .int i15), (16, .int i16), (17, .int i17)] [] := by
  have hF := hFL.fix
  unfold f_L_law_331 at h
  refine g_iconst (v := (0 : Int32)) hF rfl dL_law_331 ?_
  exact gG_sub [0, 1, 2, 3, 4, 5, 6, 7, 8, 9, 10, 11, 12, 13] rfl (t_L_law_332 hFL hn hd (by omega) (by omega) q3 q5 q6 q7 q10 q11 h (fun v9 ad1 ce1 so1 q9 x1 y1 => hE v9 ad1 ce1 so1 q9 (gExt.tr gExt.rf x1) (gad_call y1 gExt.rf (fun _ _ => rfl))) (fun v9 ad1 ce1 so1 q9 x1 y1 => hN v9 ad1 ce1 so1 q9 (gExt.tr gExt.rf x1) (gad_call y1 gExt.rf (fun _ _ => rfl))))
theorem t_L_law_310 {Z : gZ} {d mc ms : Nat} {ad : Nat → Nat} {T : gT} {M : gM} {ce so c9 s9 K KS : Nat} {n : Nat} {f : Nat → Int32} {nm : String} {m_a3 m_a5 m_a6 m_a7 m_a10 m_a11 : Nat} {i2 : Int32} {a3 : Nat} {a5 : Nat} {a6 : Nat} {a7 : Nat} {i8 : Int32} {i9 : Int32} {a10 : Nat} {a11 : Nat} {i13 : Int32} {i15 : Int32} {i16 : Int32} {k0 : Int32} {o : (Int32 × Int32 × gT × gM) ⊕ (Int32 × Int32 × Int32 × gT × gM)} (hFL : gFixL Z cL_law RL nm (some .boolean) d mc ms (fun v _ _ _ => v = some (.int 1)) (fun _ _ _ _ => False) n f) (hn : Z.2.2.2.2.2.1 = 31) (hd : 60 ≤ d) (hk1 : ce + c9 + K ≤ mc) (hk2 : so + s9 + KS ≤ ms) (q3 : T[a3]? = some (8, m_a3)) (q5 : T[a5]? = some (18, m_a5)) (q6 : T[a6]? = some (16, m_a6)) (q7 : T[a7]? = some (22, m_a7)) (q10 : T[a10]? = some (16, m_a10)) (q11 : T[a11]? = some (15, m_a11)) (h : f_L_law_310 n f T M i2 a3 a5 a6 a7 i8 i9 a10 a11 i13 i15 i16 k0 = some (o, c9, s9)) (hE : ∀ (e9 : Int32 × Int32 × gT × gM) (ad1 : Nat → Nat) (ce1 so1 : Nat), o = .inl e9 → gExt T e9.2.2.1 → (∀ a : Nat, a < T.length → ad1 a = ad a) → ce1 + K ≤ mc → so1 + KS ≤ ms → gG Z ad1 e9.2.2.1 e9.2.2.2 ce1 so1 1195 [(0, .ref (gSB + 3000)), (1, .int e9.1), (2, .int i2), (3, .ref a3), (7, .ref a7), (8, .int e9.2.1)] []) (hN : ∀ (n9 : Int32 × Int32 × Int32 × gT × gM) (ad1 : Nat → Nat) (ce1 so1 : Nat), o = .inr n9 → gExt T n9.2.2.2.1 → (∀ a : Nat, a < T.length → ad1 a = ad a) → ce1 + K ≤ mc → so1 + KS ≤ ms → gG Z ad1 n9.2.2.2.1 n9.2.2.2.2 ce1 so1 192 [(0, .ref (gSB + 3000)), (1, .int n9.1), (2, .int i2), (3, .ref a3), (5, .ref a5), (6, .ref a6), (7, .ref a7), (8, .int n9.2.1), (9, .int n9.2.2.1)] []) : gG Z ad T M ce so 310 [(0, .ref (gSB + 3000)), (2, .int i2), (3, .ref a3), (5, .ref a5), (6, .ref a6), (7, .ref a7), (8, .int i8), (9, .int i9), (10, .ref a10), (11, .ref a11), (13, .int i13), (15, .int i15), (16, .int i16)] [.int k0] := by
  have hF := hFL.fix
  unfold f_L_law_310 at h
  refine g_istore (ls' := [(17, .int k0), (0, .ref (gSB + 3000)), (2, .int i2), (3, .ref a3), (5, .ref a5), (6, .ref a6), (7, .ref a7), (8, .int i8), (9, .int i9), (10, .ref a10), (11, .ref a11), (13, .int i13), (15, .int i15), (16, .int i16)]) hF (by rw [hn]; decide) rfl dL_law_310 ?_
  refine g_iload hF 0 rfl dL_law_312 ?_
  refine g_if_eq (tgt := 331) hF dL_law_314 (by decide) (fun c195 => ?_) (fun c195 => ?_)
  · replace h := gif_t c195 h
    exact gG_sub [1, 2, 3, 4, 5, 6, 7, 8, 9, 10, 11, 12, 13, 0] rfl (t_L_law_331 hFL hn hd (by omega) (by omega) q3 q5 q6 q7 q10 q11 h (fun v9 ad1 ce1 so1 q9 x1 y1 => hE v9 ad1 ce1 so1 q9 (gExt.tr gExt.rf x1) (gad_call y1 gExt.rf (fun _ _ => rfl))) (fun v9 ad1 ce1 so1 q9 x1 y1 => hN v9 ad1 ce1 so1 q9 (gExt.tr gExt.rf x1) (gad_call y1 gExt.rf (fun _ _ => rfl))))
  · replace h := gif_f c195 h
    refine g_iload hF 13 rfl dL_law_317 ?_
    refine g_aload hF 5 rfl dL_law_319 ?_
    refine g_get_i hF fl_RL_141 q6 dL_law_321 ?_
    refine g_icmp_ge (tgt := 331) hF dL_law_324 (by decide) (fun c196 => ?_) (fun c196 => ?_)
    · replace h := gif_t c196 h
      exact gG_sub [1, 2, 3, 4, 5, 6, 7, 8, 9, 10, 11, 12, 13, 0] rfl (t_L_law_331 hFL hn hd (by omega) (by omega) q3 q5 q6 q7 q10 q11 h (fun v9 ad1 ce1 so1 q9 x1 y1 => hE v9 ad1 ce1 so1 q9 (gExt.tr gExt.rf x1) (gad_call y1 gExt.rf (fun _ _ => rfl))) (fun v9 ad1 ce1 so1 q9 x1 y1 => hN v9 ad1 ce1 so1 q9 (gExt.tr gExt.rf x1) (gad_call y1 gExt.rf (fun _ _ => rfl))))
    · replace h := gif_f c196 h
      refine g_iconst (v := (1 : Int32)) hF rfl dL_law_327 ?_
      refine g_goto (tgt := 332) hF dL_law_328 (by decide) ?_
      exact gG_sub [1, 2, 3, 4, 5, 6, 7, 8, 9, 10, 11, 12, 13, 0] rfl (t_L_law_332 hFL hn hd (by omega) (by omega) q3 q5 q6 q7 q10 q11 h (fun v9 ad1 ce1 so1 q9 x1 y1 => hE v9 ad1 ce1 so1 q9 (gExt.tr gExt.rf x1) (gad_call y1 gExt.rf (fun _ _ => rfl))) (fun v9 ad1 ce1 so1 q9 x1 y1 => hN v9 ad1 ce1 so1 q9 (gExt.tr gExt.rf x1) (gad_call y1 gExt.rf (fun _ _ => rfl))))
theorem t_L_law_292 {Z : gZ} {d mc ms : Nat} {ad : Nat → Nat} {T : gT} {M : gM} {ce so c9 s9 K KS : Nat} {n : Nat} {f : Nat → Int32} {nm : String} {m_a3 m_a5 m_a6 m_a7 m_a10 m_a11 m_b0 : Nat} {i2 : Int32} {a3 : Nat} {a5 : Nat} {a6 : Nat} {a7 : Nat} {i8 : Int32} {i9 : Int32} {a10 : Nat} {a11 : Nat} {i13 : Int32} {i14 : Int32} {i15 : Int32} {b0 : Nat} {k1 : Int32} {k2 : Int32} {o : (Int32 × Int32 × gT × gM) ⊕ (Int32 × Int32 × Int32 × gT × gM)} (hFL : gFixL Z cL_law RL nm (some .boolean) d mc ms (fun v _ _ _ => v = some (.int 1)) (fun _ _ _ _ => False) n f) (hn : Z.2.2.2.2.2.1 = 31) (hd : 60 ≤ d) (hk1 : ce + c9 + K ≤ mc) (hk2 : so + s9 + KS ≤ ms) (q3 : T[a3]? = some (8, m_a3)) (q5 : T[a5]? = some (18, m_a5)) (q6 : T[a6]? = some (16, m_a6)) (q7 : T[a7]? = some (22, m_a7)) (q10 : T[a10]? = some (16, m_a10)) (q11 : T[a11]? = some (15, m_a11)) (p0 : T[b0]? = some (18, m_b0)) (h : f_L_law_292 n f T M i2 a3 a5 a6 a7 i8 i9 a10 a11 i13 i14 i15 b0 k1 k2 = some (o, c9, s9)) (hE : ∀ (e9 : Int32 × Int32 × gT × gM) (ad1 : Nat → Nat) (ce1 so1 : Nat), o = .inl e9 → gExt T e9.2.2.1 → (∀ a : Nat, a < T.length → ad1 a = ad a) → ce1 + K ≤ mc → so1 + KS ≤ ms → gG Z ad1 e9.2.2.1 e9.2.2.2 ce1 so1 1195 [(0, .ref (gSB + 3000)), (1, .int e9.1), (2, .int i2), (3, .ref a3), (7, .ref a7), (8, .int e9.2.1)] []) (hN : ∀ (n9 : Int32 × Int32 × Int32 × gT × gM) (ad1 : Nat → Nat) (ce1 so1 : Nat), o = .inr n9 → gExt T n9.2.2.2.1 → (∀ a : Nat, a < T.length → ad1 a = ad a) → ce1 + K ≤ mc → so1 + KS ≤ ms → gG Z ad1 n9.2.2.2.1 n9.2.2.2.2 ce1 so1 192 [(0, .ref (gSB + 3000)), (1, .int n9.1), (2, .int i2), (3, .ref a3), (5, .ref a5), (6, .ref a6), (7, .ref a7), (8, .int n9.2.1), (9, .int n9.2.2.1)] []) : gG Z ad T M ce so 292 [(0, .ref (gSB + 3000)), (2, .int i2), (3, .ref a3), (5, .ref a5), (6, .ref a6), (7, .ref a7), (8, .int i8), (9, .int i9), (10, .ref a10), (11, .ref a11), (13, .int i13), (14, .int i14), (15, .int i15)] [.int k2, .int k1, .ref b0] := by
  have hF := hFL.fix
  unfold f_L_law_292 at h
  refine g_iadd hF dL_law_292 ?_
  obtain ⟨x197, h197, h⟩ := gbnd h
  refine g_callV hF my_X12_below kw_636 kw_637 kw_638 gC_18.1 (by decide) p0 (c_X12_below (d := d - 1) (by omega) p0 h197) (by omega) (by omega) (by omega) rfl rfl (Nat.le_of_ble_eq_true rfl) dL_law_293 (g_sameS ?_)
  refine g_istore (ls' := [(16, .int x197.1), (0, .ref (gSB + 3000)), (2, .int i2), (3, .ref a3), (5, .ref a5), (6, .ref a6), (7, .ref a7), (8, .int i8), (9, .int i9), (10, .ref a10), (11, .ref a11), (13, .int i13), (14, .int i14), (15, .int i15)]) hF (by rw [hn]; decide) rfl dL_law_296 ?_
  refine g_iload hF 13 rfl dL_law_298 ?_
  refine g_iload hF 12 rfl dL_law_300 ?_
  refine g_icmp_ge (tgt := 309) hF dL_law_302 (by decide) (fun c198 => ?_) (fun c198 => ?_)
  · replace h := gif_t c198 h
    refine g_iconst (v := (0 : Int32)) hF rfl dL_law_309 ?_
    exact gG_sub [1, 2, 3, 4, 5, 6, 7, 8, 9, 10, 11, 13, 0] rfl (t_L_law_310 hFL hn hd (by omega) (by omega) q3 q5 q6 q7 q10 q11 h (fun v9 ad1 ce1 so1 q9 x1 y1 => hE v9 ad1 ce1 so1 q9 (gExt.tr gExt.rf x1) (gad_call y1 gExt.rf (fun _ _ => rfl))) (fun v9 ad1 ce1 so1 q9 x1 y1 => hN v9 ad1 ce1 so1 q9 (gExt.tr gExt.rf x1) (gad_call y1 gExt.rf (fun _ _ => rfl))))
  · replace h := gif_f c198 h
    refine g_iconst (v := (1 : Int32)) hF rfl dL_law_305 ?_
    refine g_goto (tgt := 310) hF dL_law_306 (by decide) ?_
    exact gG_sub [1, 2, 3, 4, 5, 6, 7, 8, 9, 10, 11, 13, 0] rfl (t_L_law_310 hFL hn hd (by omega) (by omega) q3 q5 q6 q7 q10 q11 h (fun v9 ad1 ce1 so1 q9 x1 y1 => hE v9 ad1 ce1 so1 q9 (gExt.tr gExt.rf x1) (gad_call y1 gExt.rf (fun _ _ => rfl))) (fun v9 ad1 ce1 so1 q9 x1 y1 => hN v9 ad1 ce1 so1 q9 (gExt.tr gExt.rf x1) (gad_call y1 gExt.rf (fun _ _ => rfl))))
theorem t_L_law_287 {Z : gZ} {d mc ms : Nat} {ad : Nat → Nat} {T : gT} {M : gM} {ce so c9 s9 K KS : Nat} {n : Nat} {f : Nat → Int32} {nm : String} {m_a3 m_a5 m_a6 m_a7 m_a10 m_a11 m_b0 : Nat} {i2 : Int32} {a3 : Nat} {a5 : Nat} {a6 : Nat} {a7 : Nat} {i8 : Int32} {i9 : Int32} {a10 : Nat} {a11 : Nat} {i13 : Int32} {i14 : Int32} {i15 : Int32} {b0 : Nat} {k1 : Int32} {o : (Int32 × Int32 × gT × gM) ⊕ (Int32 × Int32 × Int32 × gT × gM)} (hFL : gFixL Z cL_law RL nm (some .boolean) d mc ms (fun v _ _ _ => v = some (.int 1)) (fun _ _ _ _ => False) n f) (hn : Z.2.2.2.2.2.1 = 31) (hd : 60 ≤ d) (hk1 : ce + c9 + K ≤ mc) (hk2 : so + s9 + KS ≤ ms) (q3 : T[a3]? = some (8, m_a3)) (q5 : T[a5]? = some (18, m_a5)) (q6 : T[a6]? = some (16, m_a6)) (q7 : T[a7]? = some (22, m_a7)) (q10 : T[a10]? = some (16, m_a10)) (q11 : T[a11]? = some (15, m_a11)) (p0 : T[b0]? = some (18, m_b0)) (h : f_L_law_287 n f T M i2 a3 a5 a6 a7 i8 i9 a10 a11 i13 i14 i15 b0 k1 = some (o, c9, s9)) (hE : ∀ (e9 : Int32 × Int32 × gT × gM) (ad1 : Nat → Nat) (ce1 so1 : Nat), o = .inl e9 → gExt T e9.2.2.1 → (∀ a : Nat, a < T.length → ad1 a = ad a) → ce1 + K ≤ mc → so1 + KS ≤ ms → gG Z ad1 e9.2.2.1 e9.2.2.2 ce1 so1 1195 [(0, .ref (gSB + 3000)), (1, .int e9.1), (2, .int i2), (3, .ref a3), (7, .ref a7), (8, .int e9.2.1)] []) (hN : ∀ (n9 : Int32 × Int32 × Int32 × gT × gM) (ad1 : Nat → Nat) (ce1 so1 : Nat), o = .inr n9 → gExt T n9.2.2.2.1 → (∀ a : Nat, a < T.length → ad1 a = ad a) → ce1 + K ≤ mc → so1 + KS ≤ ms → gG Z ad1 n9.2.2.2.1 n9.2.2.2.2 ce1 so1 192 [(0, .ref (gSB + 3000)), (1, .int n9.1), (2, .int i2), (3, .ref a3), (5, .ref a5), (6, .ref a6), (7, .ref a7), (8, .int n9.2.1), (9, .int n9.2.2.1)] []) : gG Z ad T M ce so 287 [(0, .ref (gSB + 3000)), (2, .int i2), (3, .ref a3), (5, .ref a5), (6, .ref a6), (7, .ref a7), (8, .int i8), (9, .int i9), (10, .ref a10), (11, .ref a11), (13, .int i13), (14, .int i14), (15, .int i15)] [.int k1, .ref b0] := by
  have hF := hFL.fix
  unfold f_L_law_287 at h
  refine g_iconst (v := (1 : Int32)) hF rfl dL_law_287 ?_
  refine g_goto (tgt := 292) hF dL_law_288 (by decide) ?_
  exact gG_sub [0, 1, 2, 3, 4, 5, 6, 7, 8, 9, 10, 11, 12] rfl (t_L_law_292 hFL hn hd (by omega) (by omega) q3 q5 q6 q7 q10 q11 p0 h (fun v9 ad1 ce1 so1 q9 x1 y1 => hE v9 ad1 ce1 so1 q9 (gExt.tr gExt.rf x1) (gad_call y1 gExt.rf (fun _ _ => rfl))) (fun v9 ad1 ce1 so1 q9 x1 y1 => hN v9 ad1 ce1 so1 q9 (gExt.tr gExt.rf x1) (gad_call y1 gExt.rf (fun _ _ => rfl))))
theorem t_L_law_256 {Z : gZ} {d mc ms : Nat} {ad : Nat → Nat} {T : gT} {M : gM} {ce so c9 s9 K KS : Nat} {n : Nat} {f : Nat → Int32} {nm : String} {m_a3 m_a5 m_a6 m_a7 m_a10 m_a11 m_b0 : Nat} {i2 : Int32} {a3 : Nat} {a5 : Nat} {a6 : Nat} {a7 : Nat} {i8 : Int32} {i9 : Int32} {a10 : Nat} {a11 : Nat} {i13 : Int32} {i14 : Int32} {b0 : Nat} {k1 : Int32} {k2 : Int32} {o : (Int32 × Int32 × gT × gM) ⊕ (Int32 × Int32 × Int32 × gT × gM)} (hFL : gFixL Z cL_law RL nm (some .boolean) d mc ms (fun v _ _ _ => v = some (.int 1)) (fun _ _ _ _ => False) n f) (hn : Z.2.2.2.2.2.1 = 31) (hd : 60 ≤ d) (hk1 : ce + c9 + K ≤ mc) (hk2 : so + s9 + KS ≤ ms) (q3 : T[a3]? = some (8, m_a3)) (q5 : T[a5]? = some (18, m_a5)) (q6 : T[a6]? = some (16, m_a6)) (q7 : T[a7]? = some (22, m_a7)) (q10 : T[a10]? = some (16, m_a10)) (q11 : T[a11]? = some (15, m_a11)) (p0 : T[b0]? = some (18, m_b0)) (h : f_L_law_256 n f T M i2 a3 a5 a6 a7 i8 i9 a10 a11 i13 i14 b0 k1 k2 = some (o, c9, s9)) (hE : ∀ (e9 : Int32 × Int32 × gT × gM) (ad1 : Nat → Nat) (ce1 so1 : Nat), o = .inl e9 → gExt T e9.2.2.1 → (∀ a : Nat, a < T.length → ad1 a = ad a) → ce1 + K ≤ mc → so1 + KS ≤ ms → gG Z ad1 e9.2.2.1 e9.2.2.2 ce1 so1 1195 [(0, .ref (gSB + 3000)), (1, .int e9.1), (2, .int i2), (3, .ref a3), (7, .ref a7), (8, .int e9.2.1)] []) (hN : ∀ (n9 : Int32 × Int32 × Int32 × gT × gM) (ad1 : Nat → Nat) (ce1 so1 : Nat), o = .inr n9 → gExt T n9.2.2.2.1 → (∀ a : Nat, a < T.length → ad1 a = ad a) → ce1 + K ≤ mc → so1 + KS ≤ ms → gG Z ad1 n9.2.2.2.1 n9.2.2.2.2 ce1 so1 192 [(0, .ref (gSB + 3000)), (1, .int n9.1), (2, .int i2), (3, .ref a3), (5, .ref a5), (6, .ref a6), (7, .ref a7), (8, .int n9.2.1), (9, .int n9.2.2.1)] []) : gG Z ad T M ce so 256 [(0, .ref (gSB + 3000)), (2, .int i2), (3, .ref a3), (5, .ref a5), (6, .ref a6), (7, .ref a7), (8, .int i8), (9, .int i9), (10, .ref a10), (11, .ref a11), (13, .int i13), (14, .int i14)] [.int k2, .int k1, .ref b0] := by
  have hF := hFL.fix
  unfold f_L_law_256 at h
  refine g_iadd hF dL_law_256 ?_
  obtain ⟨x199, h199, h⟩ := gbnd h
  refine g_callV hF my_X12_below kw_636 kw_637 kw_638 gC_18.1 (by decide) p0 (c_X12_below (d := d - 1) (by omega) p0 h199) (by omega) (by omega) (by omega) rfl rfl (Nat.le_of_ble_eq_true rfl) dL_law_257 (g_sameS ?_)
  refine g_istore (ls' := [(15, .int x199.1), (0, .ref (gSB + 3000)), (2, .int i2), (3, .ref a3), (5, .ref a5), (6, .ref a6), (7, .ref a7), (8, .int i8), (9, .int i9), (10, .ref a10), (11, .ref a11), (13, .int i13), (14, .int i14)]) hF (by rw [hn]; decide) rfl dL_law_260 ?_
  refine g_aload hF 4 rfl dL_law_262 ?_
  refine g_aload hF 5 rfl dL_law_264 ?_
  refine g_get_i hF fl_RL_141 q6 dL_law_266 ?_
  refine g_aload hF 4 rfl dL_law_269 ?_
  refine g_bipush (v := (12 : Int32)) hF rfl dL_law_271 ?_
  obtain ⟨x200, h200, h⟩ := gbnd h
  refine g_callV hF my_X12_below kw_636 kw_637 kw_638 gC_18.1 (by decide) q5 (c_X12_below (d := d - 1) (by omega) q5 h200) (by omega) (by omega) (by omega) rfl rfl (Nat.le_of_ble_eq_true rfl) dL_law_273 (g_sameS ?_)
  refine g_if_eq (tgt := 287) hF dL_law_276 (by decide) (fun c201 => ?_) (fun c201 => ?_)
  · replace h := gif_t c201 h
    exact gG_sub [1, 2, 3, 4, 5, 6, 7, 8, 9, 10, 11, 12, 0] rfl (t_L_law_287 hFL hn hd (by omega) (by omega) q3 q5 q6 q7 q10 q11 q5 h (fun v9 ad1 ce1 so1 q9 x1 y1 => hE v9 ad1 ce1 so1 q9 (gExt.tr gExt.rf x1) (gad_call y1 gExt.rf (fun _ _ => rfl))) (fun v9 ad1 ce1 so1 q9 x1 y1 => hN v9 ad1 ce1 so1 q9 (gExt.tr gExt.rf x1) (gad_call y1 gExt.rf (fun _ _ => rfl))))
  · replace h := gif_f c201 h
    refine g_aload hF 5 rfl dL_law_279 ?_
    refine g_get_i hF fl_RL_141 q6 dL_law_281 ?_
    refine g_if_ne (tgt := 291) hF dL_law_284 (by decide) (fun c202 => ?_) (fun c202 => ?_)
    · replace h := gif_t c202 h
      refine g_iconst (v := (0 : Int32)) hF rfl dL_law_291 ?_
      exact gG_sub [1, 2, 3, 4, 5, 6, 7, 8, 9, 10, 11, 12, 0] rfl (t_L_law_292 hFL hn hd (by omega) (by omega) q3 q5 q6 q7 q10 q11 q5 h (fun v9 ad1 ce1 so1 q9 x1 y1 => hE v9 ad1 ce1 so1 q9 (gExt.tr gExt.rf x1) (gad_call y1 gExt.rf (fun _ _ => rfl))) (fun v9 ad1 ce1 so1 q9 x1 y1 => hN v9 ad1 ce1 so1 q9 (gExt.tr gExt.rf x1) (gad_call y1 gExt.rf (fun _ _ => rfl))))
    · replace h := gif_n c202 h
      exact gG_sub [1, 2, 3, 4, 5, 6, 7, 8, 9, 10, 11, 12, 0] rfl (t_L_law_287 hFL hn hd (by omega) (by omega) q3 q5 q6 q7 q10 q11 q5 h (fun v9 ad1 ce1 so1 q9 x1 y1 => hE v9 ad1 ce1 so1 q9 (gExt.tr gExt.rf x1) (gad_call y1 gExt.rf (fun _ _ => rfl))) (fun v9 ad1 ce1 so1 q9 x1 y1 => hN v9 ad1 ce1 so1 q9 (gExt.tr gExt.rf x1) (gad_call y1 gExt.rf (fun _ _ => rfl))))
theorem t_L_law_251 {Z : gZ} {d mc ms : Nat} {ad : Nat → Nat} {T : gT} {M : gM} {ce so c9 s9 K KS : Nat} {n : Nat} {f : Nat → Int32} {nm : String} {m_a3 m_a5 m_a6 m_a7 m_a10 m_a11 m_b0 : Nat} {i2 : Int32} {a3 : Nat} {a5 : Nat} {a6 : Nat} {a7 : Nat} {i8 : Int32} {i9 : Int32} {a10 : Nat} {a11 : Nat} {i13 : Int32} {i14 : Int32} {b0 : Nat} {k1 : Int32} {o : (Int32 × Int32 × gT × gM) ⊕ (Int32 × Int32 × Int32 × gT × gM)} (hFL : gFixL Z cL_law RL nm (some .boolean) d mc ms (fun v _ _ _ => v = some (.int 1)) (fun _ _ _ _ => False) n f) (hn : Z.2.2.2.2.2.1 = 31) (hd : 60 ≤ d) (hk1 : ce + c9 + K ≤ mc) (hk2 : so + s9 + KS ≤ ms) (q3 : T[a3]? = some (8, m_a3)) (q5 : T[a5]? = some (18, m_a5)) (q6 : T[a6]? = some (16, m_a6)) (q7 : T[a7]? = some (22, m_a7)) (q10 : T[a10]? = some (16, m_a10)) (q11 : T[a11]? = some (15, m_a11)) (p0 : T[b0]? = some (18, m_b0)) (h : f_L_law_251 n f T M i2 a3 a5 a6 a7 i8 i9 a10 a11 i13 i14 b0 k1 = some (o, c9, s9)) (hE : ∀ (e9 : Int32 × Int32 × gT × gM) (ad1 : Nat → Nat) (ce1 so1 : Nat), o = .inl e9 → gExt T e9.2.2.1 → (∀ a : Nat, a < T.length → ad1 a = ad a) → ce1 + K ≤ mc → so1 + KS ≤ ms → gG Z ad1 e9.2.2.1 e9.2.2.2 ce1 so1 1195 [(0, .ref (gSB + 3000)), (1, .int e9.1), (2, .int i2), (3, .ref a3), (7, .ref a7), (8, .int e9.2.1)] []) (hN : ∀ (n9 : Int32 × Int32 × Int32 × gT × gM) (ad1 : Nat → Nat) (ce1 so1 : Nat), o = .inr n9 → gExt T n9.2.2.2.1 → (∀ a : Nat, a < T.length → ad1 a = ad a) → ce1 + K ≤ mc → so1 + KS ≤ ms → gG Z ad1 n9.2.2.2.1 n9.2.2.2.2 ce1 so1 192 [(0, .ref (gSB + 3000)), (1, .int n9.1), (2, .int i2), (3, .ref a3), (5, .ref a5), (6, .ref a6), (7, .ref a7), (8, .int n9.2.1), (9, .int n9.2.2.1)] []) : gG Z ad T M ce so 251 [(0, .ref (gSB + 3000)), (2, .int i2), (3, .ref a3), (5, .ref a5), (6, .ref a6), (7, .ref a7), (8, .int i8), (9, .int i9), (10, .ref a10), (11, .ref a11), (13, .int i13), (14, .int i14)] [.int k1, .ref b0] := by
  have hF := hFL.fix
  unfold f_L_law_251 at h
  refine g_iconst (v := (1 : Int32)) hF rfl dL_law_251 ?_
  refine g_goto (tgt := 256) hF dL_law_252 (by decide) ?_
  exact gG_sub [0, 1, 2, 3, 4, 5, 6, 7, 8, 9, 10, 11] rfl (t_L_law_256 hFL hn hd (by omega) (by omega) q3 q5 q6 q7 q10 q11 p0 h (fun v9 ad1 ce1 so1 q9 x1 y1 => hE v9 ad1 ce1 so1 q9 (gExt.tr gExt.rf x1) (gad_call y1 gExt.rf (fun _ _ => rfl))) (fun v9 ad1 ce1 so1 q9 x1 y1 => hN v9 ad1 ce1 so1 q9 (gExt.tr gExt.rf x1) (gad_call y1 gExt.rf (fun _ _ => rfl))))
theorem t_L_law_B1198 {Z : gZ} {d mc ms : Nat} {ad : Nat → Nat} {T : gT} {M : gM} {ce so c9 s9 K KS : Nat} {n : Nat} {f : Nat → Int32} {nm : String}  {i1 : Int32} {i2 : Int32} {a3 : Nat} {a7 : Nat} {i8 : Int32} {i9 : Int32} {o : (Int32 × gT × gM) ⊕ (Int32 × Int32 × gT × gM)} (hFL : gFixL Z cL_law RL nm (some .boolean) d mc ms (fun v _ _ _ => v = some (.int 1)) (fun _ _ _ _ => False) n f) (hn : Z.2.2.2.2.2.1 = 31) (hd : 60 ≤ d) (hk1 : ce + c9 + K ≤ mc) (hk2 : so + s9 + KS ≤ ms)  (h : f_L_law_B1198 n f T M i1 i2 a3 a7 i8 i9 = some (o, c9, s9)) (hE : ∀ (e9 : Int32 × gT × gM) (ad1 : Nat → Nat) (ce1 so1 : Nat), o = .inl e9 → gExt T e9.2.1 → (∀ a : Nat, a < T.length → ad1 a = ad a) → ce1 + K ≤ mc → so1 + KS ≤ ms → gG Z ad1 e9.2.1 e9.2.2 ce1 so1 1247 [(0, .ref (gSB + 3000)), (1, .int e9.1), (2, .int i2), (3, .ref a3)] []) (hN : ∀ (n9 : Int32 × Int32 × gT × gM) (ad1 : Nat → Nat) (ce1 so1 : Nat), o = .inr n9 → gExt T n9.2.2.1 → (∀ a : Nat, a < T.length → ad1 a = ad a) → ce1 + K ≤ mc → so1 + KS ≤ ms → gG Z ad1 n9.2.2.1 n9.2.2.2 ce1 so1 1198 [(0, .ref (gSB + 3000)), (1, .int n9.1), (2, .int i2), (3, .ref a3), (7, .ref a7), (8, .int i8), (9, .int n9.2.1)] []) : gG Z ad T M ce so 1198 [(0, .ref (gSB + 3000)), (1, .int i1), (2, .int i2), (3, .ref a3), (7, .ref a7), (8, .int i8), (9, .int i9)] [] := by
  have hF := hFL.fix
  unfold f_L_law_B1198 at h
  obtain ⟨_, h206, h⟩ := gbnd h
  obtain ⟨l206, q_206⟩ := gkd_sp h206
  obtain ⟨_, h207, h⟩ := gbnd h
  obtain ⟨l207, q_207⟩ := gkd_sp h207
  refine g_iload hF 6 rfl dL_law_1198 ?_
  refine g_bipush (v := (8 : Int32)) hF rfl dL_law_1200 ?_
  refine g_icmp_ge (tgt := 1247) hF dL_law_1202 (by decide) (fun c210 => ?_) (fun c210 => ?_)
  · replace h := gif_t c210 h
    cases h
    exact gG_sub [0, 1, 2, 3] rfl (hE _ _ _ _ rfl gExt.rf (fun _ _ => rfl) (by omega) (by omega))
  · replace h := gif_f c210 h
    refine g_iload hF 6 rfl dL_law_1205 ?_
    refine g_iload hF 5 rfl dL_law_1207 ?_
    refine g_icmp_ge (tgt := 1247) hF dL_law_1209 (by decide) (fun c211 => ?_) (fun c211 => ?_)
    · replace h := gif_t c211 h
      cases h
      exact gG_sub [0, 1, 2, 3] rfl (hE _ _ _ _ rfl gExt.rf (fun _ _ => rfl) (by omega) (by omega))
    · replace h := gif_f c211 h
      refine g_iload_n hF 1 rfl rfl dL_law_1212 ?_
      refine g_if_eq (tgt := 1247) hF dL_law_1213 (by decide) (fun c212 => ?_) (fun c212 => ?_)
      · replace h := gif_t c212 h
        cases h
        exact gG_sub [0, 1, 2, 3] rfl (hE _ _ _ _ rfl gExt.rf (fun _ _ => rfl) (by omega) (by omega))
      · replace h := gif_f c212 h
        refine g_aload_n hF 3 rfl rfl dL_law_1216 ?_
        obtain ⟨x213, h213, h⟩ := gbnd h
        refine g_callV hF my_X8_undo kw_382 kw_383 kw_384 gC_8.1 (by decide) q_206 (c_X8_undo (d := d - 1) (by omega) q_206 h213) (by omega) (by omega) (by omega) rfl rfl (Nat.le_of_ble_eq_true rfl) dL_law_1217 (g_sameS ?_)
        refine g_if_lt (tgt := 1239) hF dL_law_1220 (by decide) (fun c214 => ?_) (fun c214 => ?_)
        · replace h := gif_t c214 h
          exact gG_sub [0, 2, 3, 4, 5, 6] rfl (t_L_law_1239 hFL hn hd (by omega) (by omega) q_206 q_207 h (fun v9 ad1 ce1 so1 q9 x1 y1 => hE v9 ad1 ce1 so1 q9 (gExt.tr gExt.rf x1) (gad_call y1 gExt.rf (fun _ _ => rfl))) (fun v9 ad1 ce1 so1 q9 x1 y1 => hN v9 ad1 ce1 so1 q9 (gExt.tr gExt.rf x1) (gad_call y1 gExt.rf (fun _ _ => rfl))))
        · replace h := gif_f c214 h
          refine g_aload_n hF 3 rfl rfl dL_law_1223 ?_
          refine g_aload hF 4 rfl dL_law_1224 ?_
          refine g_iload hF 6 rfl dL_law_1226 ?_
          obtain ⟨o215, h215, h⟩ := gbnd h
          obtain ⟨_, z215, h⟩ := gbnd h
          have q_215 := gko_sp z215
          obtain ⟨i215h, e215v⟩ := aldo_sp q_207 h215
          refine g_aald_o hF q_207 i215h dL_law_1228 ?_
          rw [← e215v]
          obtain ⟨b217, h217, h⟩ := gbnd h
          obtain ⟨g217, l217, q_b217⟩ := gsm_sp h217
          refine gG_st (st' := [.ref b217, .ref a3]) (by first | (rw [g217]; rfl) | rw [g217]) ?_
          obtain ⟨x216, h216, h⟩ := gbnd h
          obtain ⟨c216, s216, h, ec216, es216⟩ := cadd_sp h
          refine g_callS hF my_L_agrees kw_1419 kw_1420 (c_L_agrees (d := d - 1) (by omega) q_206 q_b217 (trip h216)) (by omega) (by omega) (by omega) rfl rfl (Nat.le_of_ble_eq_true rfl) dL_law_1229 (g_madeS (gOld_s (Nat.le_add_right _ _) (gOld_i (gOld_i (gOld_r (gT_lt q_206) (gOld_r (gT_lt q_207) (gOld_i (gOld_i gOld_0))))))) gOld_0 (fun ad216 e216 y216 => ?_))
          have X216 := gExt.tr gExt.rf e216
          have W216 := gad_call y216 gExt.rf (fun _ _ => rfl)
          have q_218 := e216 _ _ q_206
          have q_219 := e216 _ _ q_207
          refine g_if_eq (tgt := 1239) hF dL_law_1232 (by decide) (fun c220 => ?_) (fun c220 => ?_)
          · replace h := gif_t c220 h
            exact gG_sub [0, 2, 3, 4, 5, 6] rfl (t_L_law_1239 hFL hn hd (by omega) (by omega) q_218 q_219 h (fun v9 ad1 ce1 so1 q9 x1 y1 => hE v9 ad1 ce1 so1 q9 (gExt.tr X216 x1) (gad_call y1 X216 W216)) (fun v9 ad1 ce1 so1 q9 x1 y1 => hN v9 ad1 ce1 so1 q9 (gExt.tr X216 x1) (gad_call y1 X216 W216)))
          · replace h := gif_f c220 h
            refine g_iconst (v := (1 : Int32)) hF rfl dL_law_1235 ?_
            refine g_goto (tgt := 1240) hF dL_law_1236 (by decide) ?_
            exact gG_sub [0, 2, 3, 4, 5, 6] rfl (t_L_law_1240 hFL hn hd (by omega) (by omega) q_218 q_219 h (fun v9 ad1 ce1 so1 q9 x1 y1 => hE v9 ad1 ce1 so1 q9 (gExt.tr X216 x1) (gad_call y1 X216 W216)) (fun v9 ad1 ce1 so1 q9 x1 y1 => hN v9 ad1 ce1 so1 q9 (gExt.tr X216 x1) (gad_call y1 X216 W216)))
theorem t_L_law_L1198 {Z : gZ} {d mc ms : Nat} {K KS : Nat} {n : Nat} {f : Nat → Int32} {nm : String} {i2 : Int32} {a3 : Nat} {a7 : Nat} {i8 : Int32} (hFL : gFixL Z cL_law RL nm (some .boolean) d mc ms (fun v _ _ _ => v = some (.int 1)) (fun _ _ _ _ => False) n f) (hn : Z.2.2.2.2.2.1 = 31) (hd : 60 ≤ d) : ∀ (n9 : Nat) {ad : Nat → Nat} {x0 : Int32 × Int32 × gT × gM} {e0 : Int32 × gT × gM} {ce so c9 s9 : Nat}, gloopc (fun x : Int32 × Int32 × gT × gM => f_L_law_B1198 n f x.2.2.1 x.2.2.2 x.1 i2 a3 a7 i8 x.2.1) n9 x0 = some (e0, c9, s9) → ce + c9 + K ≤ mc → so + s9 + KS ≤ ms → ∀ (hE : ∀ (e9 : Int32 × gT × gM) (ad1 : Nat → Nat) (ce1 so1 : Nat), e0 = e9 → gExt x0.2.2.1 e9.2.1 → (∀ a : Nat, a < x0.2.2.1.length → ad1 a = ad a) → ce1 + K ≤ mc → so1 + KS ≤ ms → gG Z ad1 e9.2.1 e9.2.2 ce1 so1 1247 [(0, .ref (gSB + 3000)), (1, .int e9.1), (2, .int i2), (3, .ref a3)] []), gG Z ad x0.2.2.1 x0.2.2.2 ce so 1198 [(0, .ref (gSB + 3000)), (1, .int x0.1), (2, .int i2), (3, .ref a3), (7, .ref a7), (8, .int i8), (9, .int x0.2.1)] []
  | 0 => fun h => nomatch h
  | n9 + 1 => fun h hk1 hk2 hE => by
    rcases gloopc_sp h with hB | ⟨a9, c1, s1, c2, s2, hB, h2, e1, e2⟩
    · exact t_L_law_B1198 (K := K) (KS := KS) hFL hn hd hk1 hk2 hB (fun e9 ad1 ce1 so1 q9 => hE e9 ad1 ce1 so1 (Sum.inl.inj q9)) (fun n8 ad1 ce1 so1 q9 => nomatch q9)
    · exact t_L_law_B1198 (K := c2 + K) (KS := s2 + KS) hFL hn hd (by omega) (by omega) hB (fun e9 ad1 ce1 so1 q9 => nomatch q9) (fun n8 ad1 ce1 so1 q9 x9 y9 k1 k2 => by rw [← Sum.inr.inj q9] at x9 ⊢; exact t_L_law_L1198 (K := K) (KS := KS) hFL hn hd n9 h2 (by omega) (by omega) (fun e9 ad2 ce2 so2 q8 x2 y2 => hE e9 ad2 ce2 so2 q8 (gExt.tr x9 x2) (gad_call y2 x9 y9)))
theorem t_L_law_B192 {Z : gZ} {d mc ms : Nat} {ad : Nat → Nat} {T : gT} {M : gM} {ce so c9 s9 K KS : Nat} {n : Nat} {f : Nat → Int32} {nm : String}  {i1 : Int32} {i2 : Int32} {a3 : Nat} {a5 : Nat} {a6 : Nat} {a7 : Nat} {i8 : Int32} {i9 : Int32} {o : (Int32 × Int32 × gT × gM) ⊕ (Int32 × Int32 × Int32 × gT × gM)} (hFL : gFixL Z cL_law RL nm (some .boolean) d mc ms (fun v _ _ _ => v = some (.int 1)) (fun _ _ _ _ => False) n f) (hn : Z.2.2.2.2.2.1 = 31) (hd : 60 ≤ d) (hk1 : ce + c9 + K ≤ mc) (hk2 : so + s9 + KS ≤ ms)  (h : f_L_law_B192 n f T M i1 i2 a3 a5 a6 a7 i8 i9 = some (o, c9, s9)) (hE : ∀ (e9 : Int32 × Int32 × gT × gM) (ad1 : Nat → Nat) (ce1 so1 : Nat), o = .inl e9 → gExt T e9.2.2.1 → (∀ a : Nat, a < T.length → ad1 a = ad a) → ce1 + K ≤ mc → so1 + KS ≤ ms → gG Z ad1 e9.2.2.1 e9.2.2.2 ce1 so1 1195 [(0, .ref (gSB + 3000)), (1, .int e9.1), (2, .int i2), (3, .ref a3), (7, .ref a7), (8, .int e9.2.1)] []) (hN : ∀ (n9 : Int32 × Int32 × Int32 × gT × gM) (ad1 : Nat → Nat) (ce1 so1 : Nat), o = .inr n9 → gExt T n9.2.2.2.1 → (∀ a : Nat, a < T.length → ad1 a = ad a) → ce1 + K ≤ mc → so1 + KS ≤ ms → gG Z ad1 n9.2.2.2.1 n9.2.2.2.2 ce1 so1 192 [(0, .ref (gSB + 3000)), (1, .int n9.1), (2, .int i2), (3, .ref a3), (5, .ref a5), (6, .ref a6), (7, .ref a7), (8, .int n9.2.1), (9, .int n9.2.2.1)] []) : gG Z ad T M ce so 192 [(0, .ref (gSB + 3000)), (1, .int i1), (2, .int i2), (3, .ref a3), (5, .ref a5), (6, .ref a6), (7, .ref a7), (8, .int i8), (9, .int i9)] [] := by
  have hF := hFL.fix
  unfold f_L_law_B192 at h
  obtain ⟨_, h224, h⟩ := gbnd h
  obtain ⟨l224, q_224⟩ := gkd_sp h224
  obtain ⟨_, h225, h⟩ := gbnd h
  obtain ⟨l225, q_225⟩ := gkd_sp h225
  obtain ⟨_, h226, h⟩ := gbnd h
  obtain ⟨l226, q_226⟩ := gkd_sp h226
  obtain ⟨_, h227, h⟩ := gbnd h
  obtain ⟨l227, q_227⟩ := gkd_sp h227
  refine g_iload hF 8 rfl dL_law_192 ?_
  refine g_bipush (v := (35 : Int32)) hF rfl dL_law_194 ?_
  refine g_icmp_ge (tgt := 1195) hF dL_law_196 (by decide) (fun c230 => ?_) (fun c230 => ?_)
  · replace h := gif_t c230 h
    cases h
    exact gG_sub [0, 1, 2, 3, 6, 7] rfl (hE _ _ _ _ rfl gExt.rf (fun _ _ => rfl) (by omega) (by omega))
  · replace h := gif_f c230 h
    refine g_iload_n hF 1 rfl rfl dL_law_199 ?_
    refine g_if_eq (tgt := 1195) hF dL_law_200 (by decide) (fun c231 => ?_) (fun c231 => ?_)
    · replace h := gif_t c231 h
      cases h
      exact gG_sub [0, 1, 2, 3, 6, 7] rfl (hE _ _ _ _ rfl gExt.rf (fun _ _ => rfl) (by omega) (by omega))
    · replace h := gif_f c231 h
      refine g_aload hF 5 rfl dL_law_203 ?_
      obtain ⟨x232, h232, h⟩ := gbnd h
      obtain ⟨c232, s232, h, ec232, es232⟩ := cadd_sp h
      refine g_callV hF my_X10_copy kw_523 kw_524 kw_525 gC_16.1 (by decide) q_226 (c_X10_copy (d := d - 1) (by omega) q_226 (trip h232)) (by omega) (by omega) (by omega) rfl rfl (Nat.le_of_ble_eq_true rfl) dL_law_205 (g_madeS (gOld_s (Nat.le_add_right _ _) (gOld_i (gOld_i (gOld_r (gT_lt q_224) (gOld_r (gT_lt q_225) (gOld_r (gT_lt q_226) (gOld_r (gT_lt q_227) (gOld_i (gOld_i gOld_0))))))))) gOld_0 (fun ad232 e232 y232 => ?_))
      have X232 := gExt.tr gExt.rf e232
      have W232 := gad_call y232 gExt.rf (fun _ _ => rfl)
      have q_233 := e232 _ _ q_224
      have q_234 := e232 _ _ q_225
      have q_235 := e232 _ _ q_226
      have q_236 := e232 _ _ q_227
      obtain ⟨_, h237, h⟩ := gbnd h
      obtain ⟨l237, q_237⟩ := gkd_sp h237
      refine g_astore (ls' := [(10, .ref x232.1.1), (0, .ref (gSB + 3000)), (1, .int i1), (2, .int i2), (3, .ref a3), (5, .ref a5), (6, .ref a6), (7, .ref a7), (8, .int i8), (9, .int i9)]) hF (by rw [hn]; decide) rfl dL_law_208 ?_
      refine g_aload hF 6 rfl dL_law_210 ?_
      obtain ⟨x238, h238, h⟩ := gbnd h
      obtain ⟨c238, s238, h, ec238, es238⟩ := cadd_sp h
      refine g_callV hF my_X10_bindings kw_611 kw_612 kw_613 gC_16.1 (by decide) q_235 (c_X10_bindings (d := d - 1) (by omega) q_235 (trip h238)) (by omega) (by omega) (by omega) rfl rfl (Nat.le_of_ble_eq_true rfl) dL_law_212 (g_madeS (gOld_r (gT_lt q_237) (gOld_s (Nat.le_add_right _ _) (gOld_i (gOld_i (gOld_r (gT_lt q_233) (gOld_r (gT_lt q_234) (gOld_r (gT_lt q_235) (gOld_r (gT_lt q_236) (gOld_i (gOld_i gOld_0)))))))))) gOld_0 (fun ad238 e238 y238 => ?_))
      have X238 := gExt.tr X232 e238
      have W238 := gad_call y238 X232 W232
      have q_239 := e238 _ _ q_237
      have q_240 := e238 _ _ q_233
      have q_241 := e238 _ _ q_234
      have q_242 := e238 _ _ q_235
      have q_243 := e238 _ _ q_236
      obtain ⟨_, h244, h⟩ := gbnd h
      obtain ⟨l244, q_244⟩ := gkd_sp h244
      refine g_astore (ls' := [(11, .ref x238.1.1), (10, .ref x232.1.1), (0, .ref (gSB + 3000)), (1, .int i1), (2, .int i2), (3, .ref a3), (5, .ref a5), (6, .ref a6), (7, .ref a7), (8, .int i8), (9, .int i9)]) hF (by rw [hn]; decide) rfl dL_law_215 ?_
      refine g_iconst (v := (1 : Int32)) hF rfl dL_law_217 ?_
      refine g_istore (ls' := [(12, .int (1 : Int32)), (11, .ref x238.1.1), (10, .ref x232.1.1), (0, .ref (gSB + 3000)), (1, .int i1), (2, .int i2), (3, .ref a3), (5, .ref a5), (6, .ref a6), (7, .ref a7), (8, .int i8), (9, .int i9)]) hF (by rw [hn]; decide) rfl dL_law_218 ?_
      refine g_ldc (v := (-2000000097 : Int32)) hF kw_971 dL_law_220 ?_
      refine g_istore (ls' := [(13, .int (-2000000097 : Int32)), (12, .int (1 : Int32)), (11, .ref x238.1.1), (10, .ref x232.1.1), (0, .ref (gSB + 3000)), (1, .int i1), (2, .int i2), (3, .ref a3), (5, .ref a5), (6, .ref a6), (7, .ref a7), (8, .int i8), (9, .int i9)]) hF (by rw [hn]; decide) rfl dL_law_222 ?_
      refine g_aload hF 9 rfl dL_law_224 ?_
      obtain ⟨b245, h245, h⟩ := gbnd h
      obtain ⟨g245, l245, q_b245⟩ := ldr_sp h245
      refine g_get_r hF g245 fl_RL_161 q_242 dL_law_226 ?_
      refine g_alenA hF q_b245 (by decide) dL_law_229 ?_
      refine g_istore (ls' := [(14, .int (Int32.ofNat (alen x238.1.2.1 b245))), (13, .int (-2000000097 : Int32)), (12, .int (1 : Int32)), (11, .ref x238.1.1), (10, .ref x232.1.1), (0, .ref (gSB + 3000)), (1, .int i1), (2, .int i2), (3, .ref a3), (5, .ref a5), (6, .ref a6), (7, .ref a7), (8, .int i8), (9, .int i9)]) hF (by rw [hn]; decide) rfl dL_law_230 ?_
      refine g_aload hF 9 rfl dL_law_232 ?_
      refine g_iload hF 0 rfl dL_law_234 ?_
      refine g_aload hF 9 rfl dL_law_236 ?_
      refine g_bipush (v := (12 : Int32)) hF rfl dL_law_238 ?_
      obtain ⟨x246, h246, h⟩ := gbnd h
      refine g_callV hF my_X12_below kw_636 kw_637 kw_638 gC_18.1 (by decide) q_241 (c_X12_below (d := d - 1) (by omega) q_241 h246) (by omega) (by omega) (by omega) rfl rfl (Nat.le_of_ble_eq_true rfl) dL_law_240 (g_sameS ?_)
      refine g_if_eq (tgt := 251) hF dL_law_243 (by decide) (fun c247 => ?_) (fun c247 => ?_)
      · replace h := gif_t c247 h
        exact gG_sub [5, 7, 8, 9, 10, 11, 12, 13, 4, 3, 1, 0] rfl (t_L_law_251 hFL hn hd (by omega) (by omega) q_240 q_241 q_242 q_243 q_239 q_244 q_241 h (fun v9 ad1 ce1 so1 q9 x1 y1 => hE v9 ad1 ce1 so1 q9 (gExt.tr X238 x1) (gad_call y1 X238 W238)) (fun v9 ad1 ce1 so1 q9 x1 y1 => hN v9 ad1 ce1 so1 q9 (gExt.tr X238 x1) (gad_call y1 X238 W238)))
      · replace h := gif_f c247 h
        refine g_iload hF 0 rfl dL_law_246 ?_
        refine g_if_ne (tgt := 255) hF dL_law_248 (by decide) (fun c248 => ?_) (fun c248 => ?_)
        · replace h := gif_t c248 h
          refine g_iconst (v := (0 : Int32)) hF rfl dL_law_255 ?_
          exact gG_sub [5, 7, 8, 9, 10, 11, 12, 13, 4, 3, 1, 0] rfl (t_L_law_256 hFL hn hd (by omega) (by omega) q_240 q_241 q_242 q_243 q_239 q_244 q_241 h (fun v9 ad1 ce1 so1 q9 x1 y1 => hE v9 ad1 ce1 so1 q9 (gExt.tr X238 x1) (gad_call y1 X238 W238)) (fun v9 ad1 ce1 so1 q9 x1 y1 => hN v9 ad1 ce1 so1 q9 (gExt.tr X238 x1) (gad_call y1 X238 W238)))
        · replace h := gif_n c248 h
          exact gG_sub [5, 7, 8, 9, 10, 11, 12, 13, 4, 3, 1, 0] rfl (t_L_law_251 hFL hn hd (by omega) (by omega) q_240 q_241 q_242 q_243 q_239 q_244 q_241 h (fun v9 ad1 ce1 so1 q9 x1 y1 => hE v9 ad1 ce1 so1 q9 (gExt.tr X238 x1) (gad_call y1 X238 W238)) (fun v9 ad1 ce1 so1 q9 x1 y1 => hN v9 ad1 ce1 so1 q9 (gExt.tr X238 x1) (gad_call y1 X238 W238)))
theorem t_L_law_L192 {Z : gZ} {d mc ms : Nat} {K KS : Nat} {n : Nat} {f : Nat → Int32} {nm : String} {i2 : Int32} {a3 : Nat} {a5 : Nat} {a6 : Nat} {a7 : Nat} (hFL : gFixL Z cL_law RL nm (some .boolean) d mc ms (fun v _ _ _ => v = some (.int 1)) (fun _ _ _ _ => False) n f) (hn : Z.2.2.2.2.2.1 = 31) (hd : 60 ≤ d) : ∀ (n9 : Nat) {ad : Nat → Nat} {x0 : Int32 × Int32 × Int32 × gT × gM} {e0 : Int32 × Int32 × gT × gM} {ce so c9 s9 : Nat}, gloopc (fun x : Int32 × Int32 × Int32 × gT × gM => f_L_law_B192 n f x.2.2.2.1 x.2.2.2.2 x.1 i2 a3 a5 a6 a7 x.2.1 x.2.2.1) n9 x0 = some (e0, c9, s9) → ce + c9 + K ≤ mc → so + s9 + KS ≤ ms → ∀ (hE : ∀ (e9 : Int32 × Int32 × gT × gM) (ad1 : Nat → Nat) (ce1 so1 : Nat), e0 = e9 → gExt x0.2.2.2.1 e9.2.2.1 → (∀ a : Nat, a < x0.2.2.2.1.length → ad1 a = ad a) → ce1 + K ≤ mc → so1 + KS ≤ ms → gG Z ad1 e9.2.2.1 e9.2.2.2 ce1 so1 1195 [(0, .ref (gSB + 3000)), (1, .int e9.1), (2, .int i2), (3, .ref a3), (7, .ref a7), (8, .int e9.2.1)] []), gG Z ad x0.2.2.2.1 x0.2.2.2.2 ce so 192 [(0, .ref (gSB + 3000)), (1, .int x0.1), (2, .int i2), (3, .ref a3), (5, .ref a5), (6, .ref a6), (7, .ref a7), (8, .int x0.2.1), (9, .int x0.2.2.1)] []
  | 0 => fun h => nomatch h
  | n9 + 1 => fun h hk1 hk2 hE => by
    rcases gloopc_sp h with hB | ⟨a9, c1, s1, c2, s2, hB, h2, e1, e2⟩
    · exact t_L_law_B192 (K := K) (KS := KS) hFL hn hd hk1 hk2 hB (fun e9 ad1 ce1 so1 q9 => hE e9 ad1 ce1 so1 (Sum.inl.inj q9)) (fun n8 ad1 ce1 so1 q9 => nomatch q9)
    · exact t_L_law_B192 (K := c2 + K) (KS := s2 + KS) hFL hn hd (by omega) (by omega) hB (fun e9 ad1 ce1 so1 q9 => nomatch q9) (fun n8 ad1 ce1 so1 q9 x9 y9 k1 k2 => by rw [← Sum.inr.inj q9] at x9 ⊢; exact t_L_law_L192 (K := K) (KS := KS) hFL hn hd n9 h2 (by omega) (by omega) (fun e9 ad2 ce2 so2 q8 x2 y2 => hE e9 ad2 ce2 so2 q8 (gExt.tr x9 x2) (gad_call y2 x9 y9)))
theorem t_L_law_1310 {Z : gZ} {d mc ms : Nat} {ad : Nat → Nat} {T : gT} {M : gM} {ce so c9 s9 K KS : Nat} {n : Nat} {f : Nat → Int32} {nm : String}  {i2 : Int32} {k0 : Int32} {o : (Int32) ⊕ (Int32 × Int32)} (hFL : gFixL Z cL_law RL nm (some .boolean) d mc ms (fun v _ _ _ => v = some (.int 1)) (fun _ _ _ _ => False) n f) (hn : Z.2.2.2.2.2.1 = 31) (hd : 60 ≤ d) (hk1 : ce + c9 + K ≤ mc) (hk2 : so + s9 + KS ≤ ms)  (h : f_L_law_1310 n f T M i2 k0 = some (o, c9, s9)) (hR : ∀ r9, o = .inl r9 → (some (.int r9) : Option Value) = some (.int 1)) (hN : ∀ (n9 : Int32 × Int32) (ad1 : Nat → Nat) (ce1 so1 : Nat) (T1 : gT) (M1 : gM), o = .inr n9 → ce1 + K ≤ mc → so1 + KS ≤ ms → gG Z ad1 T1 M1 ce1 so1 4 [(0, .ref (gSB + 3000)), (1, .int n9.1), (2, .int n9.2)] []) : gG Z ad T M ce so 1310 [(0, .ref (gSB + 3000)), (2, .int i2)] [.int k0] := by
  have hF := hFL.fix
  unfold f_L_law_1310 at h
  refine g_istore_n (ls' := [(1, .int k0), (0, .ref (gSB + 3000)), (2, .int i2)]) hF rfl (by rw [hn]; decide) rfl dL_law_1310 ?_
  refine g_iinc (n := 1) (v := (i2 + (1 : Int32))) (ls' := [(2, .int (i2 + (1 : Int32))), (1, .int k0), (0, .ref (gSB + 3000))]) hF 2 rfl rfl (by rw [hn]; decide) rfl dL_law_1311 ?_
  refine g_goto (tgt := 4) hF dL_law_1314 (by decide) ?_
  cases h
  exact gG_sub [2, 1, 0] rfl (hN _ _ _ _ _ _ rfl (by omega) (by omega))
theorem t_L_law_1309 {Z : gZ} {d mc ms : Nat} {ad : Nat → Nat} {T : gT} {M : gM} {ce so c9 s9 K KS : Nat} {n : Nat} {f : Nat → Int32} {nm : String}  {i2 : Int32} {o : (Int32) ⊕ (Int32 × Int32)} (hFL : gFixL Z cL_law RL nm (some .boolean) d mc ms (fun v _ _ _ => v = some (.int 1)) (fun _ _ _ _ => False) n f) (hn : Z.2.2.2.2.2.1 = 31) (hd : 60 ≤ d) (hk1 : ce + c9 + K ≤ mc) (hk2 : so + s9 + KS ≤ ms)  (h : f_L_law_1309 n f T M i2 = some (o, c9, s9)) (hR : ∀ r9, o = .inl r9 → (some (.int r9) : Option Value) = some (.int 1)) (hN : ∀ (n9 : Int32 × Int32) (ad1 : Nat → Nat) (ce1 so1 : Nat) (T1 : gT) (M1 : gM), o = .inr n9 → ce1 + K ≤ mc → so1 + KS ≤ ms → gG Z ad1 T1 M1 ce1 so1 4 [(0, .ref (gSB + 3000)), (1, .int n9.1), (2, .int n9.2)] []) : gG Z ad T M ce so 1309 [(0, .ref (gSB + 3000)), (2, .int i2)] [] := by
  have hF := hFL.fix
  unfold f_L_law_1309 at h
  refine g_iconst (v := (0 : Int32)) hF rfl dL_law_1309 ?_
  exact gG_sub [0, 1] rfl (t_L_law_1310 hFL hn hd (by omega) (by omega)  h hR hN)
theorem t_L_law_178 {Z : gZ} {d mc ms : Nat} {ad : Nat → Nat} {T : gT} {M : gM} {ce so c9 s9 K KS : Nat} {n : Nat} {f : Nat → Int32} {nm : String} {m_a3 m_a5 m_a6 : Nat} {i2 : Int32} {a3 : Nat} {a5 : Nat} {a6 : Nat} {k0 : Int32} {o : (Int32) ⊕ (Int32 × Int32)} (hFL : gFixL Z cL_law RL nm (some .boolean) d mc ms (fun v _ _ _ => v = some (.int 1)) (fun _ _ _ _ => False) n f) (hn : Z.2.2.2.2.2.1 = 31) (hd : 60 ≤ d) (hk1 : ce + c9 + K ≤ mc) (hk2 : so + s9 + KS ≤ ms) (q3 : T[a3]? = some (8, m_a3)) (q5 : T[a5]? = some (18, m_a5)) (q6 : T[a6]? = some (16, m_a6)) (h : f_L_law_178 n f T M i2 a3 a5 a6 k0 = some (o, c9, s9)) (hR : ∀ r9, o = .inl r9 → (some (.int r9) : Option Value) = some (.int 1)) (hN : ∀ (n9 : Int32 × Int32) (ad1 : Nat → Nat) (ce1 so1 : Nat) (T1 : gT) (M1 : gM), o = .inr n9 → ce1 + K ≤ mc → so1 + KS ≤ ms → gG Z ad1 T1 M1 ce1 so1 4 [(0, .ref (gSB + 3000)), (1, .int n9.1), (2, .int n9.2)] []) : gG Z ad T M ce so 178 [(0, .ref (gSB + 3000)), (2, .int i2), (3, .ref a3), (5, .ref a5), (6, .ref a6)] [.int k0] := by
  have hF := hFL.fix
  unfold f_L_law_178 at h
  refine g_istore_n (ls' := [(1, .int k0), (0, .ref (gSB + 3000)), (2, .int i2), (3, .ref a3), (5, .ref a5), (6, .ref a6)]) hF rfl (by rw [hn]; decide) rfl dL_law_178 ?_
  refine g_bipush (v := (9 : Int32)) hF rfl dL_law_179 ?_
  obtain ⟨x249, h249, h⟩ := gbnd h
  obtain ⟨c249, s249, h, ec249, es249⟩ := cadd_sp h
  have g249 : gnew T M (22, 9) = some (x249.1, x249.2.1, x249.2.2) := h249
  refine g_newq_Linker (N := 9) hF (by decide) (by decide) (by decide) kw_494 g249 (gnew_lt g249) (gFr_i (gFr_r (Nat.ne_of_gt (Nat.lt_of_lt_of_le (gnew_lt g249) (Nat.le_add_right _ _))) (gFr_i (gFr_r (gT_ne q3) (gFr_r (gT_ne q5) (gFr_r (gT_ne q6) gFr_0)))))) gFr_0 (by omega) (by omega) dL_law_181 (fun ad249 z249 => ?_)
  have y249 : ∀ b : Nat, b < T.length → ad249 b = ad b := fun b hb => z249 b (by rw [(gnew_sp g249).1]; omega)
  have X249 := gExt.tr gExt.rf (gnew_ext g249)
  have W249 := gad_call y249 gExt.rf (fun _ _ => rfl)
  have q_250 := (gnew_ext g249) _ _ q3
  have q_251 := (gnew_ext g249) _ _ q5
  have q_252 := (gnew_ext g249) _ _ q6
  have q_y249 := gnew_at g249
  refine g_astore (ls' := [(7, .ref x249.1), (1, .int k0), (0, .ref (gSB + 3000)), (2, .int i2), (3, .ref a3), (5, .ref a5), (6, .ref a6)]) hF (by rw [hn]; decide) rfl dL_law_184 ?_
  refine g_iconst (v := (0 : Int32)) hF rfl dL_law_186 ?_
  refine g_istore (ls' := [(8, .int (0 : Int32)), (7, .ref x249.1), (1, .int k0), (0, .ref (gSB + 3000)), (2, .int i2), (3, .ref a3), (5, .ref a5), (6, .ref a6)]) hF (by rw [hn]; decide) rfl dL_law_187 ?_
  refine g_iconst (v := (0 : Int32)) hF rfl dL_law_189 ?_
  refine g_istore (ls' := [(9, .int (0 : Int32)), (8, .int (0 : Int32)), (7, .ref x249.1), (1, .int k0), (0, .ref (gSB + 3000)), (2, .int i2), (3, .ref a3), (5, .ref a5), (6, .ref a6)]) hF (by rw [hn]; decide) rfl dL_law_190 ?_
  obtain ⟨x253, h253, h⟩ := gbnd h
  obtain ⟨c253, s253, h, ec253, es253⟩ := cadd_sp h
  refine gG_sub [4, 3, 5, 6, 7, 8, 2, 1, 0] rfl (t_L_law_L192 (K := c253 + K) (KS := s253 + KS) hFL hn hd gFU (trip h253) (by omega) (by omega) (fun e253 adE253 ceE253 soE253 qE253 xE253 yE253 kE253 kS253 => ?_))
  subst qE253
  have X253 := gExt.tr X249 xE253
  have W253 := gad_call yE253 X249 W249
  have q_254 := xE253 _ _ q_y249
  have q_255 := xE253 _ _ q_250
  have q_256 := xE253 _ _ q_251
  have q_257 := xE253 _ _ q_252
  refine g_iconst (v := (0 : Int32)) hF rfl dL_law_1195 ?_
  refine g_istore (ls' := [(9, .int (0 : Int32)), (0, .ref (gSB + 3000)), (1, .int x253.1.1), (2, .int i2), (3, .ref a3), (7, .ref x249.1), (8, .int x253.1.2.1)]) hF (by rw [hn]; decide) rfl dL_law_1196 ?_
  obtain ⟨x258, h258, h⟩ := gbnd h
  obtain ⟨c258, s258, h, ec258, es258⟩ := cadd_sp h
  refine gG_sub [1, 2, 3, 4, 5, 6, 0] rfl (t_L_law_L1198 (K := c258 + K) (KS := s258 + KS) hFL hn hd gFU (trip h258) (by omega) (by omega) (fun e258 adE258 ceE258 soE258 qE258 xE258 yE258 kE258 kS258 => ?_))
  subst qE258
  have X258 := gExt.tr X253 xE258
  have W258 := gad_call yE258 X253 W253
  have q_259 := xE258 _ _ q_255
  have q_260 := xE258 _ _ q_254
  refine g_iload_n hF 1 rfl rfl dL_law_1247 ?_
  refine g_if_eq (tgt := 1309) hF dL_law_1248 (by decide) (fun c261 => ?_) (fun c261 => ?_)
  · replace h := gif_t c261 h
    exact gG_sub [0, 2] rfl (t_L_law_1309 hFL hn hd (by omega) (by omega)  h hR hN)
  · replace h := gif_f c261 h
    refine g_aload_n hF 3 rfl rfl dL_law_1251 ?_
    refine g_iconst (v := (1 : Int32)) hF rfl dL_law_1252 ?_
    obtain ⟨x262, h262, h⟩ := gbnd h
    obtain ⟨c262, s262, h, ec262, es262⟩ := cadd_sp h
    refine g_callSW hF (n := 2) kw_643 kw_64 rfl (by decide +kernel) (by decide +kernel) (by decide) kw_641 kw_642 (c_L_load (d := d - 1) (by omega) q_259 h262) (by omega) (by omega) (by omega) rfl rfl (Nat.le_of_ble_eq_true rfl) dL_law_1253 (g_madeS (gOld_s (Nat.le_add_right _ _) (gOld_i (gOld_i (gOld_r (gT_lt q_259) gOld_0)))) gOld_0 (fun ad262 e262 y262 => ?_))
    have X262 := gExt.tr X258 e262
    have W262 := gad_call y262 X258 W258
    have q_263 := e262 _ _ q_259
    refine g_ldc (v := (-2000000098 : Int32)) hF kw_942 dL_law_1256 ?_
    refine g_icmp_ne (tgt := 1309) hF dL_law_1258 (by decide) (fun c264 => ?_) (fun c264 => ?_)
    · replace h := gif_t c264 h
      exact gG_sub [0, 2] rfl (t_L_law_1309 hFL hn hd (by omega) (by omega)  h hR hN)
    · replace h := gif_n c264 h
      refine g_aload_n hF 3 rfl rfl dL_law_1261 ?_
      refine g_iconst (v := (-1 : Int32)) hF rfl dL_law_1262 ?_
      refine g_iconst (v := (-1 : Int32)) hF rfl dL_law_1263 ?_
      obtain ⟨x265, h265, h⟩ := gbnd h
      obtain ⟨c265, s265, h, ec265, es265⟩ := cadd_sp h
      refine g_callSW hF (n := 3) kw_1078 kw_64 rfl (by decide +kernel) (by decide +kernel) (by decide) kw_1076 kw_1077 (c_L_setTrust (d := d - 1) (by omega) q_263 h265) (by omega) (by omega) (by omega) rfl rfl (Nat.le_of_ble_eq_true rfl) dL_law_1264 (g_sameS ?_)
      refine g_ldc (v := (-2000000097 : Int32)) hF kw_971 dL_law_1267 ?_
      refine g_icmp_ne (tgt := 1309) hF dL_law_1269 (by decide) (fun c266 => ?_) (fun c266 => ?_)
      · replace h := gif_t c266 h
        exact gG_sub [0, 2] rfl (t_L_law_1309 hFL hn hd (by omega) (by omega)  h hR hN)
      · replace h := gif_n c266 h
        refine g_aload_n hF 3 rfl rfl dL_law_1272 ?_
        refine g_iconst (v := (0 : Int32)) hF rfl dL_law_1273 ?_
        refine g_bipush (v := (12 : Int32)) hF rfl dL_law_1274 ?_
        obtain ⟨x267, h267, h⟩ := gbnd h
        obtain ⟨c267, s267, h, ec267, es267⟩ := cadd_sp h
        refine g_callSW hF (n := 3) kw_983 kw_64 rfl (by decide +kernel) (by decide +kernel) (by decide) kw_981 kw_982 (c_L_call (d := d - 1) (by omega) q_263 h267) (by omega) (by omega) (by omega) rfl rfl (Nat.le_of_ble_eq_true rfl) dL_law_1276 (g_sameS ?_)
        refine g_ldc (v := (-2000000097 : Int32)) hF kw_971 dL_law_1279 ?_
        refine g_icmp_ne (tgt := 1309) hF dL_law_1281 (by decide) (fun c268 => ?_) (fun c268 => ?_)
        · replace h := gif_t c268 h
          exact gG_sub [0, 2] rfl (t_L_law_1309 hFL hn hd (by omega) (by omega)  h hR hN)
        · replace h := gif_n c268 h
          refine g_aload_n hF 3 rfl rfl dL_law_1284 ?_
          refine g_iconst (v := (-1 : Int32)) hF rfl dL_law_1285 ?_
          obtain ⟨x269, h269, h⟩ := gbnd h
          obtain ⟨c269, s269, h, ec269, es269⟩ := cadd_sp h
          refine g_callSW hF (n := 2) kw_945 kw_64 rfl (by decide +kernel) (by decide +kernel) (by decide) kw_943 kw_944 (c_L_candidates (d := d - 1) (by omega) q_263 h269) (by omega) (by omega) (by omega) rfl rfl (Nat.le_of_ble_eq_true rfl) dL_law_1286 (g_sameS ?_)
          refine g_ldc (v := (-2000000097 : Int32)) hF kw_971 dL_law_1289 ?_
          refine g_icmp_ne (tgt := 1309) hF dL_law_1291 (by decide) (fun c270 => ?_) (fun c270 => ?_)
          · replace h := gif_t c270 h
            exact gG_sub [0, 2] rfl (t_L_law_1309 hFL hn hd (by omega) (by omega)  h hR hN)
          · replace h := gif_n c270 h
            refine g_aload_n hF 3 rfl rfl dL_law_1294 ?_
            refine g_bipush (v := (12 : Int32)) hF rfl dL_law_1295 ?_
            obtain ⟨x271, h271, h⟩ := gbnd h
            obtain ⟨c271, s271, h, ec271, es271⟩ := cadd_sp h
            refine g_callSW hF (n := 2) kw_974 kw_64 rfl (by decide +kernel) (by decide +kernel) (by decide) kw_972 kw_973 (c_L_minority (d := d - 1) (by omega) q_263 h271) (by omega) (by omega) (by omega) rfl rfl (Nat.le_of_ble_eq_true rfl) dL_law_1297 (g_sameS ?_)
            refine g_ldc (v := (-2000000097 : Int32)) hF kw_971 dL_law_1300 ?_
            refine g_icmp_ne (tgt := 1309) hF dL_law_1302 (by decide) (fun c272 => ?_) (fun c272 => ?_)
            · replace h := gif_t c272 h
              exact gG_sub [0, 2] rfl (t_L_law_1309 hFL hn hd (by omega) (by omega)  h hR hN)
            · replace h := gif_n c272 h
              refine g_iconst (v := (1 : Int32)) hF rfl dL_law_1305 ?_
              refine g_goto (tgt := 1310) hF dL_law_1306 (by decide) ?_
              exact gG_sub [0, 2] rfl (t_L_law_1310 hFL hn hd (by omega) (by omega)  h hR hN)
