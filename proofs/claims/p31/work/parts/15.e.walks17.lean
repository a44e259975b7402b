theorem t_L_law_177 {Z : gZ} {d mc ms : Nat} {ad : Nat → Nat} {T : gT} {M : gM} {ce so c9 s9 K KS : Nat} {n : Nat} {f : Nat → Int32} {nm : String} {m_a3 m_a5 m_a6 : Nat} {i2 : Int32} {a3 : Nat} {a5 : Nat} {a6 : Nat} {o : (Int32) ⊕ (Int32 × Int32)} (hFL : gFixL Z cL_law RL nm (some .boolean) d mc ms (fun v _ _ _ => v = some (.int 1)) (fun _ _ _ _ => False) n f) (hn : Z.2.2.2.2.2.1 = 31) (hd : 60 ≤ d) (hk1 : ce + c9 + K ≤ mc) (hk2 : so + s9 + KS ≤ ms) (q3 : T[a3]? = some (8, m_a3)) (q5 : T[a5]? = some (18, m_a5)) (q6 : T[a6]? = some (16, m_a6)) (h : f_L_law_177 n f T M i2 a3 a5 a6 = some (o, c9, s9)) (hR : ∀ r9, o = .inl r9 → (some (.int r9) : Option Value) = some (.int 1)) (hN : ∀ (n9 : Int32 × Int32) (ad1 : Nat → Nat) (ce1 so1 : Nat) (T1 : gT) (M1 : gM), o = .inr n9 → ce1 + K ≤ mc → so1 + KS ≤ ms → gG Z ad1 T1 M1 ce1 so1 4 [(0, .ref (gSB + 3000)), (1, .int n9.1), (2, .int n9.2)] []) : gG Z ad T M ce so 177 [(0, .ref (gSB + 3000)), (2, .int i2), (3, .ref a3), (5, .ref a5), (6, .ref a6)] [] := by
  have hF := hFL.fix
  unfold f_L_law_177 at h
  refine g_iconst (v := (0 : Int32)) hF rfl dL_law_177 ?_
  exact gG_sub [0, 1, 2, 3, 4] rfl (t_L_law_178 hFL hn hd (by omega) (by omega) q3 q5 q6 h hR hN)
theorem t_L_law_140 {Z : gZ} {d mc ms : Nat} {ad : Nat → Nat} {T : gT} {M : gM} {ce so c9 s9 K KS : Nat} {n : Nat} {f : Nat → Int32} {nm : String} {m_a3 m_a4 m_a5 : Nat} {i2 : Int32} {a3 : Nat} {a4 : Nat} {a5 : Nat} {k0 : Int32} {o : (Int32) ⊕ (Int32 × Int32)} (hFL : gFixL Z cL_law RL nm (some .boolean) d mc ms (fun v _ _ _ => v = some (.int 1)) (fun _ _ _ _ => False) n f) (hn : Z.2.2.2.2.2.1 = 31) (hd : 60 ≤ d) (hk1 : ce + c9 + K ≤ mc) (hk2 : so + s9 + KS ≤ ms) (q3 : T[a3]? = some (8, m_a3)) (q4 : T[a4]? = some (11, m_a4)) (q5 : T[a5]? = some (18, m_a5)) (h : f_L_law_140 n f T M i2 a3 a4 a5 k0 = some (o, c9, s9)) (hR : ∀ r9, o = .inl r9 → (some (.int r9) : Option Value) = some (.int 1)) (hN : ∀ (n9 : Int32 × Int32) (ad1 : Nat → Nat) (ce1 so1 : Nat) (T1 : gT) (M1 : gM), o = .inr n9 → ce1 + K ≤ mc → so1 + KS ≤ ms → gG Z ad1 T1 M1 ce1 so1 4 [(0, .ref (gSB + 3000)), (1, .int n9.1), (2, .int n9.2)] []) : gG Z ad T M ce so 140 [(0, .ref (gSB + 3000)), (2, .int i2), (3, .ref a3), (4, .ref a4), (5, .ref a5)] [.int k0] := by
  have hF := hFL.fix
  unfold f_L_law_140 at h
  refine g_istore_n (ls' := [(1, .int k0), (0, .ref (gSB + 3000)), (2, .int i2), (3, .ref a3), (4, .ref a4), (5, .ref a5)]) hF rfl (by rw [hn]; decide) rfl dL_law_140 ?_
  refine g_aload_n hF 3 rfl rfl dL_law_141 ?_
  refine g_aload hF 4 rfl dL_law_142 ?_
  refine g_aload hF 5 rfl dL_law_144 ?_
  refine g_iconst (v := (4 : Int32)) hF rfl dL_law_146 ?_
  refine g_iconst (v := (5 : Int32)) hF rfl dL_law_147 ?_
  obtain ⟨x273, h273, h⟩ := gbnd h
  obtain ⟨c273, s273, h, ec273, es273⟩ := cadd_sp h
  refine g_callS hF my_L_randomLinker kw_1102 kw_1103 (c_L_randomLinker (d := d - 1) (by omega) q3 q4 q5 (trip h273)) (by omega) (by omega) (by omega) rfl rfl (Nat.le_of_ble_eq_true rfl) dL_law_148 (g_madeS (gOld_i (gOld_s (Nat.le_add_right _ _) (gOld_i (gOld_r (gT_lt q3) (gOld_r (gT_lt q4) (gOld_r (gT_lt q5) gOld_0)))))) gOld_0 (fun ad273 e273 y273 => ?_))
  have X273 := gExt.tr gExt.rf e273
  have W273 := gad_call y273 gExt.rf (fun _ _ => rfl)
  have q_274 := e273 _ _ q3
  have q_275 := e273 _ _ q4
  have q_276 := e273 _ _ q5
  obtain ⟨_, h277, h⟩ := gbnd h
  obtain ⟨l277, q_277⟩ := gkd_sp h277
  refine g_astore (ls' := [(6, .ref x273.1.1), (1, .int k0), (0, .ref (gSB + 3000)), (2, .int i2), (3, .ref a3), (4, .ref a4), (5, .ref a5)]) hF (by rw [hn]; decide) rfl dL_law_151 ?_
  refine g_aload hF 0 rfl dL_law_153 ?_
  refine g_ifnonnullR (tgt := 160) hF dL_law_155 (by decide) ?_
  refine g_iload_n hF 1 rfl rfl dL_law_160 ?_
  refine g_if_eq (tgt := 177) hF dL_law_161 (by decide) (fun c278 => ?_) (fun c278 => ?_)
  · replace h := gif_t c278 h
    exact gG_sub [2, 3, 4, 6, 0] rfl (t_L_law_177 hFL hn hd (by omega) (by omega) q_274 q_276 q_277 h hR hN)
  · replace h := gif_f c278 h
    refine g_aload_n hF 4 rfl rfl dL_law_164 ?_
    refine g_aload hF 0 rfl dL_law_165 ?_
    obtain ⟨x279, h279, h⟩ := gbnd h
    obtain ⟨c279, s279, h, ec279, es279⟩ := cadd_sp h
    refine g_callS hF my_L_agrees kw_1419 kw_1420 (c_L_agrees (d := d - 1) (by omega) q_274 q_277 (trip h279)) (by omega) (by omega) (by omega) rfl rfl (Nat.le_of_ble_eq_true rfl) dL_law_167 (g_madeS (gOld_r (gT_lt q_277) (gOld_i (gOld_s (Nat.le_add_right _ _) (gOld_i (gOld_r (gT_lt q_274) (gOld_r (gT_lt q_275) (gOld_r (gT_lt q_276) gOld_0))))))) gOld_0 (fun ad279 e279 y279 => ?_))
    have X279 := gExt.tr X273 e279
    have W279 := gad_call y279 X273 W273
    have q_280 := e279 _ _ q_277
    have q_281 := e279 _ _ q_274
    have q_282 := e279 _ _ q_275
    have q_283 := e279 _ _ q_276
    refine g_if_eq (tgt := 177) hF dL_law_170 (by decide) (fun c284 => ?_) (fun c284 => ?_)
    · replace h := gif_t c284 h
      exact gG_sub [2, 3, 4, 6, 0] rfl (t_L_law_177 hFL hn hd (by omega) (by omega) q_281 q_283 q_280 h hR hN)
    · replace h := gif_f c284 h
      refine g_iconst (v := (1 : Int32)) hF rfl dL_law_173 ?_
      refine g_goto (tgt := 178) hF dL_law_174 (by decide) ?_
      exact gG_sub [2, 3, 4, 6, 0] rfl (t_L_law_178 hFL hn hd (by omega) (by omega) q_281 q_283 q_280 h hR hN)
theorem t_L_law_139 {Z : gZ} {d mc ms : Nat} {ad : Nat → Nat} {T : gT} {M : gM} {ce so c9 s9 K KS : Nat} {n : Nat} {f : Nat → Int32} {nm : String} {m_a3 m_a4 m_a5 : Nat} {i2 : Int32} {a3 : Nat} {a4 : Nat} {a5 : Nat} {o : (Int32) ⊕ (Int32 × Int32)} (hFL : gFixL Z cL_law RL nm (some .boolean) d mc ms (fun v _ _ _ => v = some (.int 1)) (fun _ _ _ _ => False) n f) (hn : Z.2.2.2.2.2.1 = 31) (hd : 60 ≤ d) (hk1 : ce + c9 + K ≤ mc) (hk2 : so + s9 + KS ≤ ms) (q3 : T[a3]? = some (8, m_a3)) (q4 : T[a4]? = some (11, m_a4)) (q5 : T[a5]? = some (18, m_a5)) (h : f_L_law_139 n f T M i2 a3 a4 a5 = some (o, c9, s9)) (hR : ∀ r9, o = .inl r9 → (some (.int r9) : Option Value) = some (.int 1)) (hN : ∀ (n9 : Int32 × Int32) (ad1 : Nat → Nat) (ce1 so1 : Nat) (T1 : gT) (M1 : gM), o = .inr n9 → ce1 + K ≤ mc → so1 + KS ≤ ms → gG Z ad1 T1 M1 ce1 so1 4 [(0, .ref (gSB + 3000)), (1, .int n9.1), (2, .int n9.2)] []) : gG Z ad T M ce so 139 [(0, .ref (gSB + 3000)), (2, .int i2), (3, .ref a3), (4, .ref a4), (5, .ref a5)] [] := by
  have hF := hFL.fix
  unfold f_L_law_139 at h
  refine g_iconst (v := (0 : Int32)) hF rfl dL_law_139 ?_
  exact gG_sub [0, 1, 2, 3, 4] rfl (t_L_law_140 hFL hn hd (by omega) (by omega) q3 q4 q5 h hR hN)
theorem t_L_law_B4 {Z : gZ} {d mc ms : Nat} {ad : Nat → Nat} {T : gT} {M : gM} {ce so c9 s9 K KS : Nat} {n : Nat} {f : Nat → Int32} {nm : String}  {i1 : Int32} {i2 : Int32} {o : (Int32) ⊕ (Int32 × Int32)} (hFL : gFixL Z cL_law RL nm (some .boolean) d mc ms (fun v _ _ _ => v = some (.int 1)) (fun _ _ _ _ => False) n f) (hn : Z.2.2.2.2.2.1 = 31) (hd : 60 ≤ d) (hk1 : ce + c9 + K ≤ mc) (hk2 : so + s9 + KS ≤ ms)  (h : f_L_law_B4 n f i1 i2 = some (o, c9, s9)) (hR : ∀ r9, o = .inl r9 → (some (.int r9) : Option Value) = some (.int 1)) (hN : ∀ (n9 : Int32 × Int32) (ad1 : Nat → Nat) (ce1 so1 : Nat) (T1 : gT) (M1 : gM), o = .inr n9 → ce1 + K ≤ mc → so1 + KS ≤ ms → gG Z ad1 T1 M1 ce1 so1 4 [(0, .ref (gSB + 3000)), (1, .int n9.1), (2, .int n9.2)] []) : gG Z ad [] gM0 ce so 4 [(0, .ref (gSB + 3000)), (1, .int i1), (2, .int i2)] [] := by
  have hF := hFL.fix
  unfold f_L_law_B4 at h
  refine g_iload_n hF 2 rfl rfl dL_law_4 ?_
  refine g_aload_n hF 0 rfl rfl dL_law_5 ?_
  refine g_scl hFL dL_law_6 ?_
  refine g_icmp_ge (tgt := 1317) hF dL_law_7 (by decide) (fun c288 => ?_) (fun c288 => ?_)
  · replace h := gif_t c288 h
    refine g_iload_n hF 1 rfl rfl dL_law_1317 ?_
    obtain ⟨_, h289, h⟩ := gbnd h
    cases h
    exact g_ret_i hF rfl (gbool (chk_sp h289)) dL_law_1318 (hR _ rfl) (by omega) (by omega)
  · replace h := gif_f c288 h
    refine g_iload_n hF 2 rfl rfl dL_law_10 ?_
    refine g_iconst (v := (2 : Int32)) hF rfl dL_law_11 ?_
    refine g_icmp_ge (tgt := 1317) hF dL_law_12 (by decide) (fun c290 => ?_) (fun c290 => ?_)
    · replace h := gif_t c290 h
      refine g_iload_n hF 1 rfl rfl dL_law_1317 ?_
      obtain ⟨_, h291, h⟩ := gbnd h
      cases h
      exact g_ret_i hF rfl (gbool (chk_sp h291)) dL_law_1318 (hR _ rfl) (by omega) (by omega)
    · replace h := gif_f c290 h
      refine g_iload_n hF 1 rfl rfl dL_law_15 ?_
      refine g_if_eq (tgt := 1317) hF dL_law_16 (by decide) (fun c292 => ?_) (fun c292 => ?_)
      · replace h := gif_t c292 h
        refine g_iload_n hF 1 rfl rfl dL_law_1317 ?_
        obtain ⟨_, h293, h⟩ := gbnd h
        cases h
        exact g_ret_i hF rfl (gbool (chk_sp h293)) dL_law_1318 (hR _ rfl) (by omega) (by omega)
      · replace h := gif_f c292 h
        obtain ⟨x294, h294, h⟩ := gbnd h
        obtain ⟨c294, s294, h, ec294, es294⟩ := cadd_sp h
        have g294 : gnew ([]) gM0 (8, 0) = some (x294.1, x294.2.1, x294.2.2) := h294
        refine g_new hF gC_8 gDf_8 kw_96 kw_97 kw_65 g294 (gnew_lt g294) (gFr_r (Nat.ne_of_gt (Nat.lt_of_lt_of_le (gnew_lt g294) (Nat.le_add_right _ _))) (gFr_i (gFr_i gFr_0))) gFr_0 (by omega) (by omega) dL_law_19 (fun ad294 z294 => ?_)
        have y294 : ∀ b : Nat, b < ([]).length → ad294 b = ad b := fun b hb => z294 b (by rw [(gnew_sp g294).1]; omega)
        have X294 := gExt.tr gExt.rf (gnew_ext g294)
        have W294 := gad_call y294 gExt.rf (fun _ _ => rfl)
        have q_y294 := gnew_at g294
        refine g_dup hF rfl dL_law_22 ?_
        obtain ⟨x295, h295, h⟩ := gbnd h
        obtain ⟨c295, s295, h, ec295, es295⟩ := cadd_sp h
        refine g_callI hF my_X8_init kw_98 kw_99 rfl gC_8.1 (by decide) q_y294 (c_X8_init (d := d - 1) (by omega) q_y294 h295) (by omega) (by omega) (by omega) rfl rfl (Nat.le_of_ble_eq_true rfl) dL_law_23 (g_madeN (gOld_s (Nat.le_add_right _ _) (gOld_i (gOld_i gOld_0))) (gOld_r (gT_lt q_y294) gOld_0) (fun ad295 e295 y295 => ?_))
        have X295 := gExt.tr X294 e295
        have W295 := gad_call y295 X294 W294
        have q_296 := e295 _ _ q_y294
        refine g_astore_n (ls' := [(3, .ref x294.1), (0, .ref (gSB + 3000)), (1, .int i1), (2, .int i2)]) hF rfl (by rw [hn]; decide) rfl dL_law_26 ?_
        refine g_bipush (v := (8 : Int32)) hF rfl dL_law_27 ?_
        obtain ⟨x297, h297, h⟩ := gbnd h
        obtain ⟨c297, s297, h, ec297, es297⟩ := cadd_sp h
        have g297 : gnew x295.1 x295.2 (11, 8) = some (x297.1, x297.2.1, x297.2.2) := h297
        refine g_newa_int (N := 8) hF (by decide) (by decide) (by decide) kw_167 g297 (gnew_lt g297) (gFr_r (gT_ne q_296) (gFr_r (Nat.ne_of_gt (Nat.lt_of_lt_of_le (gnew_lt g297) (Nat.le_add_right _ _))) (gFr_i (gFr_i gFr_0)))) gFr_0 (by omega) (by omega) dL_law_29 (fun ad297 z297 => ?_)
        have y297 : ∀ b : Nat, b < x295.1.length → ad297 b = ad295 b := fun b hb => z297 b (by rw [(gnew_sp g297).1]; omega)
        have X297 := gExt.tr X295 (gnew_ext g297)
        have W297 := gad_call y297 X295 W295
        have q_298 := (gnew_ext g297) _ _ q_296
        have q_y297 := gnew_at g297
        refine g_astore (ls' := [(4, .ref x297.1), (3, .ref x294.1), (0, .ref (gSB + 3000)), (1, .int i1), (2, .int i2)]) hF (by rw [hn]; decide) rfl dL_law_31 ?_
        obtain ⟨x299, h299, h⟩ := gbnd h
        obtain ⟨c299, s299, h, ec299, es299⟩ := cadd_sp h
        have g299 : gnew x297.2.1 x297.2.2 (18, 0) = some (x299.1, x299.2.1, x299.2.2) := h299
        refine g_new hF gC_18 gDf_18 kw_626 kw_627 kw_74 g299 (gnew_lt g299) (gFr_r (gT_ne q_y297) (gFr_r (gT_ne q_298) (gFr_r (Nat.ne_of_gt (Nat.lt_of_lt_of_le (gnew_lt g299) (Nat.le_add_right _ _))) (gFr_i (gFr_i gFr_0))))) gFr_0 (by omega) (by omega) dL_law_33 (fun ad299 z299 => ?_)
        have y299 : ∀ b : Nat, b < x297.2.1.length → ad299 b = ad297 b := fun b hb => z299 b (by rw [(gnew_sp g299).1]; omega)
        have X299 := gExt.tr X297 (gnew_ext g299)
        have W299 := gad_call y299 X297 W297
        have q_300 := (gnew_ext g299) _ _ q_y297
        have q_301 := (gnew_ext g299) _ _ q_298
        have q_y299 := gnew_at g299
        refine g_dup hF rfl dL_law_36 ?_
        refine g_aload_n hF 2 rfl rfl dL_law_37 ?_
        refine g_iload_n hF 4 rfl rfl dL_law_38 ?_
        obtain ⟨v302, h302, h⟩ := gbnd h
        obtain ⟨i302h, e302v⟩ := scr_sp h302
        refine g_sci hFL i302h dL_law_39 ?_
        rw [← e302v]
        obtain ⟨x303, h303, h⟩ := gbnd h
        refine g_callI hF my_X12_init kw_628 kw_629 rfl gC_18.1 (by decide) q_y299 (c_X12_init (d := d - 1) (by omega) q_y299 h303) (by omega) (by omega) (by omega) rfl rfl (Nat.le_of_ble_eq_true rfl) dL_law_40 (g_sameN ?_)
        refine g_astore (ls' := [(5, .ref x299.1), (4, .ref x297.1), (3, .ref x294.1), (0, .ref (gSB + 3000)), (1, .int i1), (2, .int i2)]) hF (by rw [hn]; decide) rfl dL_law_43 ?_
        refine g_aload_n hF 2 rfl rfl dL_law_45 ?_
        obtain ⟨x304, h304, h⟩ := gbnd h
        obtain ⟨c304, s304, h, ec304, es304⟩ := cadd_sp h
        have g304 : gnew x299.2.1 x303 (16, 0) = some (x304.1, x304.2.1, x304.2.2) := h304
        refine g_new hF gC_16 gDf_16 kw_494 kw_495 kw_75 g304 (gnew_lt g304) (gFr_r (gT_ne q_y299) (gFr_r (gT_ne q_300) (gFr_r (gT_ne q_301) (gFr_r (Nat.ne_of_gt (Nat.lt_of_lt_of_le (gnew_lt g304) (Nat.le_add_right _ _))) (gFr_i (gFr_i gFr_0)))))) (gFr_r (gT_ne q_301) gFr_0) (by omega) (by omega) dL_law_46 (fun ad304 z304 => ?_)
        have y304 : ∀ b : Nat, b < x299.2.1.length → ad304 b = ad299 b := fun b hb => z304 b (by rw [(gnew_sp g304).1]; omega)
        have X304 := gExt.tr X299 (gnew_ext g304)
        have W304 := gad_call y304 X299 W299
        have q_305 := (gnew_ext g304) _ _ q_y299
        have q_306 := (gnew_ext g304) _ _ q_300
        have q_307 := (gnew_ext g304) _ _ q_301
        have q_y304 := gnew_at g304
        refine g_dup hF rfl dL_law_49 ?_
        obtain ⟨x308, h308, h⟩ := gbnd h
        obtain ⟨c308, s308, h, ec308, es308⟩ := cadd_sp h
        refine g_callIN hF my_X10_init kn_496 kw_497 rfl gC_16.1 (by decide) q_y304 (c_X10_init (d := d - 1) (by omega) q_y304 (trip h308)) (by omega) (by omega) (by omega) rfl rfl (Nat.le_of_ble_eq_true rfl) dL_law_50 (g_madeN (gOld_r (gT_lt q_305) (gOld_r (gT_lt q_306) (gOld_r (gT_lt q_307) (gOld_s (Nat.le_add_right _ _) (gOld_i (gOld_i gOld_0)))))) (gOld_r (gT_lt q_y304) (gOld_r (gT_lt q_307) gOld_0)) (fun ad308 e308 y308 => ?_))
        have X308 := gExt.tr X304 e308
        have W308 := gad_call y308 X304 W304
        have q_309 := e308 _ _ q_305
        have q_310 := e308 _ _ q_306
        have q_311 := e308 _ _ q_307
        have q_312 := e308 _ _ q_y304
        obtain ⟨x313, h313, h⟩ := gbnd h
        obtain ⟨c313, s313, h, ec313, es313⟩ := cadd_sp h
        refine g_callS hF my_L_agrees kw_1419 kw_1420 (c_L_agrees (d := d - 1) (by omega) q_311 q_312 (trip h313)) (by omega) (by omega) (by omega) rfl rfl (Nat.le_of_ble_eq_true rfl) dL_law_53 (g_madeS (gOld_r (gT_lt q_309) (gOld_r (gT_lt q_310) (gOld_r (gT_lt q_311) (gOld_s (Nat.le_add_right _ _) (gOld_i (gOld_i gOld_0)))))) gOld_0 (fun ad313 e313 y313 => ?_))
        have X313 := gExt.tr X308 e313
        have W313 := gad_call y313 X308 W308
        have q_314 := e313 _ _ q_309
        have q_315 := e313 _ _ q_310
        have q_316 := e313 _ _ q_311
        refine g_if_eq (tgt := 139) hF dL_law_56 (by decide) (fun c317 => ?_) (fun c317 => ?_)
        · replace h := gif_t c317 h
          exact gG_sub [3, 5, 2, 1, 0] rfl (t_L_law_139 hFL hn hd (by omega) (by omega) q_316 q_315 q_314 h hR hN)
        · replace h := gif_f c317 h
          refine g_aload_n hF 2 rfl rfl dL_law_59 ?_
          obtain ⟨x318, h318, h⟩ := gbnd h
          refine g_callV hF my_X8_errorOffset kw_374 kw_375 kw_376 gC_8.1 (by decide) q_316 (c_X8_errorOffset (d := d - 1) (by omega) q_316 h318) (by omega) (by omega) (by omega) rfl rfl (Nat.le_of_ble_eq_true rfl) dL_law_60 (g_sameS ?_)
          refine g_iconst (v := (-1 : Int32)) hF rfl dL_law_63 ?_
          refine g_icmp_ne (tgt := 139) hF dL_law_64 (by decide) (fun c319 => ?_) (fun c319 => ?_)
          · replace h := gif_t c319 h
            exact gG_sub [3, 5, 2, 1, 0] rfl (t_L_law_139 hFL hn hd (by omega) (by omega) q_316 q_315 q_314 h hR hN)
          · replace h := gif_n c319 h
            refine g_aload_n hF 2 rfl rfl dL_law_67 ?_
            obtain ⟨x320, h320, h⟩ := gbnd h
            refine g_callV hF my_X8_undo kw_382 kw_383 kw_384 gC_8.1 (by decide) q_316 (c_X8_undo (d := d - 1) (by omega) q_316 h320) (by omega) (by omega) (by omega) rfl rfl (Nat.le_of_ble_eq_true rfl) dL_law_68 (g_sameS ?_)
            refine g_iconst (v := (-1 : Int32)) hF rfl dL_law_71 ?_
            refine g_icmp_ne (tgt := 139) hF dL_law_72 (by decide) (fun c321 => ?_) (fun c321 => ?_)
            · replace h := gif_t c321 h
              exact gG_sub [3, 5, 2, 1, 0] rfl (t_L_law_139 hFL hn hd (by omega) (by omega) q_316 q_315 q_314 h hR hN)
            · replace h := gif_n c321 h
              refine g_aload_n hF 2 rfl rfl dL_law_75 ?_
              refine g_iconst (v := (0 : Int32)) hF rfl dL_law_76 ?_
              obtain ⟨x322, h322, h⟩ := gbnd h
              obtain ⟨c322, s322, h, ec322, es322⟩ := cadd_sp h
              refine g_callSW hF (n := 2) kw_1001 kw_64 rfl (by decide +kernel) (by decide +kernel) (by decide) kw_999 kw_1000 (c_L_unload (d := d - 1) (by omega) q_316 h322) (by omega) (by omega) (by omega) rfl rfl (Nat.le_of_ble_eq_true rfl) dL_law_77 (g_sameS ?_)
              refine g_ldc (v := (-2000000097 : Int32)) hF kw_971 dL_law_80 ?_
              refine g_icmp_ne (tgt := 139) hF dL_law_82 (by decide) (fun c323 => ?_) (fun c323 => ?_)
              · replace h := gif_t c323 h
                exact gG_sub [3, 5, 2, 1, 0] rfl (t_L_law_139 hFL hn hd (by omega) (by omega) q_316 q_315 q_314 h hR hN)
              · replace h := gif_n c323 h
                refine g_aload_n hF 2 rfl rfl dL_law_85 ?_
                refine g_iconst (v := (0 : Int32)) hF rfl dL_law_86 ?_
                refine g_iconst (v := (0 : Int32)) hF rfl dL_law_87 ?_
                refine g_sipush (v := (10000 : Int32)) hF rfl dL_law_88 ?_
                obtain ⟨x324, h324, h⟩ := gbnd h
                obtain ⟨c324, s324, h, ec324, es324⟩ := cadd_sp h
                refine g_callSW hF (n := 4) kw_1050 kw_64 rfl (by decide +kernel) (by decide +kernel) (by decide) kw_1048 kw_1049 (c_L_offerValue (d := d - 1) (by omega) q_316 h324) (by omega) (by omega) (by omega) rfl rfl (Nat.le_of_ble_eq_true rfl) dL_law_91 (g_sameS ?_)
                refine g_ldc (v := (-2000000097 : Int32)) hF kw_971 dL_law_94 ?_
                refine g_icmp_ne (tgt := 139) hF dL_law_96 (by decide) (fun c325 => ?_) (fun c325 => ?_)
                · replace h := gif_t c325 h
                  exact gG_sub [3, 5, 2, 1, 0] rfl (t_L_law_139 hFL hn hd (by omega) (by omega) q_316 q_315 q_314 h hR hN)
                · replace h := gif_n c325 h
                  refine g_aload_n hF 2 rfl rfl dL_law_99 ?_
                  refine g_bipush (v := (101 : Int32)) hF rfl dL_law_100 ?_
                  obtain ⟨x326, h326, h⟩ := gbnd h
                  obtain ⟨c326, s326, h, ec326, es326⟩ := cadd_sp h
                  refine g_callSW hF (n := 2) kw_1093 kw_64 rfl (by decide +kernel) (by decide +kernel) (by decide) kw_1091 kw_1092 (c_L_setShare (d := d - 1) (by omega) q_316 h326) (by omega) (by omega) (by omega) rfl rfl (Nat.le_of_ble_eq_true rfl) dL_law_102 (g_sameS ?_)
                  refine g_ldc (v := (-2000000098 : Int32)) hF kw_942 dL_law_105 ?_
                  refine g_icmp_ne (tgt := 139) hF dL_law_107 (by decide) (fun c327 => ?_) (fun c327 => ?_)
                  · replace h := gif_t c327 h
                    exact gG_sub [3, 5, 2, 1, 0] rfl (t_L_law_139 hFL hn hd (by omega) (by omega) q_316 q_315 q_314 h hR hN)
                  · replace h := gif_n c327 h
                    refine g_aload_n hF 2 rfl rfl dL_law_110 ?_
                    refine g_bipush (v := (100 : Int32)) hF rfl dL_law_111 ?_
                    obtain ⟨x328, h328, h⟩ := gbnd h
                    obtain ⟨c328, s328, h, ec328, es328⟩ := cadd_sp h
                    refine g_callSW hF (n := 2) kw_1093 kw_64 rfl (by decide +kernel) (by decide +kernel) (by decide) kw_1091 kw_1092 (c_L_setShare (d := d - 1) (by omega) q_316 h328) (by omega) (by omega) (by omega) rfl rfl (Nat.le_of_ble_eq_true rfl) dL_law_113 (g_sameS ?_)
                    refine g_if_ne (tgt := 139) hF dL_law_116 (by decide) (fun c329 => ?_) (fun c329 => ?_)
                    · replace h := gif_t c329 h
                      exact gG_sub [3, 5, 2, 1, 0] rfl (t_L_law_139 hFL hn hd (by omega) (by omega) q_316 q_315 q_314 h hR hN)
                    · replace h := gif_n c329 h
                      refine g_aload_n hF 2 rfl rfl dL_law_119 ?_
                      obtain ⟨x330, h330, h⟩ := gbnd h
                      refine g_callV hF my_X8_share kw_378 kw_379 kw_380 gC_8.1 (by decide) q_316 (c_X8_share (d := d - 1) (by omega) q_316 h330) (by omega) (by omega) (by omega) rfl rfl (Nat.le_of_ble_eq_true rfl) dL_law_120 (g_sameS ?_)
                      refine g_bipush (v := (100 : Int32)) hF rfl dL_law_123 ?_
                      refine g_icmp_ne (tgt := 139) hF dL_law_125 (by decide) (fun c331 => ?_) (fun c331 => ?_)
                      · replace h := gif_t c331 h
                        exact gG_sub [3, 5, 2, 1, 0] rfl (t_L_law_139 hFL hn hd (by omega) (by omega) q_316 q_315 q_314 h hR hN)
                      · replace h := gif_n c331 h
                        refine g_aload_n hF 2 rfl rfl dL_law_128 ?_
                        obtain ⟨x332, h332, h⟩ := gbnd h
                        refine g_callV hF my_X8_undo kw_382 kw_383 kw_384 gC_8.1 (by decide) q_316 (c_X8_undo (d := d - 1) (by omega) q_316 h332) (by omega) (by omega) (by omega) rfl rfl (Nat.le_of_ble_eq_true rfl) dL_law_129 (g_sameS ?_)
                        refine g_if_ne (tgt := 139) hF dL_law_132 (by decide) (fun c333 => ?_) (fun c333 => ?_)
                        · replace h := gif_t c333 h
                          exact gG_sub [3, 5, 2, 1, 0] rfl (t_L_law_139 hFL hn hd (by omega) (by omega) q_316 q_315 q_314 h hR hN)
                        · replace h := gif_n c333 h
                          refine g_iconst (v := (1 : Int32)) hF rfl dL_law_135 ?_
                          refine g_goto (tgt := 140) hF dL_law_136 (by decide) ?_
                          exact gG_sub [3, 5, 2, 1, 0] rfl (t_L_law_140 hFL hn hd (by omega) (by omega) q_316 q_315 q_314 h hR hN)
theorem t_L_law_L4 {Z : gZ} {d mc ms : Nat} {K KS : Nat} {n : Nat} {f : Nat → Int32} {nm : String}  (hFL : gFixL Z cL_law RL nm (some .boolean) d mc ms (fun v _ _ _ => v = some (.int 1)) (fun _ _ _ _ => False) n f) (hn : Z.2.2.2.2.2.1 = 31) (hd : 60 ≤ d) : ∀ (n9 : Nat) {ad : Nat → Nat} {x0 : Int32 × Int32} {e0 : Int32} {ce so c9 s9 : Nat}, gloopc (fun x : Int32 × Int32 => f_L_law_B4 n f   x.1 x.2) n9 x0 = some (e0, c9, s9) → ce + c9 + K ≤ mc → so + s9 + KS ≤ ms → ∀ (hR : ∀ r9, e0 = r9 → (some (.int r9) : Option Value) = some (.int 1)), gG Z ad [] gM0 ce so 4 [(0, .ref (gSB + 3000)), (1, .int x0.1), (2, .int x0.2)] []
  | 0 => fun h => nomatch h
  | n9 + 1 => fun h hk1 hk2 hR => by
    rcases gloopc_sp h with hB | ⟨a9, c1, s1, c2, s2, hB, h2, e1, e2⟩
    · exact t_L_law_B4 (K := K) (KS := KS) (T := []) (M := gM0) hFL hn hd hk1 hk2 hB (fun r9 q9 => hR r9 (Sum.inl.inj q9)) (fun n8 ad1 ce1 so1 T1 M1 q9 => nomatch q9)
    · exact t_L_law_B4 (K := c2 + K) (KS := s2 + KS) (T := []) (M := gM0) hFL hn hd (by omega) (by omega) hB (fun r9 q9 => nomatch q9) (fun n8 ad1 ce1 so1 T1 M1 q9 k1 k2 => by rw [← Sum.inr.inj q9]; exact gG_forget (t_L_law_L4 (K := K) (KS := KS) hFL hn hd n9 h2 (by omega) (by omega) hR))
theorem t_L_law {Z : gZ} {d mc ms : Nat} {ad : Nat → Nat} {T : gT} {M : gM} {ce so c9 s9 : Nat} {n : Nat} {f : Nat → Int32} {nm : String}  {o : Int32} (hFL : gFixL Z cL_law RL nm (some .boolean) d mc ms (fun v _ _ _ => v = some (.int 1)) (fun _ _ _ _ => False) n f) (hn : Z.2.2.2.2.2.1 = 31) (hd : 60 ≤ d) (hk1 : ce + c9 ≤ mc) (hk2 : so + s9 ≤ ms)  (h : f_L_law n f  = some (o, c9, s9)) (hR : (some (.int o) : Option Value) = some (.int 1)) : gG Z ad [] gM0 ce so 0 [(0, .ref (gSB + 3000))] [] := by
  have hF := hFL.fix
  unfold f_L_law at h
  refine g_iconst (v := (1 : Int32)) hF rfl dL_law_0 ?_
  refine g_istore_n (ls' := [(1, .int (1 : Int32)), (0, .ref (gSB + 3000))]) hF rfl (by rw [hn]; decide) rfl dL_law_1 ?_
  refine g_iconst (v := (0 : Int32)) hF rfl dL_law_2 ?_
  refine g_istore_n (ls' := [(2, .int (0 : Int32)), (1, .int (1 : Int32)), (0, .ref (gSB + 3000))]) hF rfl (by rw [hn]; decide) rfl dL_law_3 ?_
  obtain ⟨x334, h334, h⟩ := gbnd h
  obtain ⟨c334, s334, h, ec334, es334⟩ := cadd_sp h
  cases h
  exact gG_sub [2, 1, 0] rfl (t_L_law_L4 (K := 0) (KS := 0) hFL hn hd gFU (trip h334) (by omega) (by omega) (fun r9 q9 => by subst q9; exact hR))
