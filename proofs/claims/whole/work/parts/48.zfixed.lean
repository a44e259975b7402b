/-! THE FIXED SHAPES AND REFERENCES, by name -/
def gFx (T : gT) (M : gM) : Prop := (∀ a, a < 359 → T[a]? = gT0[a]?) ∧ ∀ q ∈ gRefs, gr M q.1 q.2.1 = some q.2.2
theorem shF {T : gT} {M : gM} {b kd n : Nat} (h : gFx T M) (hb : b < 359) (ht : gT0[b]? = some (kd, n)) : T[b]? = some (kd, n) := (h.1 b hb).trans ht
theorem ldrF {T : gT} {M : gM} {a k b kd n : Nat} (h : gFx T M) (hq : (a, k, b) ∈ gRefs) (hb : b < 359) (ht : gT0[b]? = some (kd, n)) : ldr T M a k kd = some b := ldr_ok (h.2 _ hq) (shF h hb ht)
theorem gFx_gr {T : gT} {M N : gM} (h : gFx T M) (hg : ∀ b j, gr N b j = gr M b j) : gFx T N := ⟨h.1, fun q hq => (hg _ _).trans (h.2 q hq)⟩
theorem gFx_fr {T : gT} {M N : gM} {S : Nat → Nat → Prop} (h : gFx T M) (hg : fr S M N) : gFx T N := gFx_gr h hg.1
theorem gRefs_no4 : ∀ q ∈ gRefs, ¬ (q.1 ∈ gDs ∧ q.2.1 = 4) := by decide +kernel
theorem gFx_of {T : gT} {M N : gM} (h : gFx T M) (hg : ∀ b j, ¬ (b ∈ gDs ∧ j = 4) → gr N b j = gr M b j) : gFx T N := ⟨h.1, fun q hq => (hg _ _ (gRefs_no4 q hq)).trans (h.2 q hq)⟩
section PFX
variable {T : gT} {M : gM}
theorem r_0_0 (h : gFx T M) : ldr T M 0 0 10 = some 1 := ldrF h (by decide +kernel) (by decide) (n := 800) rfl
theorem r_0_3 (h : gFx T M) : ldr T M 0 3 5 = some 2 := ldrF h (by decide +kernel) (by decide) (n := 0) rfl
theorem r_0_4 (h : gFx T M) : ldr T M 0 4 0 = some 37 := ldrF h (by decide +kernel) (by decide) (n := 0) rfl
theorem r_0_5 (h : gFx T M) : ldr T M 0 5 1 = some 66 := ldrF h (by decide +kernel) (by decide) (n := 0) rfl
theorem r_0_6 (h : gFx T M) : ldr T M 0 6 4 = some 74 := ldrF h (by decide +kernel) (by decide) (n := 0) rfl
theorem r_0_7 (h : gFx T M) : ldr T M 0 7 2 = some 76 := ldrF h (by decide +kernel) (by decide) (n := 0) rfl
theorem r_0_8 (h : gFx T M) : ldr T M 0 8 11 = some 310 := ldrF h (by decide +kernel) (by decide) (n := 96) rfl
theorem r_2_0 (h : gFx T M) : ldr T M 2 0 6 = some 3 := ldrF h (by decide +kernel) (by decide) (n := 0) rfl
theorem r_2_1 (h : gFx T M) : ldr T M 2 1 0 = some 5 := ldrF h (by decide +kernel) (by decide) (n := 0) rfl
theorem r_2_2 (h : gFx T M) : ldr T M 2 2 12 = some 34 := ldrF h (by decide +kernel) (by decide) (n := 8) rfl
theorem r_2_3 (h : gFx T M) : ldr T M 2 3 12 = some 35 := ldrF h (by decide +kernel) (by decide) (n := 12) rfl
theorem r_2_4 (h : gFx T M) : ldr T M 2 4 11 = some 36 := ldrF h (by decide +kernel) (by decide) (n := 800) rfl
theorem r_3_0 (h : gFx T M) : ldr T M 3 0 10 = some 4 := ldrF h (by decide +kernel) (by decide) (n := 800) rfl
theorem r_66_0 (h : gFx T M) : ldr T M 66 0 11 = some 67 := ldrF h (by decide +kernel) (by decide) (n := 8) rfl
theorem r_66_1 (h : gFx T M) : ldr T M 66 1 11 = some 68 := ldrF h (by decide +kernel) (by decide) (n := 12) rfl
theorem r_66_2 (h : gFx T M) : ldr T M 66 2 11 = some 69 := ldrF h (by decide +kernel) (by decide) (n := 12) rfl
theorem r_66_3 (h : gFx T M) : ldr T M 66 3 11 = some 70 := ldrF h (by decide +kernel) (by decide) (n := 12) rfl
theorem r_66_4 (h : gFx T M) : ldr T M 66 4 11 = some 71 := ldrF h (by decide +kernel) (by decide) (n := 96) rfl
theorem r_66_5 (h : gFx T M) : ldr T M 66 5 11 = some 72 := ldrF h (by decide +kernel) (by decide) (n := 96) rfl
theorem r_66_6 (h : gFx T M) : ldr T M 66 6 11 = some 73 := ldrF h (by decide +kernel) (by decide) (n := 96) rfl
theorem r_74_0 (h : gFx T M) : ldr T M 74 0 11 = some 75 := ldrF h (by decide +kernel) (by decide) (n := 96) rfl
theorem r_76_0 (h : gFx T M) : ldr T M 76 0 13 = some 77 := ldrF h (by decide +kernel) (by decide) (n := 8) rfl
theorem r_77_0 (h : gFx T M) : ldr T M 77 0 0 = some 78 := ldrF h (by decide +kernel) (by decide) (n := 0) rfl
theorem r_77_1 (h : gFx T M) : ldr T M 77 1 0 = some 107 := ldrF h (by decide +kernel) (by decide) (n := 0) rfl
theorem r_77_2 (h : gFx T M) : ldr T M 77 2 0 = some 136 := ldrF h (by decide +kernel) (by decide) (n := 0) rfl
theorem r_77_3 (h : gFx T M) : ldr T M 77 3 0 = some 165 := ldrF h (by decide +kernel) (by decide) (n := 0) rfl
theorem r_77_4 (h : gFx T M) : ldr T M 77 4 0 = some 194 := ldrF h (by decide +kernel) (by decide) (n := 0) rfl
theorem r_77_5 (h : gFx T M) : ldr T M 77 5 0 = some 223 := ldrF h (by decide +kernel) (by decide) (n := 0) rfl
theorem r_77_6 (h : gFx T M) : ldr T M 77 6 0 = some 252 := ldrF h (by decide +kernel) (by decide) (n := 0) rfl
theorem r_77_7 (h : gFx T M) : ldr T M 77 7 0 = some 281 := ldrF h (by decide +kernel) (by decide) (n := 0) rfl
theorem r_311_1 (h : gFx T M) : ldr T M 311 1 11 = some 312 := ldrF h (by decide +kernel) (by decide) (n := 800) rfl
theorem r_311_8 (h : gFx T M) : ldr T M 311 8 11 = some 313 := ldrF h (by decide +kernel) (by decide) (n := 1498) rfl
theorem r_311_9 (h : gFx T M) : ldr T M 311 9 11 = some 314 := ldrF h (by decide +kernel) (by decide) (n := 1498) rfl
theorem r_311_10 (h : gFx T M) : ldr T M 311 10 15 = some 315 := ldrF h (by decide +kernel) (by decide) (n := 8) rfl
theorem r_311_15 (h : gFx T M) : ldr T M 311 15 12 = some 324 := ldrF h (by decide +kernel) (by decide) (n := 8) rfl
theorem r_311_16 (h : gFx T M) : ldr T M 311 16 12 = some 325 := ldrF h (by decide +kernel) (by decide) (n := 12) rfl
theorem r_311_18 (h : gFx T M) : ldr T M 311 18 12 = some 326 := ldrF h (by decide +kernel) (by decide) (n := 1300) rfl
theorem r_311_19 (h : gFx T M) : ldr T M 311 19 11 = some 327 := ldrF h (by decide +kernel) (by decide) (n := 8) rfl
theorem r_311_20 (h : gFx T M) : ldr T M 311 20 11 = some 328 := ldrF h (by decide +kernel) (by decide) (n := 8) rfl
theorem r_311_21 (h : gFx T M) : ldr T M 311 21 11 = some 329 := ldrF h (by decide +kernel) (by decide) (n := 12) rfl
theorem r_311_22 (h : gFx T M) : ldr T M 311 22 15 = some 330 := ldrF h (by decide +kernel) (by decide) (n := 8) rfl
theorem r_311_23 (h : gFx T M) : ldr T M 311 23 15 = some 339 := ldrF h (by decide +kernel) (by decide) (n := 8) rfl
theorem r_311_24 (h : gFx T M) : ldr T M 311 24 15 = some 348 := ldrF h (by decide +kernel) (by decide) (n := 8) rfl
theorem r_311_25 (h : gFx T M) : ldr T M 311 25 11 = some 357 := ldrF h (by decide +kernel) (by decide) (n := 8) rfl
theorem r_315_0 (h : gFx T M) : ldr T M 315 0 11 = some 316 := ldrF h (by decide +kernel) (by decide) (n := 1498) rfl
theorem r_315_1 (h : gFx T M) : ldr T M 315 1 11 = some 317 := ldrF h (by decide +kernel) (by decide) (n := 1498) rfl
theorem r_315_2 (h : gFx T M) : ldr T M 315 2 11 = some 318 := ldrF h (by decide +kernel) (by decide) (n := 1498) rfl
theorem r_315_3 (h : gFx T M) : ldr T M 315 3 11 = some 319 := ldrF h (by decide +kernel) (by decide) (n := 1498) rfl
theorem r_315_4 (h : gFx T M) : ldr T M 315 4 11 = some 320 := ldrF h (by decide +kernel) (by decide) (n := 1498) rfl
theorem r_315_5 (h : gFx T M) : ldr T M 315 5 11 = some 321 := ldrF h (by decide +kernel) (by decide) (n := 1498) rfl
theorem r_315_6 (h : gFx T M) : ldr T M 315 6 11 = some 322 := ldrF h (by decide +kernel) (by decide) (n := 1498) rfl
theorem r_315_7 (h : gFx T M) : ldr T M 315 7 11 = some 323 := ldrF h (by decide +kernel) (by decide) (n := 1498) rfl
theorem r_330_0 (h : gFx T M) : ldr T M 330 0 11 = some 331 := ldrF h (by decide +kernel) (by decide) (n := 12) rfl
theorem r_330_1 (h : gFx T M) : ldr T M 330 1 11 = some 332 := ldrF h (by decide +kernel) (by decide) (n := 12) rfl
theorem r_330_2 (h : gFx T M) : ldr T M 330 2 11 = some 333 := ldrF h (by decide +kernel) (by decide) (n := 12) rfl
theorem r_330_3 (h : gFx T M) : ldr T M 330 3 11 = some 334 := ldrF h (by decide +kernel) (by decide) (n := 12) rfl
theorem r_330_4 (h : gFx T M) : ldr T M 330 4 11 = some 335 := ldrF h (by decide +kernel) (by decide) (n := 12) rfl
theorem r_330_5 (h : gFx T M) : ldr T M 330 5 11 = some 336 := ldrF h (by decide +kernel) (by decide) (n := 12) rfl
theorem r_330_6 (h : gFx T M) : ldr T M 330 6 11 = some 337 := ldrF h (by decide +kernel) (by decide) (n := 12) rfl
theorem r_330_7 (h : gFx T M) : ldr T M 330 7 11 = some 338 := ldrF h (by decide +kernel) (by decide) (n := 12) rfl
theorem r_339_0 (h : gFx T M) : ldr T M 339 0 11 = some 340 := ldrF h (by decide +kernel) (by decide) (n := 12) rfl
theorem r_339_1 (h : gFx T M) : ldr T M 339 1 11 = some 341 := ldrF h (by decide +kernel) (by decide) (n := 12) rfl
theorem r_339_2 (h : gFx T M) : ldr T M 339 2 11 = some 342 := ldrF h (by decide +kernel) (by decide) (n := 12) rfl
theorem r_339_3 (h : gFx T M) : ldr T M 339 3 11 = some 343 := ldrF h (by decide +kernel) (by decide) (n := 12) rfl
theorem r_339_4 (h : gFx T M) : ldr T M 339 4 11 = some 344 := ldrF h (by decide +kernel) (by decide) (n := 12) rfl
theorem r_339_5 (h : gFx T M) : ldr T M 339 5 11 = some 345 := ldrF h (by decide +kernel) (by decide) (n := 12) rfl
theorem r_339_6 (h : gFx T M) : ldr T M 339 6 11 = some 346 := ldrF h (by decide +kernel) (by decide) (n := 12) rfl
theorem r_339_7 (h : gFx T M) : ldr T M 339 7 11 = some 347 := ldrF h (by decide +kernel) (by decide) (n := 12) rfl
theorem r_348_0 (h : gFx T M) : ldr T M 348 0 11 = some 349 := ldrF h (by decide +kernel) (by decide) (n := 12) rfl
theorem r_348_1 (h : gFx T M) : ldr T M 348 1 11 = some 350 := ldrF h (by decide +kernel) (by decide) (n := 12) rfl
theorem r_348_2 (h : gFx T M) : ldr T M 348 2 11 = some 351 := ldrF h (by decide +kernel) (by decide) (n := 12) rfl
theorem r_348_3 (h : gFx T M) : ldr T M 348 3 11 = some 352 := ldrF h (by decide +kernel) (by decide) (n := 12) rfl
theorem r_348_4 (h : gFx T M) : ldr T M 348 4 11 = some 353 := ldrF h (by decide +kernel) (by decide) (n := 12) rfl
theorem r_348_5 (h : gFx T M) : ldr T M 348 5 11 = some 354 := ldrF h (by decide +kernel) (by decide) (n := 12) rfl
theorem r_348_6 (h : gFx T M) : ldr T M 348 6 11 = some 355 := ldrF h (by decide +kernel) (by decide) (n := 12) rfl
theorem r_348_7 (h : gFx T M) : ldr T M 348 7 11 = some 356 := ldrF h (by decide +kernel) (by decide) (n := 12) rfl
theorem s_0 (h : gFx T M) : T[0]? = some (8, 0) := shF h (by decide) rfl
theorem s_1 (h : gFx T M) : T[1]? = some (10, 800) := shF h (by decide) rfl
theorem s_2 (h : gFx T M) : T[2]? = some (5, 0) := shF h (by decide) rfl
theorem s_3 (h : gFx T M) : T[3]? = some (6, 0) := shF h (by decide) rfl
theorem s_4 (h : gFx T M) : T[4]? = some (10, 800) := shF h (by decide) rfl
theorem s_5 (h : gFx T M) : T[5]? = some (0, 0) := shF h (by decide) rfl
theorem s_34 (h : gFx T M) : T[34]? = some (12, 8) := shF h (by decide) rfl
theorem s_35 (h : gFx T M) : T[35]? = some (12, 12) := shF h (by decide) rfl
theorem s_36 (h : gFx T M) : T[36]? = some (11, 800) := shF h (by decide) rfl
theorem s_37 (h : gFx T M) : T[37]? = some (0, 0) := shF h (by decide) rfl
theorem s_66 (h : gFx T M) : T[66]? = some (1, 0) := shF h (by decide) rfl
theorem s_67 (h : gFx T M) : T[67]? = some (11, 8) := shF h (by decide) rfl
theorem s_68 (h : gFx T M) : T[68]? = some (11, 12) := shF h (by decide) rfl
theorem s_69 (h : gFx T M) : T[69]? = some (11, 12) := shF h (by decide) rfl
theorem s_70 (h : gFx T M) : T[70]? = some (11, 12) := shF h (by decide) rfl
theorem s_71 (h : gFx T M) : T[71]? = some (11, 96) := shF h (by decide) rfl
theorem s_72 (h : gFx T M) : T[72]? = some (11, 96) := shF h (by decide) rfl
theorem s_73 (h : gFx T M) : T[73]? = some (11, 96) := shF h (by decide) rfl
theorem s_74 (h : gFx T M) : T[74]? = some (4, 0) := shF h (by decide) rfl
theorem s_75 (h : gFx T M) : T[75]? = some (11, 96) := shF h (by decide) rfl
theorem s_76 (h : gFx T M) : T[76]? = some (2, 0) := shF h (by decide) rfl
theorem s_77 (h : gFx T M) : T[77]? = some (13, 8) := shF h (by decide) rfl
theorem s_78 (h : gFx T M) : T[78]? = some (0, 0) := shF h (by decide) rfl
theorem s_107 (h : gFx T M) : T[107]? = some (0, 0) := shF h (by decide) rfl
theorem s_136 (h : gFx T M) : T[136]? = some (0, 0) := shF h (by decide) rfl
theorem s_165 (h : gFx T M) : T[165]? = some (0, 0) := shF h (by decide) rfl
theorem s_194 (h : gFx T M) : T[194]? = some (0, 0) := shF h (by decide) rfl
theorem s_223 (h : gFx T M) : T[223]? = some (0, 0) := shF h (by decide) rfl
theorem s_252 (h : gFx T M) : T[252]? = some (0, 0) := shF h (by decide) rfl
theorem s_281 (h : gFx T M) : T[281]? = some (0, 0) := shF h (by decide) rfl
theorem s_310 (h : gFx T M) : T[310]? = some (11, 96) := shF h (by decide) rfl
theorem s_311 (h : gFx T M) : T[311]? = some (9, 0) := shF h (by decide) rfl
theorem s_312 (h : gFx T M) : T[312]? = some (11, 800) := shF h (by decide) rfl
theorem s_313 (h : gFx T M) : T[313]? = some (11, 1498) := shF h (by decide) rfl
theorem s_314 (h : gFx T M) : T[314]? = some (11, 1498) := shF h (by decide) rfl
theorem s_315 (h : gFx T M) : T[315]? = some (15, 8) := shF h (by decide) rfl
theorem s_316 (h : gFx T M) : T[316]? = some (11, 1498) := shF h (by decide) rfl
theorem s_317 (h : gFx T M) : T[317]? = some (11, 1498) := shF h (by decide) rfl
theorem s_318 (h : gFx T M) : T[318]? = some (11, 1498) := shF h (by decide) rfl
theorem s_319 (h : gFx T M) : T[319]? = some (11, 1498) := shF h (by decide) rfl
theorem s_320 (h : gFx T M) : T[320]? = some (11, 1498) := shF h (by decide) rfl
theorem s_321 (h : gFx T M) : T[321]? = some (11, 1498) := shF h (by decide) rfl
theorem s_322 (h : gFx T M) : T[322]? = some (11, 1498) := shF h (by decide) rfl
theorem s_323 (h : gFx T M) : T[323]? = some (11, 1498) := shF h (by decide) rfl
theorem s_324 (h : gFx T M) : T[324]? = some (12, 8) := shF h (by decide) rfl
theorem s_325 (h : gFx T M) : T[325]? = some (12, 12) := shF h (by decide) rfl
theorem s_326 (h : gFx T M) : T[326]? = some (12, 1300) := shF h (by decide) rfl
theorem s_327 (h : gFx T M) : T[327]? = some (11, 8) := shF h (by decide) rfl
theorem s_328 (h : gFx T M) : T[328]? = some (11, 8) := shF h (by decide) rfl
theorem s_329 (h : gFx T M) : T[329]? = some (11, 12) := shF h (by decide) rfl
theorem s_330 (h : gFx T M) : T[330]? = some (15, 8) := shF h (by decide) rfl
theorem s_331 (h : gFx T M) : T[331]? = some (11, 12) := shF h (by decide) rfl
theorem s_332 (h : gFx T M) : T[332]? = some (11, 12) := shF h (by decide) rfl
theorem s_333 (h : gFx T M) : T[333]? = some (11, 12) := shF h (by decide) rfl
theorem s_334 (h : gFx T M) : T[334]? = some (11, 12) := shF h (by decide) rfl
theorem s_335 (h : gFx T M) : T[335]? = some (11, 12) := shF h (by decide) rfl
theorem s_336 (h : gFx T M) : T[336]? = some (11, 12) := shF h (by decide) rfl
theorem s_337 (h : gFx T M) : T[337]? = some (11, 12) := shF h (by decide) rfl
theorem s_338 (h : gFx T M) : T[338]? = some (11, 12) := shF h (by decide) rfl
theorem s_339 (h : gFx T M) : T[339]? = some (15, 8) := shF h (by decide) rfl
theorem s_340 (h : gFx T M) : T[340]? = some (11, 12) := shF h (by decide) rfl
theorem s_341 (h : gFx T M) : T[341]? = some (11, 12) := shF h (by decide) rfl
theorem s_342 (h : gFx T M) : T[342]? = some (11, 12) := shF h (by decide) rfl
theorem s_343 (h : gFx T M) : T[343]? = some (11, 12) := shF h (by decide) rfl
theorem s_344 (h : gFx T M) : T[344]? = some (11, 12) := shF h (by decide) rfl
theorem s_345 (h : gFx T M) : T[345]? = some (11, 12) := shF h (by decide) rfl
theorem s_346 (h : gFx T M) : T[346]? = some (11, 12) := shF h (by decide) rfl
theorem s_347 (h : gFx T M) : T[347]? = some (11, 12) := shF h (by decide) rfl
theorem s_348 (h : gFx T M) : T[348]? = some (15, 8) := shF h (by decide) rfl
theorem s_349 (h : gFx T M) : T[349]? = some (11, 12) := shF h (by decide) rfl
theorem s_350 (h : gFx T M) : T[350]? = some (11, 12) := shF h (by decide) rfl
theorem s_351 (h : gFx T M) : T[351]? = some (11, 12) := shF h (by decide) rfl
theorem s_352 (h : gFx T M) : T[352]? = some (11, 12) := shF h (by decide) rfl
theorem s_353 (h : gFx T M) : T[353]? = some (11, 12) := shF h (by decide) rfl
theorem s_354 (h : gFx T M) : T[354]? = some (11, 12) := shF h (by decide) rfl
theorem s_355 (h : gFx T M) : T[355]? = some (11, 12) := shF h (by decide) rfl
theorem s_356 (h : gFx T M) : T[356]? = some (11, 12) := shF h (by decide) rfl
theorem s_357 (h : gFx T M) : T[357]? = some (11, 8) := shF h (by decide) rfl
theorem r_sup (h : gFx T M) {k : Nat} (hk : k < 8) : gr M 330 k = some (331 + k) := by
  have q : ∀ k, k < 8 → (330, k, 331 + k) ∈ gRefs := by decide +kernel
  exact h.2 _ (q k hk)
theorem s_sup (h : gFx T M) {k : Nat} (hk : k < 8) : T[331 + k]? = some (11, 12) := by
  have q : ∀ k, k < 8 → 331 + k < 359 ∧ gT0[331 + k]? = some (11, 12) := by decide +kernel
  exact shF h (q k hk).1 (q k hk).2
theorem w_sup (h : gFx T M) {k : Nat} (hk : k < 8) : aldr T M 330 (nI k) 11 = some (331 + k) := aldr_ok (s_330 h) hk (by decide) (r_sup h hk) (s_sup h hk)
theorem r_bin (h : gFx T M) {k : Nat} (hk : k < 8) : gr M 339 k = some (340 + k) := by
  have q : ∀ k, k < 8 → (339, k, 340 + k) ∈ gRefs := by decide +kernel
  exact h.2 _ (q k hk)
theorem s_bin (h : gFx T M) {k : Nat} (hk : k < 8) : T[340 + k]? = some (11, 12) := by
  have q : ∀ k, k < 8 → 340 + k < 359 ∧ gT0[340 + k]? = some (11, 12) := by decide +kernel
  exact shF h (q k hk).1 (q k hk).2
theorem w_bin (h : gFx T M) {k : Nat} (hk : k < 8) : aldr T M 339 (nI k) 11 = some (340 + k) := aldr_ok (s_339 h) hk (by decide) (r_bin h hk) (s_bin h hk)
theorem r_wer (h : gFx T M) {k : Nat} (hk : k < 8) : gr M 348 k = some (349 + k) := by
  have q : ∀ k, k < 8 → (348, k, 349 + k) ∈ gRefs := by decide +kernel
  exact h.2 _ (q k hk)
theorem s_wer (h : gFx T M) {k : Nat} (hk : k < 8) : T[349 + k]? = some (11, 12) := by
  have q : ∀ k, k < 8 → 349 + k < 359 ∧ gT0[349 + k]? = some (11, 12) := by decide +kernel
  exact shF h (q k hk).1 (q k hk).2
theorem w_wer (h : gFx T M) {k : Nat} (hk : k < 8) : aldr T M 348 (nI k) 11 = some (349 + k) := aldr_ok (s_348 h) hk (by decide) (r_wer h hk) (s_wer h hk)
theorem gMo_Fx (h : gFx T M) : gMo T M := ⟨h.2 (311, 8, 313) (by decide +kernel), s_313 h⟩
theorem gHi_Fx (h : gFx T M) : gHi T M := by
  refine ⟨gMo_Fx h, h.2 (311, 10, 315) (by decide +kernel), s_315 h, fun k hk => ?_⟩
  have q : ∀ k, k < 8 → (315, k, 316 + k) ∈ gRefs ∧ 316 + k < 359 ∧ gT0[316 + k]? = some (11, 1498) := by decide +kernel
  exact ⟨h.2 _ (q k hk).1, shF h (q k hk).2.1 (q k hk).2.2⟩
end PFX
