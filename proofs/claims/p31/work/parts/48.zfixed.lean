/-! THE FIXED SHAPES AND REFERENCES, by name -/
def gFx (T : gT) (M : gM) : Prop := (∀ a, a < 311 → T[a]? = gT0[a]?) ∧ ∀ q ∈ gRefs, gr M q.1 q.2.1 = some q.2.2
theorem shF {T : gT} {M : gM} {b kd n : Nat} (h : gFx T M) (hb : b < 311) (ht : gT0[b]? = some (kd, n)) : T[b]? = some (kd, n) := (h.1 b hb).trans ht
theorem ldrF {T : gT} {M : gM} {a k b kd n : Nat} (h : gFx T M) (hq : (a, k, b) ∈ gRefs) (hb : b < 311) (ht : gT0[b]? = some (kd, n)) : ldr T M a k kd = some b := ldr_ok (h.2 _ hq) (shF h hb ht)
theorem gFx_gr {T : gT} {M N : gM} (h : gFx T M) (hg : ∀ b j, gr N b j = gr M b j) : gFx T N := ⟨h.1, fun q hq => (hg _ _).trans (h.2 q hq)⟩
theorem gFx_fr {T : gT} {M N : gM} {S : Nat → Nat → Prop} (h : gFx T M) (hg : fr S M N) : gFx T N := gFx_gr h hg.1
theorem gRefs_no4 : ∀ q ∈ gRefs, ¬ (q.1 ∈ gDs ∧ q.2.1 = 4) := by decide +kernel
theorem gFx_of {T : gT} {M N : gM} (h : gFx T M) (hg : ∀ b j, ¬ (b ∈ gDs ∧ j = 4) → gr N b j = gr M b j) : gFx T N := ⟨h.1, fun q hq => (hg _ _ (gRefs_no4 q hq)).trans (h.2 q hq)⟩
section PFX
variable {T : gT} {M : gM}
theorem r_0_0 (h : gFx T M) : ldr T M 0 0 10 = some 1 := ldrF h (by decide +kernel) (by decide) (n := 800) rfl
theorem r_0_3 (h : gFx T M) : ldr T M 0 3 5 = some 2 := ldrF h (by decide +kernel) (by decide) (n := 0) rfl
theorem r_0_4 (h : gFx T M) : ldr T M 0 4 0 = some 37 := ldrF h (by decide +kernel) (by decide) (n := 0) rfl
theorem r_0_5 (h : gFx T M) : ldr T M 0 5 1 = some 66 := ldrF h (by decide +kernel) (by decide) (n := 0) rfl
theorem r_0_6 (h : gFx T M) : ldr T M 0 6 4 = some 74 := ldrF h (by decide +kernel) (by decide) (n := 0) rfl
theorem r_0_7 (h : gFx T M) : ldr T M 0 7 2 = some 76 := ldrF h (by decide +kernel) (by decide) (n := 0) rfl
theorem r_0_8 (h : gFx T M) : ldr T M 0 8 11 = some 310 := ldrF h (by decide +kernel) (by decide) (n := 96) rfl
theorem r_2_0 (h : gFx T M) : ldr T M 2 0 6 = some 3 := ldrF h (by decide +kernel) (by decide) (n := 0) rfl
theorem r_2_1 (h : gFx T M) : ldr T M 2 1 0 = some 5 := ldrF h (by decide +kernel) (by decide) (n := 0) rfl
theorem r_2_2 (h : gFx T M) : ldr T M 2 2 12 = some 34 := ldrF h (by decide +kernel) (by decide) (n := 8) rfl
theorem r_2_3 (h : gFx T M) : ldr T M 2 3 12 = some 35 := ldrF h (by decide +kernel) (by decide) (n := 12) rfl
theorem r_2_4 (h : gFx T M) : ldr T M 2 4 11 = some 36 := ldrF h (by decide +kernel) (by decide) (n := 800) rfl
theorem r_3_0 (h : gFx T M) : ldr T M 3 0 10 = some 4 := ldrF h (by decide +kernel) (by decide) (n := 800) rfl
theorem r_66_0 (h : gFx T M) : ldr T M 66 0 11 = some 67 := ldrF h (by decide +kernel) (by decide) (n := 8) rfl
theorem r_66_1 (h : gFx T M) : ldr T M 66 1 11 = some 68 := ldrF h (by decide +kernel) (by decide) (n := 12) rfl
theorem r_66_2 (h : gFx T M) : ldr T M 66 2 11 = some 69 := ldrF h (by decide +kernel) (by decide) (n := 12) rfl
theorem r_66_3 (h : gFx T M) : ldr T M 66 3 11 = some 70 := ldrF h (by decide +kernel) (by decide) (n := 12) rfl
theorem r_66_4 (h : gFx T M) : ldr T M 66 4 11 = some 71 := ldrF h (by decide +kernel) (by decide) (n := 96) rfl
theorem r_66_5 (h : gFx T M) : ldr T M 66 5 11 = some 72 := ldrF h (by decide +kernel) (by decide) (n := 96) rfl
theorem r_66_6 (h : gFx T M) : ldr T M 66 6 11 = some 73 := ldrF h (by decide +kernel) (by decide) (n := 96) rfl
theorem r_74_0 (h : gFx T M) : ldr T M 74 0 11 = some 75 := ldrF h (by decide +kernel) (by decide) (n := 96) rfl
theorem r_76_0 (h : gFx T M) : ldr T M 76 0 13 = some 77 := ldrF h (by decide +kernel) (by decide) (n := 8) rfl
theorem r_77_0 (h : gFx T M) : ldr T M 77 0 0 = some 78 := ldrF h (by decide +kernel) (by decide) (n := 0) rfl
theorem r_77_1 (h : gFx T M) : ldr T M 77 1 0 = some 107 := ldrF h (by decide +kernel) (by decide) (n := 0) rfl
theorem r_77_2 (h : gFx T M) : ldr T M 77 2 0 = some 136 := ldrF h (by decide +kernel) (by decide) (n := 0) rfl
theorem r_77_3 (h : gFx T M) : ldr T M 77 3 0 = some 165 := ldrF h (by decide +kernel) (by decide) (n := 0) rfl
theorem r_77_4 (h : gFx T M) : ldr T M 77 4 0 = some 194 := ldrF h (by decide +kernel) (by decide) (n := 0) rfl
theorem r_77_5 (h : gFx T M) : ldr T M 77 5 0 = some 223 := ldrF h (by decide +kernel) (by decide) (n := 0) rfl
theorem r_77_6 (h : gFx T M) : ldr T M 77 6 0 = some 252 := ldrF h (by decide +kernel) (by decide) (n := 0) rfl
theorem r_77_7 (h : gFx T M) : ldr T M 77 7 0 = some 281 := ldrF h (by decide +kernel) (by decide) (n := 0) rfl
theorem s_0 (h : gFx T M) : T[0]? = some (8, 0) := shF h (by decide) rfl
theorem s_1 (h : gFx T M) : T[1]? = some (10, 800) := shF h (by decide) rfl
theorem s_2 (h : gFx T M) : T[2]? = some (5, 0) := shF h (by decide) rfl
theorem s_3 (h : gFx T M) : T[3]? = some (6, 0) := shF h (by decide) rfl
theorem s_4 (h : gFx T M) : T[4]? = some (10, 800) := shF h (by decide) rfl
theorem s_5 (h : gFx T M) : T[5]? = some (0, 0) := shF h (by decide) rfl
theorem s_34 (h : gFx T M) : T[34]? = some (12, 8) := shF h (by decide) rfl
theorem s_35 (h : gFx T M) : T[35]? = some (12, 12) := shF h (by decide) rfl
theorem s_36 (h : gFx T M) : T[36]? = some (11, 800) := shF h (by decide) rfl
theorem s_37 (h : gFx T M) : T[37]? = some (0, 0) := shF h (by decide) rfl
theorem s_66 (h : gFx T M) : T[66]? = some (1, 0) := shF h (by decide) rfl
theorem s_67 (h : gFx T M) : T[67]? = some (11, 8) := shF h (by decide) rfl
theorem s_68 (h : gFx T M) : T[68]? = some (11, 12) := shF h (by decide) rfl
theorem s_69 (h : gFx T M) : T[69]? = some (11, 12) := shF h (by decide) rfl
theorem s_70 (h : gFx T M) : T[70]? = some (11, 12) := shF h (by decide) rfl
theorem s_71 (h : gFx T M) : T[71]? = some (11, 96) := shF h (by decide) rfl
theorem s_72 (h : gFx T M) : T[72]? = some (11, 96) := shF h (by decide) rfl
theorem s_73 (h : gFx T M) : T[73]? = some (11, 96) := shF h (by decide) rfl
theorem s_74 (h : gFx T M) : T[74]? = some (4, 0) := shF h (by decide) rfl
theorem s_75 (h : gFx T M) : T[75]? = some (11, 96) := shF h (by decide) rfl
theorem s_76 (h : gFx T M) : T[76]? = some (2, 0) := shF h (by decide) rfl
theorem s_77 (h : gFx T M) : T[77]? = some (13, 8) := shF h (by decide) rfl
theorem s_78 (h : gFx T M) : T[78]? = some (0, 0) := shF h (by decide) rfl
theorem s_107 (h : gFx T M) : T[107]? = some (0, 0) := shF h (by decide) rfl
theorem s_136 (h : gFx T M) : T[136]? = some (0, 0) := shF h (by decide) rfl
theorem s_165 (h : gFx T M) : T[165]? = some (0, 0) := shF h (by decide) rfl
theorem s_194 (h : gFx T M) : T[194]? = some (0, 0) := shF h (by decide) rfl
theorem s_223 (h : gFx T M) : T[223]? = some (0, 0) := shF h (by decide) rfl
theorem s_252 (h : gFx T M) : T[252]? = some (0, 0) := shF h (by decide) rfl
theorem s_281 (h : gFx T M) : T[281]? = some (0, 0) := shF h (by decide) rfl
theorem s_310 (h : gFx T M) : T[310]? = some (11, 96) := shF h (by decide) rfl
end PFX
