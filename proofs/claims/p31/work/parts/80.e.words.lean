/-! THE LAW'S WORDS as strings, and the bytes of a word -/
section PWO
variable {T T1 : gT} {M M1 N : gM} {k c s : Nat} {l w : List Nat}
/-- a builder that takes a string and a letter -/
theorem w_make {i x : Nat} (hi : i < 34) (hx : x < 128) (hl : (gStrs.getD i []).length ≤ 100) (hT : T.length + 6 ≤ 900000) {y : Int32} (hy : y = nI x) : ∃ s T' M' c s', ((gnew T M (20, 0)).bind fun x3 => cadd 1 4 <| (f_J4_init_da8c8 x3.2.1 x3.2.2 x3.1).bind fun x4 => cadd x4.2.1 x4.2.2 <| (f_J4_append_15ec4 x4.1.1 x4.1.2 x3.1 (gSB + i)).bind fun x6 => cadd x6.2.1 x6.2.2 <| (gkd x6.1.2.1 x6.1.1 20).bind fun _ => (f_J4_append_cf468 x6.1.2.1 x6.1.2.2 x6.1.1 y).bind fun x8 => cadd x8.2.1 x8.2.2 <| (gkd x8.1.2.1 x8.1.1 20).bind fun _ => (f_J4_toString_0e30d x8.1.2.1 x8.1.2.2 x8.1.1).bind fun x10 => cadd x10.2.1 x10.2.2 <| (gks x10.1.2.1 x10.1.1).bind fun _ => f_L_wordOf_72 x10.1.2.1 x10.1.2.2 x10.1.1) = some ((s, T', M'), c, s') ∧ c ≤ 6 ∧ s' ≤ 1100 ∧ gTo T M T' M' c ∧ sS T' M' s (gStrs.getD i [] ++ [x]) := by
  subst hy
  obtain ⟨T1, M1, n1, n2, G1, b1⟩ := b_new (T := T) (M := M) (by omega)
  have l1 := G1.2.2
  obtain ⟨T2, M2, c2, s2, cap2, d1, d2, d3, d4, d5⟩ := b_str b1 (sS_c (T := T1) (M := M1) hi) (by rw [List.length_nil]; omega) (by omega) (by omega)
  rw [List.nil_append] at d4
  have G2 := d5.2 T M 2 G1 rfl
  have l2 := G2.2.2
  obtain ⟨T3, M3, c3, s3, cap3, e1, e2, e3, e4, e5⟩ := b_chr (x := x) d4 hx (by omega) (by omega) (by omega)
  have G3 := e5.2 T M _ G2 rfl
  have l3 := G3.2.2
  obtain ⟨T4, M4, s4, f1, f2, f3, f4⟩ := b_end e4 (by omega)
  have G4 := gTo_tr G3 f3
  refine ⟨T3.length, T4, M4, 1 + (1 + (c2 + (c3 + (2 + 0)))), 4 + (16 + (s2 + (s3 + (s4 + 0)))), ?_, by omega, by omega, gTo_c G4 (by omega), f4⟩
  rw [n1, Option.bind_some]
  dsimp only
  rw [n2, Option.bind_some]
  dsimp only
  rw [d1, Option.bind_some]
  dsimp only
  rw [bT_kd d4, Option.bind_some, e1, Option.bind_some]
  dsimp only
  rw [bT_kd e4, Option.bind_some, f1, Option.bind_some]
  dsimp only
  rw [sS_ks f4, Option.bind_some]
  unfold f_L_wordOf_72
  simp only [cadd_some]
theorem ltr_ok : ∀ k, k < 5 → ((((97 : Int32) + nI k)).toUInt32 % 65536).toInt32 = nI (97 + k) := by decide +kernel
theorem wo_lib (hk : k < 5) (hT : T.length + 6 ≤ 900000) : ∃ s T' M' c s', f_L_wordOf T M (nI k) 0 = some ((s, T', M'), c, s') ∧ c ≤ 6 ∧ s' ≤ 1100 ∧ gTo T M T' M' c ∧ sS T' M' s (lbW k) := by
  unfold f_L_wordOf
  rw [if_pos rfl]
  by_cases h1 : k = 1
  · subst h1
    rw [if_neg (show ¬ ¬ nI 1 = (1 : Int32) from fun z => z rfl)]
    unfold f_L_wordOf_72
    exact ⟨_, _, _, _, _, rfl, by decide, by decide, gTo_refl, by rw [show lbW 1 = gStrs.getD 7 [] by decide +kernel]; exact sS_c (by decide)⟩
  · rw [if_pos (show ¬ nI k = (1 : Int32) from fun z => h1 ((nI_eq (b := 1) (by omega) (by decide)).mp z)), show lbW k = gStrs.getD 16 [] ++ [97 + k] by unfold lbW; rw [if_neg h1]; rfl]
    exact w_make (i := 16) (by decide) (by omega) (by decide +kernel) hT (ltr_ok k hk)
theorem wo_nam (hk : k < 4) (hT : T.length + 6 ≤ 900000) : ∃ s T' M' c s', f_L_wordOf T M (nI k) 1 = some ((s, T', M'), c, s') ∧ c ≤ 6 ∧ s' ≤ 1100 ∧ gTo T M T' M' c ∧ sS T' M' s (nmW k) := by
  unfold f_L_wordOf
  rw [if_neg (by decide)]
  by_cases h1 : k = 0
  · subst h1
    rw [if_neg (show ¬ ¬ nI 0 = (0 : Int32) from fun z => z rfl)]
    unfold f_L_wordOf_72
    exact ⟨_, _, _, _, _, rfl, by decide, by decide, gTo_refl, by rw [show nmW 0 = gStrs.getD 8 [] by decide +kernel]; exact sS_c (by decide)⟩
  · rw [if_pos (show ¬ nI k = (0 : Int32) from fun z => h1 ((nI_eq (b := 0) (by omega) (by decide)).mp z)), show nmW k = gStrs.getD 15 [] ++ [97 + k] by unfold nmW; rw [if_neg h1]; rfl]
    exact w_make (i := 15) (by decide) (by omega) (by decide +kernel) hT (ltr_ok k (by omega))
end PWO
/-! FOUR LETTERS IN A WORD -/
def wd (g : Nat → Nat) : Nat := g 0 * 16777216 + g 1 * 65536 + g 2 * 256 + g 3
theorem wd_lt {g : Nat → Nat} (h : ∀ i, i < 4 → g i < 128) : wd g < 2 ^ 31 := by
  have := h 0 (by decide)
  have := h 1 (by decide)
  have := h 2 (by decide)
  have := h 3 (by decide)
  unfold wd
  omega
theorem low8 (a b : Nat) (hb : b < 128) : (nI (a * 256 + b)).toInt8.toInt32 = nI b := by
  have h : (nI (a * 256 + b)).toInt8 = (nI b).toInt8 := by
    unfold nI
    rw [Int32.toInt8_ofNat', Int32.toInt8_ofNat']
    apply Int8.toBitVec_inj.mp
    show BitVec.ofNat 8 (a * 256 + b) = BitVec.ofNat 8 b
    apply BitVec.eq_of_toNat_eq
    rw [BitVec.toNat_ofNat, BitVec.toNat_ofNat]
    omega
  rw [h, e8 b hb]
theorem wB_ok {g : Nat → Nat} (h : ∀ i, i < 4 → g i < 128) {i : Nat} (hi : i < 4) : wB (nI (wd g)) i = nI (g i) := by
  have hlt := wd_lt h
  have h0 := h 0 (by decide)
  have h1 := h 1 (by decide)
  have h2 := h 2 (by decide)
  have h3 := h 3 (by decide)
  unfold wB
  rcases (show i = 0 ∨ i = 1 ∨ i = 2 ∨ i = 3 by omega) with rfl | rfl | rfl | rfl
  · rw [show (([24, 16, 8, 0] : List Int32).getD 0 0 &&& 31) = 24 by decide, pk_shrN hlt 24 24 (by decide), show wd g / 2 ^ 24 = 0 * 256 + g 0 by unfold wd; omega, low8 _ _ h0, e8 _ h0]
  · rw [show (([24, 16, 8, 0] : List Int32).getD 1 0 &&& 31) = 16 by decide, pk_shrN hlt 16 16 (by decide), show wd g / 2 ^ 16 = g 0 * 256 + g 1 by unfold wd; omega, low8 _ _ h1, e8 _ h1]
  · rw [show (([24, 16, 8, 0] : List Int32).getD 2 0 &&& 31) = 8 by decide, pk_shrN hlt 8 8 (by decide), show wd g / 2 ^ 8 = (g 0 * 256 + g 1) * 256 + g 2 by unfold wd; omega, low8 _ _ h2, e8 _ h2]
  · rw [show (([24, 16, 8, 0] : List Int32).getD 3 0 &&& 31) = 0 by decide, pk_shrN hlt 0 0 (by decide), show wd g / 2 ^ 0 = ((g 0 * 256 + g 1) * 256 + g 2) * 256 + g 3 by unfold wd; omega, low8 _ _ h3, e8 _ h3]
theorem or_add {x c k : Nat} (hx : x * 2 ^ (k + 8) < 2 ^ 31) (hc : c < 128) (hk : k ≤ 24) {s : Int32} (hs : (s.toBitVec.smod 32).toNat = k) : nI (x * 2 ^ (k + 8)) ||| (nI c <<< s) = nI (x * 2 ^ (k + 8) + c * 2 ^ k) := by
  have hp : c * 2 ^ k < 2 ^ (k + 8) := by
    rw [Nat.pow_add, Nat.mul_comm (2 ^ k)]
    exact Nat.mul_lt_mul_of_pos_right (by omega) (Nat.two_pow_pos k)
  have hc31 : c * 2 ^ k < 2 ^ 31 := by
    have h2 : 2 ^ k ≤ 2 ^ 24 := Nat.pow_le_pow_right (by decide) hk
    have : c * 2 ^ k ≤ 127 * 2 ^ 24 := Nat.mul_le_mul (by omega) h2
    omega
  have hor : x * 2 ^ (k + 8) + c * 2 ^ k = x * 2 ^ (k + 8) ||| c * 2 ^ k := by
    have := Nat.two_pow_add_eq_or_of_lt (i := k + 8) (b := c * 2 ^ k) hp x
    rw [Nat.mul_comm (2 ^ (k + 8)) x] at this
    exact this
  rw [hor]
  unfold nI
  apply Int32.toBitVec_inj.mp
  rw [Int32.toBitVec_or, Int32.toBitVec_shiftLeft]
  show BitVec.ofNat 32 (x * 2 ^ (k + 8)) ||| (BitVec.ofNat 32 c <<< (s.toBitVec.smod 32)) = BitVec.ofNat 32 (x * 2 ^ (k + 8) ||| c * 2 ^ k)
  apply BitVec.eq_of_toNat_eq
  rw [BitVec.toNat_or, BitVec.shiftLeft_eq', BitVec.toNat_shiftLeft, hs, BitVec.toNat_ofNat, BitVec.toNat_ofNat, BitVec.toNat_ofNat, Nat.shiftLeft_eq, Nat.mod_eq_of_lt (show c < 2 ^ 32 by omega), Nat.mod_eq_of_lt (show x * 2 ^ (k + 8) < 2 ^ 32 by omega), Nat.mod_eq_of_lt (show c * 2 ^ k < 2 ^ 32 by omega)]
  rw [← hor, Nat.mod_eq_of_lt (by omega), hor]
/-- one letter more -/
theorem wd_put {g g' : Nat → Nat} {c r : Nat} (h : ∀ i, i < 4 → g i < 128) (hr : r < 4) (h0 : ∀ i, r ≤ i → i < 4 → g i = 0) (hc : c < 128) (hg : ∀ i, i < 4 → g' i = if i = r then c else g i) : nI (wd g) ||| (nI c <<< (((24 : Int32) - ((8 : Int32) * nI r)) &&& 31)) = nI (wd g') := by
  have q0 := h 0 (by decide)
  have q1 := h 1 (by decide)
  have q2 := h 2 (by decide)
  have q3 := h 3 (by decide)
  have e0 := hg 0 (by decide)
  have e1 := hg 1 (by decide)
  have e2 := hg 2 (by decide)
  have e3 := hg 3 (by decide)
  rcases (show r = 0 ∨ r = 1 ∨ r = 2 ∨ r = 3 by omega) with rfl | rfl | rfl | rfl
  · have z0 := h0 0 (by decide) (by decide)
    have z1 := h0 1 (by decide) (by decide)
    have z2 := h0 2 (by decide) (by decide)
    have z3 := h0 3 (by decide) (by decide)
    rw [if_pos rfl] at e0
    rw [if_neg (by decide)] at e1 e2 e3
    rw [show ((24 : Int32) - ((8 : Int32) * nI 0)) &&& 31 = 24 by decide, show wd g = 0 * 2 ^ (24 + 8) by unfold wd; omega, or_add (by decide) hc (by decide) (by decide), show wd g' = 0 * 2 ^ (24 + 8) + c * 2 ^ 24 by unfold wd; omega]
  · have z1 := h0 1 (by decide) (by decide)
    have z2 := h0 2 (by decide) (by decide)
    have z3 := h0 3 (by decide) (by decide)
    rw [if_pos rfl] at e1
    rw [if_neg (by decide)] at e0 e2 e3
    rw [show ((24 : Int32) - ((8 : Int32) * nI 1)) &&& 31 = 16 by decide, show wd g = g 0 * 2 ^ (16 + 8) by unfold wd; omega, or_add (by omega) hc (by decide) (by decide), show wd g' = g 0 * 2 ^ (16 + 8) + c * 2 ^ 16 by unfold wd; omega]
  · have z2 := h0 2 (by decide) (by decide)
    have z3 := h0 3 (by decide) (by decide)
    rw [if_pos rfl] at e2
    rw [if_neg (by decide)] at e0 e1 e3
    rw [show ((24 : Int32) - ((8 : Int32) * nI 2)) &&& 31 = 8 by decide, show wd g = (g 0 * 256 + g 1) * 2 ^ (8 + 8) by unfold wd; omega, or_add (by omega) hc (by decide) (by decide), show wd g' = (g 0 * 256 + g 1) * 2 ^ (8 + 8) + c * 2 ^ 8 by unfold wd; omega]
  · have z3 := h0 3 (by decide) (by decide)
    rw [if_pos rfl] at e3
    rw [if_neg (by decide)] at e0 e1 e2
    rw [show ((24 : Int32) - ((8 : Int32) * nI 3)) &&& 31 = 0 by decide, show wd g = ((g 0 * 256 + g 1) * 256 + g 2) * 2 ^ (0 + 8) by unfold wd; omega, or_add (by omega) hc (by decide) (by decide), show wd g' = ((g 0 * 256 + g 1) * 256 + g 2) * 2 ^ (0 + 8) + c * 2 ^ 0 by unfold wd; omega]
