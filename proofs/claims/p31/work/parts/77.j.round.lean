/-! ONE ROUND -/
section PRD
variable {T T1 T' T0 : gT} {M M1 M' N V V1 : gM} {rr a7 l A : Nat} {L R O : Nat → Nat} {nl nn : Nat} {k : Nat → Nat × Nat} {m dn nx sz B lc B2 lc2 : Nat} {ld ld2 : Nat → Nat} {c b D p R0 kk q fw r : Nat} {n : Nat} {f : Nat → Int32} {i2 i9 : Int32} {P : Nat → Prop}
theorem MP_n [gW0] (hM : MP T M rr a7 l A L R O nl nn k m dn nx sz B lc ld p R0) : gi M l 0 = nI nn := by
  rw [LK_n hM.1.1.1.2.1 hM.1.2.2.1, hM.1.2.2.2.2.2.1]
theorem b_case [gW0] (hX : FX rr a7 l L R O nl) (hM : MP T M rr a7 l A L R O nl nn k m dn nx sz B lc ld p R0) (hkk : kk ≤ nl) (hqq : q ≤ nn) (hT : T.length + 5440 ≤ 900000) : RO (f_L_law_351 n f T M i2 0 rr l a7 (nI dn) i9 p R0 (-2000000097) (nI kk) (nI q) (if kk < nl then 1 else 0) (if kk < nl ∧ q < nn then 1 else 0) (if kk < nl then some (L kk) else none)) i9 dn (T.length + 5440) 5440 28980 rr a7 l A L R O nl nn k m := by
  obtain ⟨v, x, hv, e⟩ := below_ok (M := M) (T := T) (rr := rr) (b := 9) (by decide) (by decide)
  have hM := MP_rr (x := x) hX hM
  unfold f_L_law_351
  rw [show f_X12_below T M rr (9 : Int32) = some (nI v, si M rr 0 x) from e, Option.bind_some]
  dsimp only
  generalize si M rr 0 x = M at hM ⊢
  have hne : ∀ {w : Nat}, w < 9 → v ≠ w → ¬ nI v = nI w := fun hw h z => h ((nI_eq (by omega) (by omega)).mp z)
  have hn4 := hM.1.2.2.2.2.2.2.1
  have hn1 := hM.1.2.2.2.2.1
  have hn2 := hM.1.2.2.2.2.2.1
  have h5 := hX.2.2.2.2.2.2.2.2.2
  have hLK := hM.1.2.2.1
  have hfw : ∃ v2 x2, v2 < nn + 1 ∧ f_X12_below T M rr (gi M l 0 + (1 : Int32)) = some (nI v2, si M rr 0 x2) := by
    rw [MP_n hM, nI_1]
    exact below_ok (by omega) (by omega)
  have h45 : RO ((f_X12_below T M rr (gi M l 0 + (1 : Int32))).bind fun x180 => (f_X12_below T x180.2 rr (2 : Int32)).bind fun x181 => if ¬ x181.1 = 0 then f_L_law_762 n f T x181.2 i2 0 rr l a7 (nI dn) i9 p (-2000000097) (nI kk) (nI q) (if kk < nl ∧ q < nn then 1 else 0) (if kk < nl then some (L kk) else none) x180.1 (0 : Int32) else f_L_law_762 n f T x181.2 i2 0 rr l a7 (nI dn) i9 p (-2000000097) (nI kk) (nI q) (if kk < nl ∧ q < nn then 1 else 0) (if kk < nl then some (L kk) else none) x180.1 (1 : Int32)) i9 dn (T.length + 5440) 5440 28980 rr a7 l A L R O nl nn k m := by
    obtain ⟨v2, x2, hv2, e2⟩ := hfw
    have hM := MP_rr (x := x2) hX hM
    rw [e2, Option.bind_some]
    dsimp only
    generalize si M rr 0 x2 = M at hM ⊢
    obtain ⟨v3, x3, hv3, e3⟩ := below_ok (M := M) (T := T) (rr := rr) (b := 2) (by decide) (by decide)
    have hM := MP_rr (x := x3) hX hM
    rw [show f_X12_below T M rr (2 : Int32) = some (nI v3, si M rr 0 x3) from e3, Option.bind_some]
    dsimp only
    split
    · exact b_off (Or.inl rfl) hX hM hkk hqq (by omega) hT
    · exact b_off (Or.inr rfl) hX hM hkk hqq (by omega) hT
  by_cases h0 : v = 0
  · subst h0
    rw [if_pos (show nI 0 = (0 : Int32) from rfl)]
    obtain ⟨v3, x3, hv3, e3⟩ := below_ok (M := M) (T := T) (rr := rr) (b := 9) (by decide) (by decide)
    have hM := MP_rr (x := x3) hX hM
    rw [show f_X12_below T M rr (9 : Int32) = some (nI v3, si M rr 0 x3) from e3, Option.bind_some]
    dsimp only
    split
    · exact b_share (kb := 101) hX hM (by decide) (by decide) hT
    · exact b_share (kb := 200) hX hM (by decide) (by decide) hT
  rw [if_neg (show ¬ nI v = (0 : Int32) from hne (w := 0) (by decide) h0)]
  by_cases h1 : v = 1
  · subst h1
    rw [if_pos (show nI 1 = (1 : Int32) from rfl)]
    obtain ⟨v3, x3, hv3, e3⟩ := below_ok (M := M) (T := T) (rr := rr) (b := 2) (by decide) (by decide)
    have hM := MP_rr (x := x3) hX hM
    rw [show f_X12_below T M rr (2 : Int32) = some (nI v3, si M rr 0 x3) from e3, Option.bind_some]
    dsimp only
    split
    · exact b_keeps (Or.inl rfl) hX hM hkk hT
    · exact b_keeps (Or.inr rfl) hX hM hkk hT
  rw [if_neg (show ¬ nI v = (1 : Int32) from hne (w := 1) (by decide) h1)]
  by_cases h2 : v = 2
  · subst h2
    rw [if_pos (show nI 2 = (2 : Int32) from rfl)]
    obtain ⟨v3, x3, hv3, e3⟩ := below_ok (M := M) (T := T) (rr := rr) (b := 9) (by decide) (by decide)
    have hM := MP_rr (x := x3) hX hM
    rw [show f_X12_below T M rr (9 : Int32) = some (nI v3, si M rr 0 x3) from e3, Option.bind_some]
    dsimp only
    split
    · exact b_trust (kb := 12) hX hM hkk (by decide) (by decide) hT
    · exact b_trust (kb := 1003) hX hM hkk (by decide) (by decide) hT
  rw [if_neg (show ¬ nI v = (2 : Int32) from hne (w := 2) (by decide) h2)]
  by_cases h3 : v = 3
  · subst h3
    rw [if_pos (show nI 3 = (3 : Int32) from rfl)]
    have hw : ∀ {k0 : Int32}, (k0 = if kk < nl ∧ q < nn ∧ dOf M 37 kk q ≠ -1 then 1 else 0) → RO (f_L_law_678 n f T M i2 0 rr l a7 (nI dn) i9 p (-2000000097) (nI kk) (nI q) (if kk < nl ∧ q < nn then 1 else 0) (if kk < nl then some (L kk) else none) k0) i9 dn (T.length + 5440) 5440 28980 rr a7 l A L R O nl nn k m := fun hk0 => b_with hX hM hkk hqq hT hk0
    by_cases hb : kk < nl ∧ q < nn
    · have hLa := (hLK.2.2.2.1 kk (by rw [hn1]; exact hb.1)).1.2.2.1
      have hO := (hLK.2.2.2.1 kk (by rw [hn1]; exact hb.1)).2.2
      simp only [if_pos hb, if_pos hb.1] at hw ⊢
      rw [if_neg (show ¬ (1 : Int32) = 0 by decide), gsm_some hLa, Option.bind_some, LK_off hLK (by rw [hn1]; exact hb.1), Option.bind_some, ald_ok hO.2.2.1 (by rw [hn2]; exact hb.2) (by omega), Option.bind_some, hO.2.2.2 q (by rw [hn2]; exact hb.2)]
      by_cases ho : dOf M 37 kk q = -1
      · rw [if_pos ho]
        unfold f_L_law_677
        exact hw (by rw [if_neg (fun z => z.2.2 ho)])
      · rw [if_neg ho]
        exact hw (by rw [if_pos ⟨hb.1, hb.2, ho⟩])
    · simp only [if_neg hb] at hw ⊢
      rw [if_pos trivial]
      unfold f_L_law_677
      exact hw (by rw [if_neg (fun z => hb ⟨z.1, z.2.1⟩)])
  rw [if_neg (show ¬ nI v = (3 : Int32) from hne (w := 3) (by decide) h3)]
  by_cases h4 : v = 4
  · subst h4
    rw [if_pos (show nI 4 = (4 : Int32) from rfl)]
    exact h45
  rw [if_neg (show ¬ nI v = (4 : Int32) from hne (w := 4) (by decide) h4)]
  by_cases h5' : v = 5
  · subst h5'
    rw [if_pos (show nI 5 = (5 : Int32) from rfl)]
    exact h45
  rw [if_neg (show ¬ nI v = (5 : Int32) from hne (w := 5) (by decide) h5')]
  have hrk : kk < nl → f_X10_rank T M l (nI kk) = some (dRk M 37 kk) := fun h => p_rank hLK (by rw [hn1]; exact h) (by omega)
  have hrg : ∀ {i : Nat}, i < nl → dRk M 37 i = -1 ∨ ∃ t, t < 8 ∧ dRk M 37 i = nI t := fun {i} hi => by
    rcases hLK.2.2.2.2.1.2.2 i (by rw [hn1]; exact hi) with z | ⟨t, ht, z⟩
    · exact Or.inl z
    · have h8 := hLK.2.2.2.2.1.1
      exact Or.inr ⟨t, by omega, by rw [← z]; exact (hLK.2.2.2.2.1.2.1 t ht).2.2⟩
  by_cases h6 : v = 6
  · subst h6
    rw [if_pos (show nI 6 = (6 : Int32) from rfl)]
    unfold f_L_law_940
    have hw : ∀ {k0 : Int32}, (k0 = if kk < nl ∧ dRk M 37 kk ≠ -1 then 1 else 0) → RO (f_L_law_941 n f T M i2 0 rr l a7 (nI dn) i9 p R0 (-2000000097) (nI kk) (if kk < nl then 1 else 0) k0) i9 dn (T.length + 5440) 5440 28980 rr a7 l A L R O nl nn k m := fun hk0 => b_unl hX hM hkk hk0 hT
    by_cases hb : kk < nl
    · simp only [if_pos hb] at hw ⊢
      rw [if_neg (show ¬ (1 : Int32) = 0 by decide), hrk hb, Option.bind_some]
      rcases hrg hb with z | ⟨t, ht, z⟩
      · rw [if_pos (show dRk M 37 kk < 0 by rw [z]; decide)]
        exact hw (by rw [if_neg (fun y => y.2 z)])
      · rw [if_neg (show ¬ dRk M 37 kk < 0 by rw [z]; exact nI_pos (by omega))]
        exact hw (by rw [if_pos ⟨hb, by rw [z]; exact nI_nneg (by omega) (by decide)⟩])
    · simp only [if_neg hb] at hw ⊢
      rw [if_pos trivial]
      exact hw (by rw [if_neg (fun z => hb z.1)])
  rw [if_neg (show ¬ nI v = (6 : Int32) from hne (w := 6) (by decide) h6)]
  unfold f_L_law_1069
  have hw : ∀ {k0 : Int32}, (k0 = if kk < nl ∧ dRk M 37 kk = -1 then 1 else 0) → RO (f_L_law_1070 n f T M i2 0 rr l a7 (nI dn) i9 p R0 (-2000000097) (nI kk) (if kk < nl then 1 else 0) k0) i9 dn (T.length + 5440) 5440 28980 rr a7 l A L R O nl nn k m := fun hk0 => b_rel hX hM hkk hk0 hT
  by_cases hb : kk < nl
  · simp only [if_pos hb] at hw ⊢
    rw [if_neg (show ¬ (1 : Int32) = 0 by decide), hrk hb, Option.bind_some]
    rcases hrg hb with z | ⟨t, ht, z⟩
    · rw [if_neg (show ¬ (0 : Int32) ≤ dRk M 37 kk by rw [z]; decide)]
      exact hw (by rw [if_pos ⟨hb, z⟩])
    · rw [if_pos (show (0 : Int32) ≤ dRk M 37 kk by rw [z]; exact nI_le (a := 0) (by omega) (by omega))]
      exact hw (by rw [if_neg (fun y => nI_nneg (v := t) (by omega) (by decide) (z.symm.trans y.2))])
  · simp only [if_neg hb] at hw ⊢
    rw [if_pos trivial]
    exact hw (by rw [if_neg (fun z => hb z.1)])
theorem b_310 [gW0] (hX : FX rr a7 l L R O nl) (hM : MP T M rr a7 l A L R O nl nn k m dn nx sz B lc ld p R0) (hkk : kk ≤ nl) (hqq : q ≤ nn) (hT : T.length + 5440 ≤ 900000) : RO (f_L_law_310 n f T M i2 0 rr l a7 (nI dn) i9 p R0 (-2000000097) (nI kk) (nI q) (if kk < nl then 1 else 0)) i9 dn (T.length + 5440) 5440 28980 rr a7 l A L R O nl nn k m := by
  have hw := b_case (n := n) (f := f) (i2 := i2) (i9 := i9) hX hM hkk hqq hT
  have hn4 := hM.1.2.2.2.2.2.2.1
  have hn1 := hM.1.2.2.2.2.1
  have h5 := hX.2.2.2.2.2.2.2.2.2
  have hLK := hM.1.2.2.1
  unfold f_L_law_310 f_L_law_331 f_L_law_332
  by_cases hb : kk < nl
  · rw [MP_n hM]
    by_cases hq : q < nn
    · simp only [if_pos hb, if_pos (And.intro hb hq), d1, if_false, if_neg (nI_ge hq (by omega))] at hw ⊢
      rw [LK_all hLK, Option.bind_some, LK_lib (by omega) hLK (by rw [hn1]; exact hb), Option.bind_some]
      exact hw
    · simp only [if_pos hb, if_neg (show ¬ (kk < nl ∧ q < nn) from fun z => hq z.2), d1, if_false, if_pos (nI_le (a := nn) (b := q) (by omega) (by omega))] at hw ⊢
      rw [LK_all hLK, Option.bind_some, LK_lib (by omega) hLK (by rw [hn1]; exact hb), Option.bind_some]
      exact hw
  · simp only [if_neg hb, if_neg (show ¬ (kk < nl ∧ q < nn) from fun z => hb z.1), d0, if_true] at hw ⊢
    exact hw
theorem b_pos {x : Nat} {y : Int32} (h : (y = 0 ∧ 0 < x) ∨ y = 1) : ∃ b, 0 < b ∧ b ≤ x + 1 ∧ nI x + y = nI b := by
  rcases h with ⟨rfl, h⟩ | rfl
  · exact ⟨x, h, by omega, Int32.add_zero _⟩
  · exact ⟨x + 1, by omega, by omega, nI_1 x⟩
theorem b_292 [gW0] {y : Int32} (hy : (y = 0 ∧ 0 < nn) ∨ y = 1) (hX : FX rr a7 l L R O nl) (hM : MP T M rr a7 l A L R O nl nn k m dn nx sz B lc ld p R0) (hkk : kk ≤ nl) (hT : T.length + 5440 ≤ 900000) : RO (f_L_law_292 n f T M i2 0 rr l a7 (nI dn) i9 p R0 (-2000000097) (nI nl) (nI kk) rr (nI nn) y) i9 dn (T.length + 5440) 5440 28980 rr a7 l A L R O nl nn k m := by
  have hn4 := hM.1.2.2.2.2.2.2.1
  have h5 := hX.2.2.2.2.2.2.2.2.2
  obtain ⟨b, hb, hb2, eb⟩ := b_pos hy
  obtain ⟨v, x, hv, e⟩ := below_ok (M := M) (T := T) (rr := rr) (b := b) hb (by omega)
  have hM := MP_rr (x := x) hX hM
  unfold f_L_law_292
  rw [eb, e, Option.bind_some]
  dsimp only
  have hw := b_310 (n := n) (f := f) (i2 := i2) (i9 := i9) (q := v) hX hM hkk (by omega) hT
  by_cases hk : kk < nl
  · rw [if_neg (nI_ge hk (by omega))]
    rw [if_pos hk] at hw
    exact hw
  · rw [if_pos (nI_le (a := nl) (b := kk) (by omega) (by omega))]
    rw [if_neg hk] at hw
    exact hw
theorem b_256 [gW0] {y : Int32} (hy : (y = 0 ∧ 0 < nl) ∨ y = 1) (hX : FX rr a7 l L R O nl) (hM : MP T M rr a7 l A L R O nl nn k m dn nx sz B lc ld p R0) (hT : T.length + 5440 ≤ 900000) : RO (f_L_law_256 n f T M i2 0 rr l a7 (nI dn) i9 p R0 (-2000000097) (nI nl) rr (nI nl) y) i9 dn (T.length + 5440) 5440 28980 rr a7 l A L R O nl nn k m := by
  have hn4 := hM.1.2.2.2.2.2.2.1
  have h5 := hX.2.2.2.2.2.2.2.2.2
  obtain ⟨b, hb, hb2, eb⟩ := b_pos hy
  obtain ⟨v, x, hv, e⟩ := below_ok (M := M) (T := T) (rr := rr) (b := b) hb (by omega)
  have hM := MP_rr (x := x) hX hM
  unfold f_L_law_256 f_L_law_287
  rw [eb, e, Option.bind_some]
  dsimp only
  generalize si M rr 0 x = M at hM ⊢
  obtain ⟨v2, x2, hv2, e2⟩ := below_ok (M := M) (T := T) (rr := rr) (b := 12) (by decide) (by decide)
  have hM2 := MP_rr (x := x2) hX hM
  rw [show f_X12_below T M rr (12 : Int32) = some (nI v2, si M rr 0 x2) from e2, Option.bind_some]
  dsimp only
  rw [MP_n hM, MP_n hM2]
  split
  · exact b_292 (Or.inr rfl) hX hM2 (by omega) hT
  · split
    · rename_i h
      refine b_292 (Or.inl ⟨rfl, ?_⟩) hX hM2 (by omega) hT
      rcases Nat.eq_zero_or_pos nn with z | z
      · exact absurd (by rw [z]; rfl) h
      · exact z
    · exact b_292 (Or.inr rfl) hX hM2 (by omega) hT
/-- before a change: l copied, its bindings taken -/
theorem b_round [gW0] (hX : FX rr a7 l L R O nl) (hS : MS T M rr a7 l A L R O nl nn k m dn) {t : Nat} (ht : t < 35) (hT : T.length + 7065 ≤ 900000) : RO (f_L_law_B192 n f T M 1 i2 0 rr l a7 (nI dn) (nI t)) (nI t) dn (T.length + 7065) 7065 35455 rr a7 l A L R O nl nn k m := by
  obtain ⟨nx, sz, B, lc, ld, hC, hq⟩ := hS
  have hI := hC.1
  have hLK := hC.2.2.1
  have hV := hI.1.2.1
  have hn1 := hC.2.2.2.2.1
  have hn2 := hC.2.2.2.2.2.1
  have hn4 := hC.2.2.2.2.2.2.1
  have h5 := hX.2.2.2.2.2.2.2.2.2
  have h7 := hC.2.2.2.2.2.2.2.2.2.1
  have hw0 := hC.2.2.2.2.2.2.2.2.2.2.1
  have l7 := sh_lt h7
  have h311 := w0_ge
  have hLl : ∀ i, i < nl → T[L i]? = some (9, 0) := fun i hi => (hLK.2.2.2.1 i (by rw [hn1]; exact hi)).1.2.2.1
  have hOl : ∀ i, i < nl → T[O i]? = some (11, nn) := fun i hi => by rw [← hn2]; exact (hLK.2.2.2.1 i (by rw [hn1]; exact hi)).2.2.2.2.1
  obtain ⟨p, T1, M1, c1, s1, e1, g1, hc1, hs1, rfl, A', L', O', hp⟩ := p_copy (P' := Pb rr a7 l L O nl) hV hLK (by rw [hn1]; exact h5) (by rw [hn2]; exact hn4) (by omega) (fun b hb1 hb2 => ⟨⟨by omega, by omega, by have := hX.2.1; omega, by omega⟩, by have := hX.2.2.2.1; omega, fun i hi => by have := hX.2.2.2.2.2.1 i hi; omega⟩) ⟨hLK.2.2.1.1, kne hLK.2.2.1.2.2 hLK.1.2.1 (by decide), fun i hi => ⟨kne hLK.2.2.1.2.2 (hLl i hi) (by decide), fun z => hC.2.2.2.2.2.2.2.1 i hi z.symm⟩⟩ (fun i hi => ⟨(hLK.2.2.2.1 i hi).2.1.1, kne (hLK.2.2.2.1 i hi).2.1.2.2.1 hLK.1.2.1 (by decide), fun j hj => ⟨kne (hLK.2.2.2.1 i hi).2.1.2.2.1 (hLl j hj) (by decide), fun z => hX.2.2.2.2.2.2.2.2.1 j i hj (by rw [← hn1]; exact hi) z.symm⟩⟩) (fun b hb hk => ⟨hb, kne hk hLK.1.2.1 (by decide), fun i hi => ⟨kne hk (hLl i hi) (by decide), kne hk (hOl i hi) (by decide)⟩⟩)
  have hl1 := g1.2.2
  have hC1 := CU_to g1 hC
  have hLK1 := hC1.2.2.1
  have hV1 := hC1.1.1.2.1
  have hn11 := hC1.2.2.2.2.1
  have hn21 := hC1.2.2.2.2.2.1
  obtain ⟨R0, T2, M2, c2, s2, e2, g2, hc2, hs2, rfl, hb2, hw2⟩ := p_bindings hV1 hLK1 hC1.1.1.2.2.2.2.2.1 hC1.2.2.2.1 (by rw [hn11]; exact h5) (by rw [hn21]; exact hn4) (by omega)
  have hl2 := g2.2.2
  have g12 := gTo_tr g1 g2
  have hC2 := CU_to g12 hC
  have hds := (cInv_ce (gCe_to g12) hI).2
  have hds1 := (cInv_ce (gCe_to g1) hI).2
  have hds2 := (cInv_ce (gCe_to g2) hC1.1).2
  have h37 : (37 : Nat) = 5 ∨ gD 37 := Or.inr (Or.inl rfl)
  have hM : MP T2 M2 rr a7 l A L R O nl nn k m dn nx sz B lc ld T.length T1.length := by
    refine ⟨hC2, fun q hqd hq8 => ?_, ⟨A', B, L', R, O', lc, ld, LK_same hV (hds 37 h37) (LK_to g2 hp), hC.2.2.2.1, hC2.2.2.2.2.1, hC2.2.2.2.2.2.1⟩, gTo_sh g2 hp.1.2.1, ?_, fun i hi n hn => ?_, by omega⟩
    · obtain ⟨b, b1, b2⟩ := hq q hqd hq8
      have hs := hI.2.2.1.2.2.2.2.2 q (by have := hC.2.1; omega) hqd
      exact ⟨b, (gTo_gr g12 h7 q).trans b1, KP_mv hs.1 (gKe_To g12) (hds _ (Or.inr (gD_slot nx q))) b2⟩
    · rw [← hn11, ← hn21]
      exact hb2
    · rw [hw2 i (by rw [hn11]; exact hi) n (by rw [hn21]; exact hn)]
      exact (vBd_same (hds2 37 h37) hV1 (by rw [hn11]; exact hi) (by omega) (vW_sameV hV1 (hds2 37 h37))).symm
  have hLK2 := hC2.2.2.1
  unfold f_L_law_B192
  rw [gkd_ok (s_obj hI), Option.bind_some, gkd_ok hC.2.2.2.2.2.2.2.2.1, Option.bind_some, LK_kd hLK, Option.bind_some, gkd_ok h7, Option.bind_some, if_neg (show ¬ (35 : Int32) ≤ nI t from nI_ge (b := 35) ht (by decide)), if_neg (by decide), e1, Option.bind_some]
  dsimp only
  rw [gkd_ok hp.1.2.1, Option.bind_some, e2, Option.bind_some]
  dsimp only
  rw [gkd_ok hb2.1, Option.bind_some, LK_all hLK2, Option.bind_some, alen_of hLK2.2.1.2.2, hC2.2.2.2.2.1]
  obtain ⟨v, x, hv, e⟩ := below_ok (M := M2) (T := T2) (rr := rr) (b := 12) (by decide) (by decide)
  have hM := MP_rr (x := x) hX hM
  rw [show f_X12_below T2 M2 rr (12 : Int32) = some (nI v, si M2 rr 0 x) from e, Option.bind_some]
  dsimp only
  unfold f_L_law_251
  have fin : ∀ {y : Int32}, ((y = 0 ∧ 0 < nl) ∨ y = 1) → RO (cadd c1 s1 (cadd c2 s2 (f_L_law_256 n f T2 (si M2 rr 0 x) i2 0 rr l a7 (nI dn) (nI t) T.length T1.length (-2000000097) (nI nl) rr (nI nl) y))) (nI t) dn (T.length + 7065) 7065 35455 rr a7 l A L R O nl nn k m := fun hy => RO_cadd (RO_cadd (b_256 hy hX hM (by omega)) (C' := 7046) (S' := 35405) (len' := T.length + 7065) (by omega) (by omega) (by omega)) (by omega) (by omega) (by omega)
  split
  · exact fin (Or.inr rfl)
  · split
    · rename_i h
      refine fin (Or.inl ⟨rfl, ?_⟩)
      rcases Nat.eq_zero_or_pos nl with z | z
      · exact absurd (by rw [z]; rfl) h
      · exact z
    · exact fin (Or.inr rfl)
end PRD
