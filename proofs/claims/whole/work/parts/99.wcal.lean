/-! A LOAD THAT IS REFUSED OR FAILS -/
section PLC
variable {T : gT} {M N M1 : gM} {k : Nat → Nat × Nat} {m C C' nx sz n q : Nat} {i1 : Int32} {B : Nat → Nat}
theorem o_loadNo (hI : gInv T M k m C nx sz) (hC : C ≤ C') (hno : i1 < 0 ∨ ¬ i1 ≤ gi M 0 1) : opL T M C' (f_X8_load T M 0 i1) (fun T N => f_X9_load T N 311 i1) := by
  obtain ⟨q, b1, b2, b3, b4, b5⟩ := hI.2.2.2.2.2.2
  refine Or.inr ⟨?_, fun l => ?_⟩
  · unfold f_X8_load f_X8_load_12
    by_cases c : i1 < 0
    · rw [if_pos c]
    · rw [if_neg c, if_neg (hno.resolve_left c)]
  · have hIl := gInv_l hI l
    have e0 : gi (si (M.1, l, M.2.2) 311 0 0) 311 0 = 0 := by rw [gi_si, if_pos ⟨rfl, rfl⟩]
    have e2 : gi (si (M.1, l, M.2.2) 311 0 0) 311 2 = gi M 0 1 := by
      rw [gi_si, if_neg (by omega)]
      exact b3.trans b2.symm
    refine ⟨0, si (si (M.1, l, M.2.2) 311 0 0) 311 0 1, ?_, by rw [gi_si, if_pos ⟨rfl, rfl⟩], k, m, nx, sz, gInv_C' (gInv_q hIl (fr_si (fr_si fr_refl (Or.inr (Or.inr (Or.inl ⟨rfl, Or.inl rfl⟩)))) (Or.inr (Or.inr (Or.inl ⟨rfl, Or.inl rfl⟩))))) hC⟩
    show f_X9_load T (M.1, l, M.2.2) 311 i1 = _
    unfold f_X9_load f_X9_load_23
    rw [e2, p_X9_in, if_neg, Option.bind_some, if_neg (fun z => z rfl), p_X9_fails1 e0 (by decide), Option.bind_some]
    · dsimp only
      rw [if_neg (show ¬ ((1 : Int32) = 0) by decide)]
    · intro z
      rcases hno with z2 | z2
      · exact z.1 z2
      · exact z.2 (Int32.not_le.mp z2)
/-- what the class's reading leaves, whatever the reference does -/
theorem l_first (hI : gInv T M k m C nx sz) (hB : ∀ j, j < 800 → B j < 256 ∧ gi M 1 j = cB (B j) ∧ (gi M 1 j).toInt8.toInt32 = gi M 1 j ∧ gi M 312 j = nI (B j)) (hc : gi M 311 2 = nI q) (hn : n ≤ q) (hq8 : q ≤ 800) (l : Nat → Nat → Int64) {U : gT} {R : gM} (hXR : gFx U R) (hR2 : gi R 311 2 = nI q) (hR3 : ∀ j, gi R 312 j = gi M 312 j) : ∃ M' R', f_X9_load U R 311 (nI n) = rTail U R' ∧ cG (si M 0 1 0) M' ∧ fz rSL rL R R' ∧ gi R' 311 0 = 0 ∧ gi R' 311 2 = 0 ∧ ((f_X5_readText T (si M 0 1 0) 2 1 (nI n) = cTail T M' ∧ ∃ s e p, pT T U M' R' B n s e p) ∨ (f_X5_readText T (si M 0 1 0) 2 1 (nI n) = some ((0 : Int32), T, M') ∧ bad M' R' ∧ kP M')) := by
  have hX0 : gFx T (si M 0 1 0) := gFx_gr hI.2.1 (fun _ _ => rfl)
  have e1 : ∀ b j, b ≠ 0 → gi (si M 0 1 0) b j = gi M b j := fun b j hb => by rw [gi_si, if_neg (fun z => hb z.1)]
  exact j_read hX0 (gDat_gr (hI.2.2.2.2.2.1 5 (Or.inl rfl)) (fun _ _ => rfl)) (fun i hi => by rw [show dKp (si M 0 1 0) 5 i = dKp M 5 i from e1 _ _ (by omega)]; exact hI.2.2.2.2.1 5 (Or.inl rfl) i hi) (fun j hj => by
    obtain ⟨c1, c2, c3, c4⟩ := hB j (by omega)
    rw [e1 1 j (by decide)]
    exact ⟨c1, c2, c3⟩) hXR hR2 hn hq8 (fun j hj => by rw [hR3]; exact (hB j (by omega)).2.2.2)
theorem cS11_T {b j : Nat} (h : cS11 b j) : sT b j := by
  unfold cS11 at h
  unfold sT
  rcases h with h | h | h | h | h
  · exact Or.inl h
  · exact Or.inr (Or.inl h)
  · exact Or.inr (Or.inr (Or.inl h))
  · exact Or.inr (Or.inr (Or.inr (Or.inl h)))
  · exact Or.inr (Or.inr (Or.inr (Or.inr (Or.inr (Or.inr (Or.inr h))))))
theorem rSL_T {b j : Nat} (h : rSL b j) : b = 314 ∨ (b = 311 ∧ j ≠ 11 ∧ j ≠ 7) := by
  unfold rSL rS rS0L at h
  omega
theorem o_loadBad (hl : 359 ≤ T.length) (hL : T.length + 3 ≤ 900000) (hI : gInv T M k m C nx sz) (hC : C ≤ C') (hB : ∀ j, j < 800 → B j < 256 ∧ gi M 1 j = cB (B j) ∧ (gi M 1 j).toInt8.toInt32 = gi M 1 j ∧ gi M 312 j = nI (B j)) (hc0 : gi M 0 1 = nI q) (hc : gi M 311 2 = nI q) (hn : n ≤ q) (hq8 : q ≤ 800) (hG : cG (si M 0 1 0) M1) (hbad : f_X5_readText T (si M 0 1 0) 2 1 (nI n) = some ((0 : Int32), T, M1)) : opL T M C' (f_X8_load T M 0 (nI n)) (fun T N => f_X9_load T N 311 (nI n)) := by
  have hX0 : gFx T (si M 0 1 0) := gFx_gr hI.2.1 (fun _ _ => rfl)
  have hX1 := gFx_fz hX0 hG
  have hX2 : gFx T (si M1 0 2 (gi M1 2 10)) := gFx_gr hX1 (fun _ _ => rfl)
  have eN : ∀ b j, ¬ cS11 b j → b ≠ 0 → gi (si M1 0 2 (gi M1 2 10)) b j = gi M b j := fun b j h1 h2 => by
    rw [gi_si, if_neg (fun z => h2 z.1), hG.2.2 b j h1, gi_si, if_neg (fun z => h2 z.1)]
  have n11 : ∀ b j, (b = 311 ∨ b = 312 ∨ b = 1) → ¬ cS11 b j := fun b j hb z => by
    have := sT_no (cS11_T z)
    unfold cS11 at z
    rcases z with z | z | z | z | z
    · omega
    · omega
    · omega
    · omega
    · have := dIn_rng z; omega
  refine Or.inl ⟨gi M1 2 9, T, si M1 0 2 (gi M1 2 10), ?_, Or.inl rfl, fun l => ?_⟩
  · unfold f_X8_load
    rw [if_neg (fun z => nI_pos (by omega) z), hc0, if_pos (nI_le hn (by omega)), r_0_3 hX0, Option.bind_some, r_0_0 hX0, Option.bind_some, hbad, Option.bind_some, if_neg (fun z => z rfl)]
    dsimp only
    rw [r_0_3 hX1, Option.bind_some, r_0_3 hX2, Option.bind_some, gi_si, if_neg (by omega)]
  · obtain ⟨M2, R2, r1, r2, r3, r4, r5, r6⟩ := l_first hI hB hc hn hq8 l (U := T) (R := ((si M1 0 2 (gi M1 2 10)).1, l, (si M1 0 2 (gi M1 2 10)).2.2)) (gFx_gr hX2 (fun _ _ => rfl)) ((eN 311 2 (n11 _ _ (by omega)) (by decide)).trans hc) (fun j => eN 312 j (n11 _ _ (by omega)) (by decide))
    rcases r6 with ⟨u1, s, e, p, u2⟩ | ⟨u1, u2, u3⟩
    · obtain ⟨k2, m2, w1, w2, -⟩ := pC_val u2.2.2
      obtain ⟨N2, z1, -⟩ := c_tail u2.1.1 hL hl w1 w2
      rw [hbad, z1] at u1
      exact absurd (congrArg Prod.fst (Option.some.inj u1)) (show ¬ (0 : Int32) = 1 by decide)
    · rw [hbad] at u1
      have e2 : M1 = M2 := congrArg (fun z => z.2.2) (Option.some.inj u1)
      subst e2
      obtain ⟨c, x, d1, d2, d3, d4, d5⟩ := u2
      have hR : ∀ b j, ¬ rSL b j → gi R2 b j = gi (si M1 0 2 (gi M1 2 10)) b j := fun b j h => r3.2.2 b j h
      have hF : ∀ b j, ¬ sT b j → gi (si R2 311 7 (nI x)) b j = gi M b j := fun b j h => by
        have h1 : ¬ (b = 311 ∧ j = 7) := fun z => h (Or.inr (Or.inr (Or.inr (Or.inr (Or.inr (Or.inr (Or.inl ⟨z.1, by omega⟩)))))))
        have h2 : ¬ rSL b j := fun z => by
          rcases rSL_T z with y | y
          · exact h (Or.inr (Or.inr (Or.inr (Or.inr (Or.inl y)))))
          · exact h (Or.inr (Or.inr (Or.inr (Or.inr (Or.inr (Or.inr (Or.inl ⟨y.1, y.2.1⟩)))))))
        have h3 : ¬ (b = 0 ∧ (j = 1 ∨ j = 2)) := fun z => h (Or.inr (Or.inr (Or.inr (Or.inr (Or.inr (Or.inl z))))))
        rw [gi_si, if_neg h1, hR b j h2, gi_si, if_neg (by omega), hG.2.2 b j (fun z => h (cS11_T z)), gi_si, if_neg (by omega)]
      have e01 : gi (si R2 311 7 (nI x)) 0 1 = 0 := by
        rw [gi_si, if_neg (by omega), hR 0 1 (fun z => by have := rSL_T z; omega), gi_si, if_neg (by omega), hG.2.2 0 1 (fun z => by have := cS11_T z; unfold cS11 at z; rcases z with z | z | z | z | z; omega; omega; omega; omega; have := dIn_rng z; omega), gi_si, if_pos ⟨rfl, rfl⟩]
      have e02 : gi (si R2 311 7 (nI x)) 0 2 = nI x := by
        rw [gi_si, if_neg (by omega), hR 0 2 (fun z => by have := rSL_T z; omega), gi_si, if_pos ⟨rfl, rfl⟩, d3]
      have hfar : ∀ b j, (b = 1 ∨ b = 312) → gi (si R2 311 7 (nI x)) b j = gi M b j := fun b j hb => hF b j (fun z => by have := sT_no z; unfold sT at z; rcases z with z | z | z | z | z | z | z | z; omega; omega; omega; omega; omega; omega; omega; have := dIn_rng z; omega)
      refine ⟨si R2 311 7 (nI x), ?_, by rw [gi_si, if_neg (by omega)]; exact r4, ?_, k, m, nx, sz, gInv_C' (gInv_T hI (fun b j => ?_) hF ?_ ?_) hC⟩
      · show f_X9_load T _ 311 (nI n) = _
        rw [r1, rTail_bad d1 d4 d5, d2]
      · exact r3.2.1 358 0 (fun z => by unfold rL at z; omega)
      · exact (r3.1 b j).trans (hG.1 b j)
      · refine kP_S u3 (fun b j hd => ?_)
        have h3 := d5_no hd
        rw [gi_si, if_neg (by omega), hR b j (fun z => by have := rSL_T z; omega), gi_si, if_neg (by omega)]
      · obtain ⟨q', b1, b2, b3, b4, b5⟩ := hI.2.2.2.2.2.2
        exact ⟨0, by decide, e01, by rw [gi_si, if_neg (by omega)]; exact r5, fun j hj => by rw [hfar 312 j (by omega), hfar 1 j (by omega)]; exact b4 j hj, by rw [e02, gi_si, if_pos ⟨rfl, rfl⟩]⟩
end PLC
