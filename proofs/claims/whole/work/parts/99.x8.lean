/-! THE LAW'S LOOP -/
section PL8
variable {T : gT} {M : gM} {C nx sz m n t : Nat} {k : Nat → Nat × Nat} {f : Nat → Int32}
theorem scr_ok {q : Nat} (hq : q < n) (hn : n < 2 ^ 31) : scr n f (nI q) = some (f q) := by
  unfold scr
  rw [if_neg (nI_in hq hn), nI_clamp (Nat.lt_trans hq hn)]
theorem law_end (hn : n ≤ 3072) (ht : t ≤ 3072) (h : ¬ ((Int32.ofNat n - (6 : Int32)) < nI t)) : t + 6 ≤ n := by
  have e : Int32.ofNat n - (6 : Int32) = iI ((n : Int) - 6) := by
    rw [show Int32.ofNat n = iI (n : Int) from (iI_N n).symm, show (6 : Int32) = iI 6 from rfl]
    exact (Int32.ofInt_sub _ _).symm
  rw [e, Int32.lt_iff_toInt_lt, iI_toInt (by omega) (by omega), show nI t = iI (t : Int) from (iI_N t).symm, iI_toInt (by omega) (by omega)] at h
  omega
/-- from any state between two calls the law's loop ends with yes -/
theorem law_loop (hn : n ≤ 3072) (hI : gInv T M k m 8 nx sz) (hT : T.length = 359) : gloop (fun y => f_L_law_B23 n f y.2.1 y.2.2 0 311 358 y.1) 513 ((0 : Int32), T, M) = some 1 := by
  have h : ∃ e, gloop (fun y => f_L_law_B23 n f y.2.1 y.2.2 0 311 358 y.1) 513 ((0 : Int32), T, M) = some e ∧ e = 1 := by
    refine gloop_ex (P := fun t y => y.1 = nI (6 * t) ∧ ∃ k m nx sz j, gInv y.2.1 y.2.2 k m (8 + t) nx sz ∧ j ≤ t ∧ y.2.1.length = 359 + 3 * j) 512 (by decide) ⟨rfl, k, m, nx, sz, 0, hI, Nat.le_refl 0, hT⟩ (fun t y ht hP => ?_)
    obtain ⟨y1, T, M⟩ := y
    obtain ⟨rfl, k, m, nx, sz, j, hI, hj, hT⟩ := hP
    dsimp only at hI hT
    show (∃ e, f_L_law_B23 n f T M 0 311 358 (nI (6 * t)) = some (.inl e) ∧ _) ∨ (_ ∧ ∃ y', f_L_law_B23 n f T M 0 311 358 (nI (6 * t)) = some (.inr y') ∧ _)
    by_cases hb : (Int32.ofNat n - (6 : Int32)) < nI (6 * t)
    · refine Or.inl ⟨1, ?_, rfl⟩
      unfold f_L_law_B23
      rw [if_pos hb]
    · have h6 := law_end hn (by omega) hb
      have sN : ∀ q, q < 6 → scr n f (nI (6 * t) + nI q) = some (f (6 * t + q)) := fun q hq => by
        rw [nI_add]
        exact scr_ok (by omega) (by omega)
      obtain ⟨T', M', h1, h2, k', m', nx', sz', h3⟩ := lw_all (scr_ok (f := f) (q := 6 * t) (by omega) (by omega)) (sN 1 (by decide)) (sN 2 (by decide)) (sN 3 (by decide)) (sN 4 (by decide)) (sN 5 (by decide)) hb hI (by omega) (by omega) ⟨j, hT⟩ (by omega)
      refine Or.inr ⟨by omega, _, h1, ?_, k', m', nx', sz', ?_⟩
      · show nI (6 * t) + 6 = nI (6 * (t + 1))
        rw [show (6 : Int32) = nI 6 from rfl, nI_add]
        rfl
      · rcases h2 with h2 | h2
        · exact ⟨j, h3, by omega, by show T'.length = _; omega⟩
        · exact ⟨j + 1, h3, by omega, by show T'.length = _; omega⟩
  obtain ⟨e, h1, rfl⟩ := h
  exact h1
end PL8
