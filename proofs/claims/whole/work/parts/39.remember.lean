/-! THE REFERENCE'S HISTORY -/
def gHi (T : gT) (M : gM) : Prop := gMo T M ∧ gr M 311 10 = some 315 ∧ T[315]? = some (15, 8) ∧ ∀ k, k < 8 → gr M 315 k = some (316 + k) ∧ T[316 + k]? = some (11, 1498)
theorem gHi_of {T : gT} {M N : gM} (h : gHi T M) (hg : ∀ b j, gr N b j = gr M b j) : gHi T N := ⟨⟨(hg _ _).trans h.1.1, h.1.2⟩, (hg _ _).trans h.2.1, h.2.2.1, fun k hk => ⟨(hg _ _).trans (h.2.2.2 k hk).1, (h.2.2.2 k hk).2⟩⟩
section PRE
variable {T : gT} {M : gM} {ud : Nat}
theorem p_X9_rem50 (hH : gHi T M) (hu : gi M 311 11 = nI ud) (h8 : ud < 8) : ∃ M', f_X9_remember_50 T M 311 = some M' ∧ (∀ b j, gr M' b j = gr M b j) ∧ (∀ b j, gl M' b j = gl M b j) ∧ (∀ j, j < 1498 → gi M' (316 + ud) j = gi M 313 j) ∧ gi M' 311 11 = nI (ud + 1) ∧ ∀ b j, ¬ (b = 316 + ud ∧ j < 1498) → ¬ (b = 311 ∧ j = 11) → gi M' b j = gi M b j := by
  unfold f_X9_remember_50
  rw [p_mdat hH.1, Option.bind_some, ldr_ok hH.2.1 hH.2.2.1, Option.bind_some, hu, aldr_ok hH.2.2.1 h8 (by decide) (hH.2.2.2 ud h8).1 (hH.2.2.2 ud h8).2, Option.bind_some, p_X9_copy hH.1.2 (hH.2.2.2 ud h8).2 (by omega), Option.bind_some]
  have e : gi (cpi M 313 0 (316 + ud) 0 1498) 311 11 = nI ud := by rw [gi_cpi, if_neg (by omega)]; exact hu
  rw [e, nI_1]
  refine ⟨_, rfl, fun _ _ => rfl, fun _ _ => rfl, fun j hj => ?_, ?_, fun b j h1 h2 => ?_⟩
  · rw [gi_si, if_neg (by omega), gi_cpi, if_pos (by omega), show 0 + (j - 0) = j by omega]
  · rw [gi_si, if_pos ⟨rfl, rfl⟩]
  · rw [gi_si, if_neg h2, gi_cpi, if_neg (by omega)]
theorem p_X9_shift (hH : gHi T M) : ∃ N, gloop (fun x => f_X9_remember_B11 T x.2 311 x.1) gFU ((1 : Int32), M) = some N ∧ ((∀ b j, gr N b j = gr M b j) ∧ (∀ b j, gl N b j = gl M b j) ∧ (∀ k, k < 7 → ∀ j, j < 1498 → gi N (316 + k) j = gi M (317 + k) j) ∧ ∀ b j, ¬ (316 ≤ b ∧ b < 323 ∧ j < 1498) → gi N b j = gi M b j) := by
  refine gloop_ex (P := fun k y => y.1 = nI (k + 1) ∧ k ≤ 7 ∧ (∀ b j, gr y.2 b j = gr M b j) ∧ (∀ b j, gl y.2 b j = gl M b j) ∧ (∀ i, i < k → ∀ j, j < 1498 → gi y.2 (316 + i) j = gi M (317 + i) j) ∧ ∀ b j, ¬ (316 ≤ b ∧ b < 316 + k ∧ j < 1498) → gi y.2 b j = gi M b j) (fu := gFU) 7 (by decide) ⟨rfl, Nat.zero_le _, fun _ _ => rfl, fun _ _ => rfl, fun i hi => absurd hi (Nat.not_lt_zero i), fun _ _ _ => rfl⟩ (fun k y _ hP => ?_)
  obtain ⟨y1, N⟩ := y
  obtain ⟨rfl, hk7, hg, hl, hin, hout⟩ := hP
  dsimp only at hg hl hin hout
  show (∃ e, f_X9_remember_B11 T N 311 (nI (k + 1)) = some (.inl e) ∧ _) ∨ _
  unfold f_X9_remember_B11
  by_cases h7 : k = 7
  · subst h7
    rw [if_pos (show (8 : Int32) ≤ nI 8 from nI_le (Nat.le_refl 8) (by decide))]
    exact Or.inl ⟨N, rfl, hg, hl, hin, hout⟩
  · have hlt : k < 7 := by omega
    have hN := gHi_of hH hg
    rw [if_neg (show ¬ ((8 : Int32) ≤ nI (k + 1)) from nI_ge (a := k + 1) (b := 8) (by omega) (by decide)), ldr_ok hN.2.1 hN.2.2.1, Option.bind_some, aldr_ok hN.2.2.1 (by omega) (by decide) (hN.2.2.2 (k + 1) (by omega)).1 (hN.2.2.2 (k + 1) (by omega)).2, Option.bind_some, Option.bind_some, nI_pred, aldr_ok hN.2.2.1 (by omega) (by decide) (hN.2.2.2 k (by omega)).1 (hN.2.2.2 k (by omega)).2, Option.bind_some, p_X9_copy (hN.2.2.2 (k + 1) (by omega)).2 (hN.2.2.2 k (by omega)).2 (by omega), Option.bind_some, nI_1]
    refine Or.inr ⟨hlt, _, rfl, rfl, by omega, hg, hl, fun i hi j hj => ?_, fun b j hb => ?_⟩
    · show gi (cpi N (316 + (k + 1)) 0 (316 + k) 0 1498) (316 + i) j = _
      by_cases e : i = k
      · subst e
        rw [gi_cpi, if_pos (by omega), show 0 + (j - 0) = j by omega, hout _ _ (by omega), show 316 + (i + 1) = 317 + i by omega]
      · rw [gi_cpi, if_neg (by omega)]
        exact hin i (by omega) j hj
    · show gi (cpi N (316 + (k + 1)) 0 (316 + k) 0 1498) b j = _
      rw [gi_cpi, if_neg (by omega)]
      exact hout b j (by omega)
theorem p_X9_remLt (hH : gHi T M) (hu : gi M 311 11 = nI ud) (h8 : ud < 8) : ∃ M', f_X9_remember T M 311 = some M' ∧ (∀ b j, gr M' b j = gr M b j) ∧ (∀ b j, gl M' b j = gl M b j) ∧ (∀ j, j < 1498 → gi M' (316 + ud) j = gi M 313 j) ∧ gi M' 311 11 = nI (ud + 1) ∧ ∀ b j, ¬ (b = 316 + ud ∧ j < 1498) → ¬ (b = 311 ∧ j = 11) → gi M' b j = gi M b j := by
  unfold f_X9_remember
  rw [hu, if_pos (show ¬ (nI ud = (8 : Int32)) from fun q => by have := (nI_eq (a := ud) (b := 8) (by omega) (by decide)).mp q; omega)]
  exact p_X9_rem50 hH hu h8
theorem p_X9_remFull (hH : gHi T M) (hu : gi M 311 11 = nI 8) : ∃ M', f_X9_remember T M 311 = some M' ∧ (∀ b j, gr M' b j = gr M b j) ∧ (∀ b j, gl M' b j = gl M b j) ∧ (∀ k, k < 7 → ∀ j, j < 1498 → gi M' (316 + k) j = gi M (317 + k) j) ∧ (∀ j, j < 1498 → gi M' 323 j = gi M 313 j) ∧ gi M' 311 11 = nI 8 ∧ ∀ b j, ¬ (316 ≤ b ∧ b < 324 ∧ j < 1498) → ¬ (b = 311 ∧ j = 11) → gi M' b j = gi M b j := by
  unfold f_X9_remember
  rw [hu, if_neg (fun q => q rfl)]
  obtain ⟨N, c1, c2, c3, c4, c5⟩ := p_X9_shift hH
  rw [c1, Option.bind_some, show gi N 311 11 = nI (7 + 1) from (c5 _ _ (by omega)).trans hu, nI_pred]
  obtain ⟨M', d1, d2, d3, d4, d5, d6⟩ := p_X9_rem50 (M := si N 311 11 (nI 7)) (ud := 7) (gHi_of hH c2) (by rw [gi_si, if_pos ⟨rfl, rfl⟩]) (by omega)
  refine ⟨M', d1, fun b j => (d2 b j).trans (c2 b j), fun b j => (d3 b j).trans (c3 b j), fun k hk j hj => ?_, fun j hj => ?_, d5, fun b j h1 h2 => ?_⟩
  · rw [d6 _ _ (by omega) (by omega), gi_si, if_neg (by omega)]
    exact c4 k hk j hj
  · rw [show (323 : Nat) = 316 + 7 from rfl, d4 j hj, gi_si, if_neg (by omega)]
    exact c5 _ _ (by omega)
  · rw [d6 b j (by omega) h2, gi_si, if_neg h2]
    exact c5 b j (by omega)
end PRE
