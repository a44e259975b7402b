/-! DATA OF BOTH SIDES, wherever they lie: D in the class, B in the reference; C bounds the reference's clock -/
/-- the places of weights' codes -/
def gCo [gW0] (b : Nat) : Prop := b = 8 ∨ b = 40 ∨ (∃ j, j < 8 ∧ b = 81 + 29 * j) ∨ b = w0 + 1
theorem gCo_no [gW0] {b : Nat} (h : gCo b) : b = 8 ∨ b = 40 ∨ (81 ≤ b ∧ b ≤ 284 ∧ (b - 81) % 29 = 0) ∨ (312 ≤ b ∧ b = w0 + 1) := by
  have := w0_ge
  rcases h with h | h | ⟨j, hj, h⟩ | h <;> omega
theorem gCo_w [gW0] {w : Nat} (h : w = 7 ∨ w = 39 ∨ (∃ j, j < 8 ∧ w = 80 + 29 * j) ∨ w = w0) : gCo (w + 1) := by
  rcases h with h | h | ⟨j, hj, h⟩ | h
  · exact Or.inl (by omega)
  · exact Or.inr (Or.inl (by omega))
  · exact Or.inr (Or.inr (Or.inl ⟨j, hj, by omega⟩))
  · exact Or.inr (Or.inr (Or.inr (by omega)))
theorem gDs_mem {D : Nat} (h : D = 5 ∨ gD D) : D ∈ gDs := by
  rcases h with rfl | rfl | ⟨j, hj, rfl⟩
  · decide
  · decide
  · have : ∀ j, j < 8 → 78 + 29 * j ∈ gDs := by decide
    exact this j hj
theorem gDs_nw : ∀ j, j < 8 → ¬ (80 + 29 * j ∈ gDs) := by decide
theorem gDs_le : ∀ D ∈ gDs, D ≤ 281 := by decide
theorem gWa_nD [gW0] {w : Nat} (h : w = 7 ∨ w = 39 ∨ (∃ j, j < 8 ∧ w = 80 + 29 * j) ∨ w = w0) : ¬ (w ∈ gDs) := by
  rcases h with h | h | ⟨j, hj, h⟩ | h
  · subst h; decide
  · subst h; decide
  · subst h; exact gDs_nw j hj
  · intro q
    have := gDs_le w q
    have := w0_ge
    omega
section PSL
variable {T : gT} {M N : gM} {D D' B B' : Nat} {k : Nat → Nat × Nat} {m C C' : Nat}
theorem gWt_mv [gW0] (h : gWt T M D' k m) (hg4 : gr N D 4 = gr M D' 4) (hgr : ∀ b j, ¬ (b ∈ gDs ∧ j = 4) → gr N b j = gr M b j) (hc : ∀ b j, gCo b → gi N b j = gi M b j) : gWt T N D k m := by
  obtain ⟨w, g4, hw, g0, hcc, g1, hs, hww, hk⟩ := h
  have nw := gWa_nD hww
  exact ⟨w, hg4.trans g4, hw, (hgr _ _ (fun q => nw q.1)).trans g0, hcc, (hgr _ _ (fun q => nw q.1)).trans g1, hs, hww, fun t ht => by rw [hc _ _ (gCo_w hww)]; exact hk t ht⟩
end PSL
/-! THE HISTORIES -/
/-- the class's slot for the q-th latest change -/
abbrev gSlot (nx q : Nat) : Nat := 78 + 29 * ((nx + 7 - q) % 8)
def gKf (M : gM) : Prop := ∀ D, D = 5 ∨ gD D → ∀ i, i < 8 → dKp M D i = 0 ∨ dKp M D i = 1
def gDa (T : gT) (M : gM) : Prop := ∀ D, D = 5 ∨ gD D → gDat T M D
theorem gD_slot (nx q : Nat) : gD (gSlot nx q) := Or.inr ⟨_, Nat.mod_lt _ (by decide), rfl⟩
theorem gDa_of {T : gT} {M N : gM} (h : gDa T M) (hg : ∀ b j, ¬ (b ∈ gDs ∧ j = 4) → gr N b j = gr M b j) : gDa T N := fun D hD => gDat_of (h D hD) hg (gDs_mem hD)
/-- two Data don't overlap -/
theorem dIn_apart {D D' b j : Nat} (hD : D = 5 ∨ gD D) (hD' : D' = 5 ∨ gD D') (hne : D ≠ D') (h : dIn D b j) : ¬ dIn D' b j := fun h' => by
  have h2 := dIn_two h
  have h2' := dIn_two h'
  rcases hD with rfl | rfl | ⟨i, hi, rfl⟩ <;> rcases hD' with rfl | rfl | ⟨i', hi', rfl⟩ <;> omega
theorem dIn_noCo [gW0] {D b j : Nat} (hD : D = 5 ∨ gD D) (h : dIn D b j) : ¬ gCo b := fun q => by
  have h2 := dIn_two h
  have q2 := gCo_no q
  rcases hD with rfl | rfl | ⟨i, hi, rfl⟩ <;> omega
theorem dIn_rngs {D b j : Nat} (hD : D = 5 ∨ gD D) (h : dIn D b j) : (5 ≤ b ∧ b ≤ 33) ∨ (37 ≤ b ∧ b ≤ 65) ∨ (78 ≤ b ∧ b ≤ 309) := by
  have h2 := dIn_two h
  rcases hD with rfl | rfl | ⟨i, hi, rfl⟩ <;> omega
