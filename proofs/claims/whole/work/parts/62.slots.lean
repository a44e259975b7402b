/-! DATA OF BOTH SIDES, wherever they lie: D in the class, B in the reference; C bounds the reference's clock -/
def gSlt (T : gT) (M : gM) (D B : Nat) (k : Nat → Nat × Nat) (m C : Nat) : Prop := gVal T M D ∧ gEq M D B ∧ gWt T M D k m ∧ wRf M B k m ∧ wOK k m ∧ m ≤ 2000 ∧ ∃ c, c ≤ C ∧ gi M B 3 = nI c ∧ ∀ i, i < dNl M D → ∃ x, x ≤ c ∧ gi M B (6 + 24 * i + 2) = nI x
/-- the places of weights' codes -/
def gCo (b : Nat) : Prop := b = 8 ∨ b = 40 ∨ (∃ j, j < 8 ∧ b = 81 + 29 * j) ∨ ∃ j, b = 360 + 3 * j
theorem gCo_no {b : Nat} (h : gCo b) : b = 8 ∨ b = 40 ∨ (81 ≤ b ∧ b ≤ 284 ∧ (b - 81) % 29 = 0) ∨ (360 ≤ b ∧ (b - 360) % 3 = 0) := by
  rcases h with h | h | ⟨j, hj, h⟩ | ⟨j, h⟩ <;> omega
theorem gCo_w {w : Nat} (h : w = 7 ∨ w = 39 ∨ (∃ j, j < 8 ∧ w = 80 + 29 * j) ∨ ∃ j, w = 359 + 3 * j) : gCo (w + 1) := by
  rcases h with h | h | ⟨j, hj, h⟩ | ⟨j, h⟩
  · exact Or.inl (by omega)
  · exact Or.inr (Or.inl (by omega))
  · exact Or.inr (Or.inr (Or.inl ⟨j, hj, by omega⟩))
  · exact Or.inr (Or.inr (Or.inr ⟨j, by omega⟩))
theorem gDs_mem {D : Nat} (h : D = 5 ∨ gD D) : D ∈ gDs := by
  rcases h with rfl | rfl | ⟨j, hj, rfl⟩
  · decide
  · decide
  · have : ∀ j, j < 8 → 78 + 29 * j ∈ gDs := by decide
    exact this j hj
theorem gDs_nw : ∀ j, j < 8 → ¬ (80 + 29 * j ∈ gDs) := by decide
theorem gDs_le : ∀ D ∈ gDs, D ≤ 281 := by decide
theorem gWa_nD {w : Nat} (h : w = 7 ∨ w = 39 ∨ (∃ j, j < 8 ∧ w = 80 + 29 * j) ∨ ∃ j, w = 359 + 3 * j) : ¬ (w ∈ gDs) := by
  rcases h with h | h | ⟨j, hj, h⟩ | ⟨j, h⟩
  · subst h; decide
  · subst h; decide
  · subst h; exact gDs_nw j hj
  · intro q
    have := gDs_le w q
    omega
section PSL
variable {T : gT} {M N : gM} {D D' B B' : Nat} {k : Nat → Nat × Nat} {m C C' : Nat}
theorem wRf_mv (h : wRf M B' k m) (hB : ∀ j, j < 1498 → gi N B j = gi M B' j) : wRf N B k m := by
  rcases h with ⟨h1, h2, h3⟩ | ⟨h1, h2, h3⟩
  · refine Or.inl ⟨by rw [hB 5 (by omega)]; exact h1, h2, fun t ht => ?_⟩
    have hp := wP_mono (k := k) ht
    obtain ⟨e1, e2⟩ := h3 t ht
    have hl : 1 ≤ wL (k t) := by unfold wL; split <;> omega
    refine ⟨by rw [hB _ (by omega)]; exact e1, fun h => ?_⟩
    have hl2 : wL (k t) = 2 := if_pos h
    rw [hB _ (by omega)]
    exact e2 h
  · exact Or.inr ⟨by rw [hB 5 (by omega)]; exact h1, h2, h3⟩
theorem gWt_mv (h : gWt T M D' k m) (hg4 : gr N D 4 = gr M D' 4) (hgr : ∀ b j, ¬ (b ∈ gDs ∧ j = 4) → gr N b j = gr M b j) (hc : ∀ b j, gCo b → gi N b j = gi M b j) : gWt T N D k m := by
  obtain ⟨w, g4, hw, g0, hcc, g1, hs, hww, hk⟩ := h
  have nw := gWa_nD hww
  exact ⟨w, hg4.trans g4, hw, (hgr _ _ (fun q => nw q.1)).trans g0, hcc, (hgr _ _ (fun q => nw q.1)).trans g1, hs, hww, fun t ht => by rw [hc _ _ (gCo_w hww)]; exact hk t ht⟩
theorem gSl_mv (h : gSlt T M D' B' k m C) (hCC : C ≤ C') (hD : gDat T N D) (hd : dSame N D M D') (hg4 : gr N D 4 = gr M D' 4) (hgr : ∀ b j, ¬ (b ∈ gDs ∧ j = 4) → gr N b j = gr M b j) (hc : ∀ b j, gCo b → gi N b j = gi M b j) (hB : ∀ j, j < 1498 → gi N B j = gi M B' j) : gSlt T N D B k m C' := by
  obtain ⟨hV, hE, hW, hR, hk, hm, c, hcC, c3, cx⟩ := h
  have h8 := hV.2.1
  refine ⟨gVal_same hd hD hV, gEq_same hd h8 (fun i hi => (hV.2.2.2.2.2 i hi).2.2.2.1.2) (fun j hj => hB j (by omega)) hE, gWt_mv hW hg4 hgr hc, wRf_mv hR hB, hk, hm, c, by omega, by rw [hB 3 (by omega)]; exact c3, fun i hi => ?_⟩
  rw [dNl_same hd] at hi
  obtain ⟨x, hx, e⟩ := cx i hi
  exact ⟨x, hx, by rw [hB _ (by omega)]; exact e⟩
/-- frames keep it -/
theorem gSl_fr {S : Nat → Nat → Prop} (h : gSlt T M D B k m C) (hF : fr S M N) (hD : ∀ b j, S b j → ¬ dIn D b j) (hS : ∀ b j, S b j → ¬ gCo b) (hB : ∀ j, j < 1498 → ¬ S B j) : gSlt T N D B k m C := gSl_mv h (Nat.le_refl C) (gDat_gr h.1.1 hF.1) (dSame_fr hF (fun b j q z => hD b j z q)) (hF.1 _ _) (fun b j _ => hF.1 b j) (fun b j q => hF.2.2 b j (fun z => hS b j z q)) (fun j hj => hF.2.2 B j (hB j hj))
theorem gSl_rel (hX : gFx T M) (h : gSlt T M D 313 k m C) (hD : gD D) : gRel T M D k m := ⟨hX, h.1, h.2.1, h.2.2.1, h.2.2.2.1, h.2.2.2.2.1, h.2.2.2.2.2.1, hD⟩
end PSL
/-! THE HISTORIES -/
/-- the class's slot for the q-th latest change -/
abbrev gSlot (nx q : Nat) : Nat := 78 + 29 * ((nx + 7 - q) % 8)
def gHs (T : gT) (M : gM) (nx sz C : Nat) : Prop := nx < 8 ∧ sz ≤ 8 ∧ gi M 76 1 = nI nx ∧ gi M 76 2 = nI sz ∧ gi M 311 11 = nI sz ∧ ∀ q, q < sz → ∃ k m, gSlt T M (gSlot nx q) (316 + (sz - 1 - q)) k m C
def gKf (M : gM) : Prop := ∀ D, D = 5 ∨ gD D → ∀ i, i < 8 → dKp M D i = 0 ∨ dKp M D i = 1
def gDa (T : gT) (M : gM) : Prop := ∀ D, D = 5 ∨ gD D → gDat T M D
theorem gD_slot (nx q : Nat) : gD (gSlot nx q) := Or.inr ⟨_, Nat.mod_lt _ (by decide), rfl⟩
theorem gDa_of {T : gT} {M N : gM} (h : gDa T M) (hg : ∀ b j, ¬ (b ∈ gDs ∧ j = 4) → gr N b j = gr M b j) : gDa T N := fun D hD => gDat_of (h D hD) hg (gDs_mem hD)
/-- two Data don't overlap -/
theorem dIn_apart {D D' b j : Nat} (hD : D = 5 ∨ gD D) (hD' : D' = 5 ∨ gD D') (hne : D ≠ D') (h : dIn D b j) : ¬ dIn D' b j := fun h' => by
  have h2 := dIn_two h
  have h2' := dIn_two h'
  rcases hD with rfl | rfl | ⟨i, hi, rfl⟩ <;> rcases hD' with rfl | rfl | ⟨i', hi', rfl⟩ <;> omega
theorem dIn_noCo {D b j : Nat} (hD : D = 5 ∨ gD D) (h : dIn D b j) : ¬ gCo b := fun q => by
  have h2 := dIn_two h
  have q2 := gCo_no q
  rcases hD with rfl | rfl | ⟨i, hi, rfl⟩ <;> omega
theorem dIn_rngs {D b j : Nat} (hD : D = 5 ∨ gD D) (h : dIn D b j) : (5 ≤ b ∧ b ≤ 33) ∨ (37 ≤ b ∧ b ≤ 65) ∨ (78 ≤ b ∧ b ≤ 309) := by
  have h2 := dIn_two h
  rcases hD with rfl | rfl | ⟨i, hi, rfl⟩ <;> omega
