/-! THE REFERENCE'S UNDO -/
section PUN
variable {T : gT} {M : gM} {u : Nat}
end PUN
/-! THE RELATION OF DATA IS READ FROM THE PLACES OF DATA ALONE -/
theorem dIn_hd {D j : Nat} (hj : j = 1 ∨ j = 2 ∨ j = 3) : dIn D D j := Or.inl ⟨rfl, hj⟩
theorem dIn_lib {D i j : Nat} (hi : i < 8) (hj : j = 0 ∨ j = 1 ∨ j = 2 ∨ j = 5) : dIn D (D + 5 + 3 * i) j := Or.inr ⟨i, hi, Or.inl ⟨rfl, hj⟩⟩
theorem dIn_off {D i n : Nat} (hi : i < 8) (hn : n < 12) : dIn D (D + 6 + 3 * i) n := Or.inr ⟨i, hi, Or.inr (Or.inl ⟨by omega, hn⟩)⟩
theorem dIn_prf {D i k : Nat} (hi : i < 8) (hk : k < 8) : dIn D (D + 7 + 3 * i) k := Or.inr ⟨i, hi, Or.inr (Or.inr ⟨by omega, hk⟩)⟩
/-- the data at D in N are the data at D' in M -/
def dSame (N : gM) (D : Nat) (M : gM) (D' : Nat) : Prop := ∀ b j, dIn D b j → gi N b j = gi M (b - D + D') j
theorem dSame.hd {N M : gM} {D D' j : Nat} (h : dSame N D M D') (hj : j = 1 ∨ j = 2 ∨ j = 3) : gi N D j = gi M D' j := by
  have e := h D j (dIn_hd hj)
  rwa [show D - D + D' = D' by omega] at e
theorem dSame.lib {N M : gM} {D D' i j : Nat} (h : dSame N D M D') (hi : i < 8) (hj : j = 0 ∨ j = 1 ∨ j = 2 ∨ j = 5) : gi N (D + 5 + 3 * i) j = gi M (D' + 5 + 3 * i) j := by
  have e := h _ j (dIn_lib hi hj)
  rwa [show D + 5 + 3 * i - D + D' = D' + 5 + 3 * i by omega] at e
theorem dSame.off {N M : gM} {D D' i n : Nat} (h : dSame N D M D') (hi : i < 8) (hn : n < 12) : dOf N D i n = dOf M D' i n := by
  have e := h _ n (dIn_off hi hn)
  rwa [show D + 6 + 3 * i - D + D' = D' + 6 + 3 * i by omega] at e
theorem dSame.prf {N M : gM} {D D' i k : Nat} (h : dSame N D M D') (hi : i < 8) (hk : k < 8) : dPr N D i k = dPr M D' i k := by
  have e := h _ k (dIn_prf hi hk)
  rwa [show D + 7 + 3 * i - D + D' = D' + 7 + 3 * i by omega] at e
/-- .. and so the relation to the reference's array goes over -/
theorem gEq_same {N M : gM} {D D' B B' : Nat} (h : dSame N D M D') (h8 : dNl M D' ≤ 8) (hp : ∀ i, i < dNl M D' → dPk M D' i ≤ 8) (hB : ∀ j, j < 198 → gi N B j = gi M B' j) (hE : gEq M D' B') : gEq N D B := by
  have hn : dNl N D = dNl M D' := congrArg Int32.toNatClampNeg (h.hd (Or.inl rfl))
  obtain ⟨e0, e1, e2, e3⟩ := hE
  refine ⟨by rw [hB 0 (by omega), h.hd (Or.inr (Or.inr rfl))]; exact e0, by rw [hB 1 (by omega), h.hd (Or.inl rfl)]; exact e1, by rw [hB 2 (by omega), h.hd (Or.inr (Or.inl rfl))]; exact e2, fun i hi => ?_⟩
  rw [hn] at hi ⊢
  have hi8 : i < 8 := by omega
  have hpk : dPk N D i = dPk M D' i := congrArg Int32.toNatClampNeg (h.lib hi8 (Or.inr (Or.inr (Or.inr rfl))))
  have hp8 := hp i hi
  obtain ⟨a1, a2, a3, a4, a5, a6, a7⟩ := e3 i hi
  have hr : ∀ k, k < 8 → dRk N D k = dRk M D' k := fun k hk => h.lib hk (Or.inr (Or.inr (Or.inl rfl)))
  refine ⟨by rw [hB _ (by omega), a1]; exact (h.lib hi8 (Or.inl rfl)).symm, by rw [hB _ (by omega), a2]; exact (h.lib hi8 (Or.inr (Or.inl rfl))).symm, by rw [hB _ (by omega), a3]; exact (h.lib hi8 (Or.inr (Or.inr (Or.inr rfl)))).symm, fun k hk => ?_, fun n hn => ?_, ?_, fun hl => ?_⟩
  · rw [hpk] at hk
    rw [hB _ (by omega), a4 k hk, h.prf hi8 (by omega)]
  · rw [hB _ (by omega), a5 n hn, h.off hi8 hn]
  · rw [hB _ (by omega), hr i hi8]
    exact a6
  · rw [hr i hi8] at hl ⊢
    rw [a7 hl]
    refine congrArg nI (cntN_ext (fun k hk => ?_))
    rw [hr k (by omega), hB _ (by omega), hB _ (by omega)]
