/-- well-formedness goes over with a copy -/
theorem gVal_same {T : gT} {N M : gM} {D D' : Nat} (h : dSame N D M D') (hD : gDat T N D) (hV : gVal T M D') : gVal T N D := by
  obtain ⟨-, h8, h12, hn1, hn2, hL⟩ := hV
  have e1 : gi N D 1 = gi M D' 1 := h.hd (Or.inl rfl)
  have e2 : gi N D 2 = gi M D' 2 := h.hd (Or.inr (Or.inl rfl))
  have hn : dNl N D = dNl M D' := congrArg Int32.toNatClampNeg e1
  have hm : dNn N D = dNn M D' := congrArg Int32.toNatClampNeg e2
  refine ⟨hD, by rw [hn]; exact h8, by rw [hm]; exact h12, by rw [e1, hn]; exact hn1, by rw [e2, hm]; exact hn2, fun i hi => ?_⟩
  rw [hn] at hi ⊢
  rw [hm]
  have hi8 : i < 8 := by omega
  obtain ⟨a1, a2, a3, ⟨a4, a5⟩, a6, a7⟩ := hL i hi
  have epn : dPn N D i = dPn M D' i := h.lib hi8 (Or.inr (Or.inr (Or.inr rfl)))
  have epk : dPk N D i = dPk M D' i := congrArg Int32.toNatClampNeg epn
  have ert : dTr N D i = dTr M D' i := h.lib hi8 (Or.inl rfl)
  have erk : dKp N D i = dKp M D' i := h.lib hi8 (Or.inr (Or.inl rfl))
  have err : dRk N D i = dRk M D' i := h.lib hi8 (Or.inr (Or.inr (Or.inl rfl)))
  refine ⟨by rw [ert]; exact a1, by rw [erk]; exact a2, by rw [err]; exact a3, ⟨by rw [epn, epk]; exact a4, by rw [epk]; exact a5⟩, fun k hk => ?_, fun n hn9 => ?_⟩
  · rw [epk] at hk
    rw [h.prf hi8 (by omega)]
    exact a6 k hk
  · rw [h.off hi8 hn9]
    exact a7 n hn9
/-- gDat is of the references alone, and of Data's weight not at all -/
theorem gDat_of {T : gT} {M N : gM} {D : Nat} (h : gDat T M D) (hg : ∀ b j, ¬ (b ∈ gDs ∧ j = 4) → gr N b j = gr M b j) (hD : D ∈ gDs) : gDat T N D := by
  have hn : ∀ i, i < 8 → ¬ (D + 1 ∈ gDs) ∧ ¬ (D + 5 + 3 * i ∈ gDs) := by
    have q : ∀ D ∈ gDs, ∀ i ∈ List.range 8, ¬ (D + 1 ∈ gDs) ∧ ¬ (D + 5 + 3 * i ∈ gDs) := by decide +kernel
    exact fun i hi => q D hD i (List.mem_range.mpr hi)
  exact ⟨h.1, h.2.1, (hg _ _ (fun q => absurd q.2 (by decide))).trans h.2.2.1, fun i hi => ⟨(h.2.2.2 i hi).1, (hg _ _ (fun q => (hn i hi).1 q.1)).trans (h.2.2.2 i hi).2.1, (hg _ _ (fun q => (hn i hi).2 q.1)).trans (h.2.2.2 i hi).2.2.1, (hg _ _ (fun q => (hn i hi).2 q.1)).trans (h.2.2.2 i hi).2.2.2⟩⟩
