/-! THE LAW'S ROUND: undo and append -/
section PLU
variable {T : gT} {M : gM} {C' n : Nat} {f : Nat → Int32} {i4 : Int32} {cls : Option (Int32 × gM)} {ref : gM → Option (Int32 × gM)}
theorem lw_U (h : opU T C' cls ref) : ∃ M', (cls.bind fun x => (ref x.2).bind fun y => if x.1 = y.1 then f_L_law_1692 n f T y.2 0 311 358 i4 else some (.inl (0 : Int32))) = some (.inr (i4 + 6, T, M')) ∧ ∃ k m nx sz, gInv T M' k m C' nx sz := by
  obtain ⟨v, N, N', h1, h2, k, m, nx, sz, h3⟩ := h
  refine ⟨N', ?_, k, m, nx, sz, h3⟩
  unfold f_L_law_1692
  rw [h1, Option.bind_some]
  dsimp only
  rw [h2, Option.bind_some]
  dsimp only
  rw [if_pos rfl]
end PLU
