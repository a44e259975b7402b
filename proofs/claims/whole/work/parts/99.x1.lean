/-! THE LAW'S ROUND: a load -/
section PLW
variable {T : gT} {M : gM} {C' n : Nat} {f : Nat → Int32} {i4 v : Int32}
theorem lw_load (h : opL T M C' (f_X8_load T M 0 v) (fun T N => f_X9_load T N 311 v)) : ∃ T' M', ((f_L_load T M 0 v 358).bind fun x28 => (f_X9_load x28.2.1 x28.2.2 311 v).bind fun x33 => (f_X9_thrown x28.2.1 x33.2 311).bind fun x34 => if x34 = x28.1 then (if ¬ x28.1 = 0 then f_L_law_1692 n f x28.2.1 x33.2 0 311 358 i4 else (aldl x28.2.1 x33.2 358 (0 : Int32)).bind fun v37 => if (lg_cmp v37 x33.1.toInt64) = 0 then f_L_law_1692 n f x28.2.1 x33.2 0 311 358 i4 else some (.inl (0 : Int32))) else some (.inl (0 : Int32))) = some (.inr (i4 + 6, T', M')) ∧ (T'.length = T.length ∨ T'.length = T.length + 3) ∧ ∃ k m nx sz, gInv T' M' k m C' nx sz := by
  unfold f_L_load f_X9_thrown f_L_law_1692
  rcases h with ⟨w, T', N, h1, h2, h3⟩ | ⟨h1, h3⟩
  · obtain ⟨N', g1, g2, g3, k, m, nx, sz, g4⟩ := h3 (sl N 358 0 w.toInt64).2.1
    have hT : T'[358]? = some (12, 1) := shF g4.2.1 (by decide) rfl
    have g1' : f_X9_load T' (sl N 358 0 w.toInt64) 311 v = some (w, N') := g1
    have e3 : gl N' 358 0 = w.toInt64 := g3.trans (by
      show gl (sl N 358 0 w.toInt64) 358 0 = _
      rw [gl_sl, if_pos ⟨rfl, rfl⟩])
    refine ⟨T', N', ?_, h2, k, m, nx, sz, g4⟩
    rw [h1, Option.bind_some]
    show (((astl T' N 358 (0 : Int32) w.toInt64).bind fun M4 => some ((0 : Int32), T', M4)).bind _) = _
    rw [show astl T' N 358 (0 : Int32) w.toInt64 = some (sl N 358 0 w.toInt64) from astl_ok (k := 0) hT (by decide) (by decide), Option.bind_some, Option.bind_some]
    dsimp only
    rw [g1', Option.bind_some, Option.bind_some]
    dsimp only
    rw [g2, if_pos rfl, if_neg (fun z => z rfl), show aldl T' N' 358 (0 : Int32) = some (gl N' 358 0) from aldl_ok (k := 0) hT (by decide) (by decide), Option.bind_some, e3, if_pos (by unfold lg_cmp; simp)]
  · obtain ⟨w, N', g1, g2, k, m, nx, sz, g4⟩ := h3 M.2.1
    have g1' : f_X9_load T M 311 v = some (w, N') := g1
    refine ⟨T, N', ?_, Or.inl rfl, k, m, nx, sz, g4⟩
    rw [h1, Option.bind_some]
    show (some ((1 : Int32), T, M)).bind _ = _
    rw [Option.bind_some]
    dsimp only
    rw [g1', Option.bind_some, Option.bind_some]
    dsimp only
    rw [g2, if_pos rfl, if_pos (show ¬ ((1 : Int32) = 0) by decide)]
end PLW
