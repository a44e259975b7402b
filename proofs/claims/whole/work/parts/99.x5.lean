/-! THE LAW'S ROUND: a query with an exception -/
/-- both answer alike on every choice of the longs, and leave the invariant -/
def opQ (T : gT) (M : gM) (C' : Nat) (cls : Option (Nat ⊕ Int32)) (ref : gM → Option (Int32 × gM)) (cd : Nat → Int32) : Prop :=
  (∃ v, cls = some (.inr v) ∧ ∀ l : Nat → Nat → Int64, ∃ N', ref (M.1, l, M.2.2) = some (v, N') ∧ gi N' 311 0 = 0 ∧ gl N' 358 0 = l 358 0 ∧ ∃ k m nx sz, gInv T N' k m C' nx sz) ∨ ∃ c, cls = some (.inl c) ∧ cd c ≠ 0 ∧ ∀ l : Nat → Nat → Int64, ∃ v N', ref (M.1, l, M.2.2) = some (v, N') ∧ gi N' 311 0 = cd c ∧ ∃ k m nx sz, gInv T N' k m C' nx sz
section PLQ
variable {T : gT} {M : gM} {C' n : Nat} {f : Nat → Int32} {i4 : Int32} {cls : Option (Nat ⊕ Int32)} {ref : gM → Option (Int32 × gM)} {cd : Nat → Int32} {wc : Nat → Option (Int32 × gM)}
theorem lr_Q (h : opQ T M C' cls ref cd) (hT : T[358]? = some (12, 1)) (hw : ∀ c, cls = some (.inl c) → wc c = some (cd c, M)) : ∃ M', ((cls.bind fun x1 => gcase x1 wc fun r1 => (astl T M 358 (0 : Int32) r1.toInt64).bind fun M2 => some ((0 : Int32), M2)).bind fun x28 => (ref x28.2).bind fun x33 => (f_X9_thrown T x33.2 311).bind fun x34 => if x34 = x28.1 then (if ¬ x28.1 = 0 then f_L_law_1692 n f T x33.2 0 311 358 i4 else (aldl T x33.2 358 (0 : Int32)).bind fun v37 => if (lg_cmp v37 x33.1.toInt64) = 0 then f_L_law_1692 n f T x33.2 0 311 358 i4 else some (.inl (0 : Int32))) else some (.inl (0 : Int32))) = some (.inr (i4 + 6, T, M')) ∧ ∃ k m nx sz, gInv T M' k m C' nx sz := by
  unfold f_X9_thrown f_L_law_1692
  rcases h with ⟨w, h1, h3⟩ | ⟨c, h1, h0, h3⟩
  · obtain ⟨N', g1, g2, g3, k, m, nx, sz, g4⟩ := h3 (sl M 358 0 w.toInt64).2.1
    have g1' : ref (sl M 358 0 w.toInt64) = some (w, N') := g1
    have e3 : gl N' 358 0 = w.toInt64 := g3.trans (by
      show gl (sl M 358 0 w.toInt64) 358 0 = _
      rw [gl_sl, if_pos ⟨rfl, rfl⟩])
    refine ⟨N', ?_, k, m, nx, sz, g4⟩
    rw [h1, Option.bind_some]
    show (((astl T M 358 (0 : Int32) w.toInt64).bind fun M4 => some ((0 : Int32), M4)).bind _) = _
    rw [show astl T M 358 (0 : Int32) w.toInt64 = some (sl M 358 0 w.toInt64) from astl_ok (k := 0) hT (by decide) (by decide), Option.bind_some, Option.bind_some]
    dsimp only
    rw [g1', Option.bind_some, Option.bind_some]
    dsimp only
    rw [g2, if_pos rfl, if_neg (fun z => z rfl), show aldl T N' 358 (0 : Int32) = some (gl N' 358 0) from aldl_ok (k := 0) hT (by decide) (by decide), Option.bind_some, e3, if_pos (by unfold lg_cmp; simp)]
  · obtain ⟨w, N', g1, g2, k, m, nx, sz, g4⟩ := h3 M.2.1
    have g1' : ref M = some (w, N') := g1
    refine ⟨N', ?_, k, m, nx, sz, g4⟩
    rw [h1, Option.bind_some]
    show ((wc c).bind _) = _
    rw [hw c h1, Option.bind_some]
    dsimp only
    rw [g1', Option.bind_some, Option.bind_some]
    dsimp only
    rw [g2, if_pos rfl, if_pos h0]
end PLQ
