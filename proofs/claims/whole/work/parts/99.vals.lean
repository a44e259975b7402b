/-! WHAT A TEXT THAT WAS READ SAYS, on both sides -/
/-- the class's memory with the reference's draft in it -/
def gX (M R : gM) : gM := (fun b j => if b = 314 then gi R b j else gi M b j, M.2.1, M.2.2)
section PVL
variable {T U : gT} {M R : gM} {B : Nat → Nat} {n s e p nl nn : Nat}
theorem gX_m {b j : Nat} (h : b ≠ 314) : gi (gX M R) b j = gi M b j := if_neg h
theorem gX_r {j : Nat} : gi (gX M R) 314 j = gi R 314 j := by
  show (if (314 : Nat) = 314 then gi R 314 j else gi M 314 j) = _
  rw [if_pos rfl]
theorem cntN_lt {i : Nat} : ∀ m, cntN (fun k => decide (k < i)) m = if m ≤ i then m else i
  | 0 => by
    rw [if_pos (Nat.zero_le i)]
    rfl
  | m + 1 => by
    unfold cntN
    rw [cntN_lt m]
    by_cases h : m < i
    · rw [if_pos (show m ≤ i by omega), decide_eq_true h, if_pos rfl, if_pos (show m + 1 ≤ i by omega)]
    · rw [decide_eq_false h, if_neg (show ¬ (false = true) by decide), if_neg (show ¬ m + 1 ≤ i by omega)]
      by_cases h2 : m ≤ i
      · rw [if_pos h2]
        omega
      · rw [if_neg h2]
        rfl
theorem pD_val (h : pD T M R B nl nn) : gVal T M 5 ∧ dNl M 5 = nl ∧ gEq (gX M R) 5 314 ∧ gi R 314 3 = nI nl ∧ nl ≤ 8 ∧ ∀ i, i < nl → gi R 314 (6 + 24 * i + 2) = nI (i + 1) := by
  obtain ⟨h1, ⟨h2, h2'⟩, ⟨a1, a2, a3, a4, a5, a6⟩, h4, h5, h6, h7, h8⟩ := h
  have en : dNl M 5 = nl := by
    show (gi M 5 1).toNatClampNeg = nl
    rw [a1, nI_clamp (by omega)]
  have em : dNn M 5 = nn := by
    show (gi M 5 2).toNatClampNeg = nn
    rw [a2, nI_clamp (by omega)]
  refine ⟨⟨h1, by omega, by omega, by rw [en]; exact a1, by rw [em]; exact a2, fun i hi => ?_⟩, en, ⟨?_, ?_, ?_, fun i hi => ?_⟩, a5, h2, fun i hi => (h4 i hi).2.2.1.2⟩
  · rw [en] at hi ⊢
    rw [em]
    obtain ⟨⟨t, t1, t2, t3⟩, ⟨k1, k2⟩, ⟨r1, r2⟩, ⟨pn, p1, p2, p3, p4, p5, p6⟩, o1⟩ := h4 i hi
    have ep : dPk M 5 i = pn := by
      show (dPn M 5 i).toNatClampNeg = pn
      rw [p1, nI_clamp (by omega)]
    refine ⟨⟨t, t1, t2⟩, k1, Or.inr ⟨i, by omega, r1⟩, ⟨by rw [ep]; exact p1, by omega⟩, fun k hk => ?_, fun z hz => (o1 z hz).1⟩
    rw [ep] at hk
    obtain ⟨q, q1, q2, -⟩ := p6 k hk
    exact ⟨q, q1, q2⟩
  · rw [gX_r, gX_m (by decide)]
    exact a6
  · rw [gX_r, gX_m (by decide), a3, a1]
  · rw [gX_r, gX_m (by decide), a4, a2]
  · have hi' : i < nl := by
      have : dNl (gX M R) 5 = nl := by
        show (gi (gX M R) 5 1).toNatClampNeg = nl
        rw [gX_m (by decide), a1, nI_clamp (by omega)]
      omega
    have hi8 : i < 8 := by omega
    obtain ⟨⟨t, t1, t2, t3⟩, ⟨k1, k2⟩, ⟨r1, r2⟩, ⟨pn, p1, p2, p3, p4, p5, p6⟩, o1⟩ := h4 i hi'
    have eL : ∀ b j, b < 314 → gi (gX M R) b j = gi M b j := fun b j hb => gX_m (by omega)
    have eRk : ∀ x, x < 8 → dRk (gX M R) 5 x = dRk M 5 x := fun x hx => eL _ _ (by omega)
    have epn : dPn (gX M R) 5 i = dPn M 5 i := eL _ _ (by omega)
    have ep : dPk (gX M R) 5 i = pn := by
      show (dPn (gX M R) 5 i).toNatClampNeg = pn
      rw [epn, p1, nI_clamp (by omega)]
    have hne : ∀ x : Nat, x < 100 → ¬ nI x = (-1 : Int32) := fun x hx => nI_nneg (v := x) (by omega) (by decide)
    have enl : dNl (gX M R) 5 = nl := by
      show (gi (gX M R) 5 1).toNatClampNeg = nl
      rw [gX_m (by decide), a1, nI_clamp (by omega)]
    refine ⟨?_, ?_, ?_, fun k hk => ?_, fun z hz => ?_, ?_, fun _ => ?_⟩
    · rw [gX_r, t3, show dTr (gX M R) 5 i = dTr M 5 i from eL _ _ (by omega), t2]
    · rw [gX_r, k2, show dKp (gX M R) 5 i = dKp M 5 i from eL _ _ (by omega)]
    · rw [gX_r, p2, epn, p1]
    · rw [ep] at hk
      obtain ⟨q, q1, q2, q3⟩ := p6 k hk
      rw [gX_r, q3, show dPr (gX M R) 5 i k = dPr M 5 i k from eL _ _ (by omega), q2]
    · rw [gX_r, (o1 z hz).2, show dOf (gX M R) 5 i z = dOf M 5 i z from eL _ _ (by omega)]
    · rw [gX_r, r2, eRk i hi8, r1]
      refine ⟨fun q => ?_, fun q => absurd q (hne i (by omega))⟩
      exact absurd q (show ¬ nI (i + 1) ≤ nI 0 from nI_ge (by omega) (by omega))
    · rw [eRk i hi8, r1, enl]
      congr 1
      rw [cntN_ext (e := fun k => decide (k < i)) (fun k hk => ?_), cntN_lt, if_neg (by omega)]
      rw [gX_r, gX_r, eRk k (by omega), (h4 k hk).2.2.1.1, (h4 k hk).2.2.1.2, r2]
      by_cases c : k < i
      · rw [decide_eq_true c]
        exact decide_eq_true ⟨hne k (by omega), nI_lt (by omega) (by omega)⟩
      · rw [decide_eq_false c]
        exact decide_eq_false (fun q => absurd q.2 (nI_nlt (by omega) (by omega)))
/-- the weight's code -/
theorem pC_val (h : pC M R) : ∃ k m, gi M 2 5 = nI m ∧ m < 800 ∧ (∀ t, t < m → gi M 36 t = wCls (k t)) ∧ wRf R 314 k m ∧ wOK k m := by
  obtain ⟨a, b, -, -, -, -, -, -, h⟩ := h
  rcases h with ⟨-, h1, h2, h3⟩ | ⟨-, F, ⟨k, m, a1, a2, a3, a4, a5, a6, a7⟩, h2⟩
  · refine ⟨fun _ => (1, 0), 1, h1, by decide, fun t ht => ?_, Or.inr ⟨h3, rfl, rfl⟩, by decide, fun t ht => ?_⟩
    · rw [show t = 0 by omega, h2]
      decide
    · rw [show t = 0 by omega]
      exact Or.inr (Or.inl ⟨rfl, by decide, by decide⟩)
  · exact ⟨k, m, a1, by omega, fun t ht => (a6 t ht).1, Or.inl ⟨a2, by omega, fun t ht => (a6 t ht).2⟩, by omega, a7⟩
end PVL
