/-! THE WEIGHT OF A LIBRARY: both sides -/
def wL (t : Nat × Nat) : Nat := if t.1 < 2 then 2 else 1
def wP (k : Nat → Nat × Nat) : Nat → Nat
  | 0 => 0
  | t + 1 => wP k t + wL (k t)
/-- the quantities of a library -/
def vQ (M : gM) (D i q : Nat) : Nat := if q = 0 then (dTr M D i).toNatClampNeg else if q = 1 then (dRk M D i).toNatClampNeg else if q = 2 then cntN (fun n => decide (dOf M D i n ≠ -1)) 12 else vFr M D (nI i)
theorem wP_mono {k : Nat → Nat × Nat} {t : Nat} : ∀ {m : Nat}, t < m → wP k t + wL (k t) ≤ wP k m
  | 0, h => by omega
  | m + 1, h => by
    show _ ≤ wP k m + wL (k m)
    by_cases e : t = m
    · rw [e]
      exact Nat.le_refl _
    · have := wP_mono (k := k) (show t < m by omega)
      omega
theorem wP_pos (k : Nat → Nat × Nat) (m : Nat) : m ≤ wP k m := by
  induction m with
  | zero => exact Nat.zero_le _
  | succ m ih =>
    show _ ≤ wP k m + wL (k m)
    unfold wL
    split <;> omega
section PMW
variable {T : gT} {M : gM} {D i m : Nat} {k : Nat → Nat × Nat}
theorem vQ_le (hV : gVal T M D) (hi : i < dNl M D) : ∀ q, q < 4 → vQ M D i q ≤ 9999 := by
  intro q hq
  obtain ⟨-, h8, -, -, -, hL⟩ := hV
  obtain ⟨⟨t, ht, h1⟩, -, h2, -⟩ := hL i hi
  unfold vQ
  split
  · rw [h1, nI_clamp (by omega)]
    omega
  · split
    · rcases h2 with h2 | ⟨r, hr, h2⟩
      · rw [h2]
        decide
      · rw [h2, nI_clamp (by omega)]
        omega
    · split
      · have := cntN_le (fun n => decide (dOf M D i n ≠ -1)) 12
        omega
      · unfold vFr
        have := cntN_le (fun k => decide (dRk M D k ≠ -1) && anyN (fun j => decide (dPr M D k j = nI i)) (dPk M D k)) (dNl M D)
        omega
theorem vQ_0 (hV : gVal T M D) (hi : i < dNl M D) : dTr M D i = nI (vQ M D i 0) := by
  obtain ⟨⟨t, ht, h1⟩, -⟩ := hV.2.2.2.2.2 i hi
  unfold vQ
  rw [if_pos rfl, h1, nI_clamp (by omega)]
theorem vQ_1 (hV : gVal T M D) (hi : i < dNl M D) (hl : dRk M D i ≠ -1) : dRk M D i = nI (vQ M D i 1) := by
  obtain ⟨-, -, h2, -⟩ := hV.2.2.2.2.2 i hi
  unfold vQ
  rw [if_neg (by decide), if_pos rfl]
  rcases h2 with h2 | ⟨r, hr, h2⟩
  · exact absurd h2 hl
  · rw [h2, nI_clamp (by omega)]
/-- the class's weight object: w, its code w + 1, its stack w + 2 -/
def gWt [gW0] (T : gT) (M : gM) (D : Nat) (k : Nat → Nat × Nat) (m : Nat) : Prop := ∃ w, gr M D 4 = some w ∧ T[w]? = some (7, 0) ∧ gr M w 0 = some (w + 1) ∧ T[w + 1]? = some (11, m) ∧ gr M w 1 = some (w + 2) ∧ T[w + 2]? = some (11, 11) ∧ (w = 7 ∨ w = 39 ∨ (∃ j, j < 8 ∧ w = 80 + 29 * j) ∨ w = w0) ∧ ∀ t, t < m → gi M (w + 1) t = wCls (k t)
/-- the stacks of the class's weights -/
def gStk [gW0] (b : Nat) : Prop := b = 9 ∨ b = 41 ∨ (∃ j, j < 8 ∧ b = 82 + 29 * j) ∨ b = w0 + 2
theorem p_X0_weightOf [gW0] (hV : gVal T M D) (hi : i < dNl M D) (hl : dRk M D i ≠ -1) (hW : gWt T M D k m) (hok : wOK k m) (hm : m ≤ 2000) : ∃ N, f_X0_weightOf T M D (nI i) = some (nI (wV k m (vQ M D i)), N) ∧ fr (fun b _ => gStk b) M N := by
  have hi8 : i < 8 := Nat.lt_of_lt_of_le hi hV.2.1
  obtain ⟨w, g4, hw, g0, hc, g1, hs, hww, hk⟩ := hW
  unfold f_X0_weightOf
  obtain ⟨N, c1, c2⟩ := p_X7_valueOf (Q := vQ M D i) g0 hc g1 hs (by omega) hk hok hm (vQ_le hV hi)
  rw [p_row1 hV.1, Option.bind_some, p_row2 hV.1 hi8, Option.bind_some, ldr_ok g4 hw, Option.bind_some, p_countOffers hV.1 hi8, Option.bind_some, p_friendsOf hV, Option.bind_some, show gi M (D + 5 + 3 * i) 0 = nI (vQ M D i 0) from vQ_0 hV hi, show gi M (D + 5 + 3 * i) 2 = nI (vQ M D i 1) from vQ_1 hV hi hl, show nI (cntN (fun n => decide (dOf M D i n ≠ -1)) 12) = nI (vQ M D i 2) from rfl, show nI (vFr M D (nI i)) = nI (vQ M D i 3) from rfl, c1, Option.bind_some]
  refine ⟨N, rfl, fr_mono c2 (fun b _ hb => ?_)⟩
  subst hb
  unfold gStk
  rcases hww with h | h | ⟨j, hj, h⟩ | h
  · omega
  · omega
  · exact Or.inr (Or.inr (Or.inl ⟨j, hj, by omega⟩))
  · exact Or.inr (Or.inr (Or.inr (by omega)))
end PMW
