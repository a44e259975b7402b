/-! THE REFERENCE'S DATA in the array B beside the class's Data at D -/
theorem nI_mul (a b : Nat) : nI a * nI b = nI (a * b) := (Int32.ofNat_mul a b).symm
theorem cntN_ext {c e : Nat → Bool} : ∀ {n : Nat}, (∀ k, k < n → c k = e k) → cntN c n = cntN e n
  | 0, _ => rfl
  | n + 1, h => by
    unfold cntN
    rw [cntN_ext (fun k hk => h k (by omega)), h n (by omega)]
theorem cntN_cut {c : Nat → Bool} {n : Nat} : ∀ {m : Nat}, n ≤ m → (∀ k, n ≤ k → k < m → c k = false) → cntN c m = cntN c n
  | 0, h, _ => by rw [show n = 0 by omega]
  | m + 1, h, hc => by
    by_cases e : n = m + 1
    · rw [e]
    · unfold cntN
      rw [cntN_cut (show n ≤ m by omega) (fun k h1 h2 => hc k h1 (by omega)), hc m (by omega) (by omega)]
      simp
      cases n <;> rfl
def gEq (M : gM) (D B : Nat) : Prop := gi M B 0 = gi M D 3 ∧ gi M B 1 = gi M D 1 ∧ gi M B 2 = gi M D 2 ∧ ∀ i, i < dNl M D → gi M B (6 + 24 * i) = dTr M D i ∧ gi M B (6 + 24 * i + 1) = dKp M D i ∧ gi M B (6 + 24 * i + 3) = dPn M D i ∧ (∀ k, k < dPk M D i → gi M B (6 + 24 * i + 4 + k) = dPr M D i k) ∧ (∀ n, n < 12 → gi M B (6 + 24 * i + 12 + n) = dOf M D i n) ∧ (gi M B (6 + 24 * i + 2) ≤ 0 ↔ dRk M D i = -1) ∧ (dRk M D i ≠ -1 → dRk M D i = nI (cntN (fun k => decide (dRk M D k ≠ -1 ∧ gi M B (6 + 24 * k + 2) < gi M B (6 + 24 * i + 2))) (dNl M D)))
section PMO
variable {T : gT} {M : gM} {D i n : Nat}
end PMO
