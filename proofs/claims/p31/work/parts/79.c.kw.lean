/-! THE REFERENCE READS: bytes, spaces, words, numbers -/
section PRT
variable {T : gT} {R : gM} {B : Nat → Nat} {n p s e j : Nat}
/-- letter k of the constant i -/
abbrev kc (i k : Nat) : Nat := (gStrs.getD i []).getD k 0
theorem kc_ok : ∀ i, i < 13 → 1 ≤ gSl i ∧ gSl i ≤ 7 ∧ ∀ k, k < gSl i → isL (kc i k) := by decide +kernel
/-- the word at s is the constant i -/
def isKw (B : Nat → Nat) (n s i : Nat) : Prop := s + gSl i ≤ n ∧ (∀ k, k < gSl i → B (s + k) = kc i k) ∧ (s + gSl i = n ∨ ¬ isL (B (s + gSl i)))
end PRT
