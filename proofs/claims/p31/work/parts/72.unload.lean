/-! UNLOAD AND RELOAD: both sides -/
section PUN2
variable {T : gT} {M N G : gM} {Dk : Nat} {k : Nat → Nat × Nat} {m C a nx sz : Nat} {i : Int32}
/-- the new rank of i when a is loaded again -/
def lRk (M : gM) (D a i : Nat) : Int32 := if i = a then nI (cntN (fun q => decide (dRk M D q ≠ -1)) (dNl M D)) else dRk M D i
theorem rkP_dIn {b j : Nat} (h : rkP b j) : dIn 37 b j := by
  obtain ⟨rfl, h1, h2, h3⟩ := h
  have e : b = 37 + 5 + 3 * ((b - 42) / 3) := by omega
  rw [e]
  exact dIn_lib (by omega) (Or.inr (Or.inr (Or.inl rfl)))
theorem sumN_but {f : Nat → Nat} {a : Nat} : ∀ {n : Nat}, n ≤ 8 → a < n → sumN f n = sumN (fun i => if nI i = nI a then 0 else f i) n + f a
  | 0, _, h => by omega
  | n + 1, h8, h => by
    show sumN f n + f n = sumN _ n + (if nI n = nI a then 0 else f n) + f a
    by_cases e : a = n
    · subst e
      rw [if_pos rfl, sumN_ext (f := f) (g := fun i => if nI i = nI a then 0 else f i) (fun q hq => (if_neg (fun z => by have := (nI_eq (by omega) (by omega)).mp z; omega)).symm)]
      omega
    · rw [if_neg (fun z => e ((nI_eq (by omega) (by omega)).mp z).symm), sumN_but (show n ≤ 8 by omega) (show a < n by omega)]
      omega
end PUN2
