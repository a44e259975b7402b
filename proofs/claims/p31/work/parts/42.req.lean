/-! IS THERE SUCH A LIBRARY, SUCH A NAME: both sides -/
theorem nI_m1 : ∀ n, n < 13 → (nI n - 1).toInt = (n : Int) - 1 := by decide +kernel
theorem nI_lastlt {n : Nat} (hn : n < 13) (i : Int32) : nI n - 1 < i ↔ ¬ i < nI n := by
  rw [Int32.lt_iff_toInt_lt, Int32.lt_iff_toInt_lt, nI_m1 n hn, nI_toInt (by omega)]
  omega
section PRQ
variable {T : gT} {M : gM} {n : Nat} {i : Int32}
theorem p_X8_reqLib (hg : gr M 0 4 = some 37) (hT : T[37]? = some (0, 0)) (hn : gi M 37 1 = nI n) : f_X8_requireLibrary T M 0 i = some (if ¬ i < 0 ∧ i < nI n then .inr () else .inl 2) := by
  unfold f_X8_requireLibrary f_X8_requireLibrary_15
  by_cases h0 : i < 0
  · rw [if_pos h0, if_neg (fun q => q.1 h0)]
  · rw [if_neg h0, ldr_ok hg hT, Option.bind_some, hn]
    by_cases h1 : i < nI n
    · rw [if_pos h1, if_pos ⟨h0, h1⟩]
    · rw [if_neg h1, if_neg (fun q => h1 q.2)]
theorem p_X8_reqName (hg : gr M 0 4 = some 37) (hT : T[37]? = some (0, 0)) (hn : gi M 37 2 = nI n) : f_X8_requireName T M 0 i = some (if ¬ i < 0 ∧ i < nI n then .inr () else .inl 2) := by
  unfold f_X8_requireName f_X8_requireName_15
  by_cases h0 : i < 0
  · rw [if_pos h0, if_neg (fun q => q.1 h0)]
  · rw [if_neg h0, ldr_ok hg hT, Option.bind_some, hn]
    by_cases h1 : i < nI n
    · rw [if_pos h1, if_pos ⟨h0, h1⟩]
    · rw [if_neg h1, if_neg (fun q => h1 q.2)]
/-- an index that is good -/
theorem nI_good {i : Int32} {n : Nat} (hn : n < 2 ^ 31) (h : ¬ i < 0 ∧ i < nI n) : ∃ k, k < n ∧ i = nI k := by
  obtain ⟨j, hj, rfl⟩ := nI_of h.1
  exact ⟨j, (nI_ltI hj hn).mp h.2, rfl⟩
end PRQ
