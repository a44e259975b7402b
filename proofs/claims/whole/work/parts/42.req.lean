/-! IS THERE SUCH A LIBRARY, SUCH A NAME: both sides -/
theorem nI_m1 : ∀ n, n < 13 → (nI n - 1).toInt = (n : Int) - 1 := by decide +kernel
theorem nI_lastlt {n : Nat} (hn : n < 13) (i : Int32) : nI n - 1 < i ↔ ¬ i < nI n := by
  rw [Int32.lt_iff_toInt_lt, Int32.lt_iff_toInt_lt, nI_m1 n hn, nI_toInt (by omega)]
  omega
section PRQ
variable {T : gT} {M : gM} {n : Nat} {i : Int32}
theorem p_X8_reqLib (hg : gr M 0 4 = some 37) (hT : T[37]? = some (0, 0)) (hn : gi M 37 1 = nI n) : f_X8_requireLibrary T M 0 i = some (if ¬ i < 0 ∧ i < nI n then .inr () else .inl 2) := by
  unfold f_X8_requireLibrary f_X8_requireLibrary_15
  by_cases h0 : i < 0
  · rw [if_pos h0, if_neg (fun q => q.1 h0)]
  · rw [if_neg h0, ldr_ok hg hT, Option.bind_some, hn]
    by_cases h1 : i < nI n
    · rw [if_pos h1, if_pos ⟨h0, h1⟩]
    · rw [if_neg h1, if_neg (fun q => h1 q.2)]
theorem p_X8_reqName (hg : gr M 0 4 = some 37) (hT : T[37]? = some (0, 0)) (hn : gi M 37 2 = nI n) : f_X8_requireName T M 0 i = some (if ¬ i < 0 ∧ i < nI n then .inr () else .inl 2) := by
  unfold f_X8_requireName f_X8_requireName_15
  by_cases h0 : i < 0
  · rw [if_pos h0, if_neg (fun q => q.1 h0)]
  · rw [if_neg h0, ldr_ok hg hT, Option.bind_some, hn]
    by_cases h1 : i < nI n
    · rw [if_pos h1, if_pos ⟨h0, h1⟩]
    · rw [if_neg h1, if_neg (fun q => h1 q.2)]
theorem p_X9_in {a b : Int32} : f_X9_in T M i a b = some (if ¬ i < a ∧ ¬ b < i then 1 else 0) := by
  unfold f_X9_in f_X9_in_14
  by_cases h0 : i < a
  · rw [if_pos h0, if_neg (fun q => q.1 h0)]
  · rw [if_neg h0]
    by_cases h1 : b < i
    · rw [if_pos h1, if_neg (fun q => q.2 h1)]
    · rw [if_neg h1, if_pos ⟨h0, h1⟩]
theorem p_X9_fails0 (h : gi M 311 0 = 0) {e : Int32} : f_X9_fails T M 311 0 e = some (0, M) := by
  unfold f_X9_fails f_X9_fails_16
  rw [if_pos rfl, if_pos h]
theorem p_X9_fails1 (h : gi M 311 0 = 0) {e : Int32} (he : ¬ e = 0) : f_X9_fails T M 311 1 e = some (1, si M 311 0 e) := by
  unfold f_X9_fails f_X9_fails_16
  rw [if_neg (by decide), if_neg (fun q => q h), if_neg (by rw [gi_si, if_pos ⟨rfl, rfl⟩]; exact he)]
theorem p_X9_noLib (hM : gMo T M) (hn : gi M 313 1 = nI n) (h13 : n < 13) (ht : gi M 311 0 = 0) : f_X9_noLibrary T M 311 i = some (if ¬ i < 0 ∧ i < nI n then (0, M) else (1, si M 311 0 1)) := by
  unfold f_X9_noLibrary
  rw [p_mdat hM, Option.bind_some, show ald T M 313 (1 : Int32) = some (gi M 313 1) from p_mald hM (k := 1) (by omega), Option.bind_some, hn, p_X9_in, Option.bind_some]
  by_cases h : ¬ i < 0 ∧ i < nI n
  · rw [if_pos (show ¬ i < 0 ∧ ¬ (nI n - 1 < i) from ⟨h.1, fun q => (nI_lastlt h13 i).mp q h.2⟩), if_pos (by decide), p_X9_fails0 ht, Option.bind_some, chk_ok (Or.inl rfl), Option.bind_some, if_pos h]
  · rw [if_neg (show ¬ (¬ i < 0 ∧ ¬ (nI n - 1 < i)) from fun q => h ⟨q.1, Classical.byContradiction fun z => q.2 ((nI_lastlt h13 i).mpr z)⟩), if_neg (by decide), p_X9_fails1 ht (by decide), Option.bind_some, chk_ok (Or.inr rfl), Option.bind_some, if_neg h]
theorem p_X9_noName (hM : gMo T M) (hn : gi M 313 2 = nI n) (h13 : n < 13) (ht : gi M 311 0 = 0) : f_X9_noName T M 311 i = some (if ¬ i < 0 ∧ i < nI n then (0, M) else (1, si M 311 0 1)) := by
  unfold f_X9_noName
  rw [p_mdat hM, Option.bind_some, show ald T M 313 (2 : Int32) = some (gi M 313 2) from p_mald hM (k := 2) (by omega), Option.bind_some, hn, p_X9_in, Option.bind_some]
  by_cases h : ¬ i < 0 ∧ i < nI n
  · rw [if_pos (show ¬ i < 0 ∧ ¬ (nI n - 1 < i) from ⟨h.1, fun q => (nI_lastlt h13 i).mp q h.2⟩), if_pos (by decide), p_X9_fails0 ht, Option.bind_some, chk_ok (Or.inl rfl), Option.bind_some, if_pos h]
  · rw [if_neg (show ¬ (¬ i < 0 ∧ ¬ (nI n - 1 < i)) from fun q => h ⟨q.1, Classical.byContradiction fun z => q.2 ((nI_lastlt h13 i).mpr z)⟩), if_neg (by decide), p_X9_fails1 ht (by decide), Option.bind_some, chk_ok (Or.inr rfl), Option.bind_some, if_neg h]
/-- an index that is good -/
theorem nI_good {i : Int32} {n : Nat} (hn : n < 2 ^ 31) (h : ¬ i < 0 ∧ i < nI n) : ∃ k, k < n ∧ i = nI k := by
  obtain ⟨j, hj, rfl⟩ := nI_of h.1
  exact ⟨j, (nI_ltI hj hn).mp h.2, rfl⟩
end PRQ
