/-! NUMBERS as letters -/
theorem nI_m (k : Nat) : nI (k + 1) + (-1 : Int32) = nI k := by
  rw [← nI_1, Int32.add_assoc, show (1 : Int32) + -1 = 0 by decide, Int32.add_zero]
theorem e8 : ∀ c, c < 128 → (nI c).toInt8.toInt32 = nI c := by decide +kernel
theorem neg_toInt {n : Nat} (h : n ≤ 10000) : (-(nI n)).toInt = -(n : Int) := by
  rw [← Int32.zero_sub, show (0 : Int32) = nI 0 from rfl, pk_sub_toInt (by omega) (by omega)]
  omega
theorem dv_ok : ∀ a, a < 100 → ∀ b, b < 100 → (-(nI (100 * a + b))) / (100 : Int32) = -(nI a) ∧ (-(nI a)) * (100 : Int32) - (-(nI (100 * a + b))) = nI b := by decide +kernel
theorem st_ok : ∀ a, a < 100 → ∀ b, b < 100 → f_J6_stringSize_0f7a4 ([] : gT) gM0 (nI (100 * a + b)) = some (nI (dg (100 * a + b)).length) := by decide +kernel
