/-! THE INVARIANT AT THE START -/
theorem gInit_kp : gInit.map (fun x => decide (∀ D ∈ gDs, ∀ i ∈ List.range 8, gi x.2 (D + 5 + 3 * i) 1 = 0)) = some true := by decide +kernel
theorem gInit_bf : gInit.map (fun x => decide (∀ j ∈ List.range 800, gi x.2 312 j = 0 ∧ gi x.2 1 j = 0)) = some true := by decide +kernel
