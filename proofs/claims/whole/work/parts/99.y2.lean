/-! THE INVARIANT AT THE START, and the law on every script -/
theorem gInv_init {x : gT × gM} (hx : gInit = some x) : gInv x.1 x.2 (fun _ => (1, 0)) 1 8 0 0 := by
  have hT : x.1 = gT0 := gInit_of (P := fun x => x.1 = gT0) gInit_T hx
  have h1 := gInit_of (P := fun x => ∀ q ∈ gRefs, gr x.2 q.1 q.2.1 = some q.2.2) gInit_refs hx
  have h2 := gInit_of (P := fun x => ∀ D ∈ gDs, gr x.2 D 0 = some (D + 1) ∧ gr x.2 D 4 = some (D + 2) ∧ gr x.2 (D + 2) 0 = some (D + 3) ∧ gr x.2 (D + 2) 1 = some (D + 4)) gInit_dat1 hx
  have h3 := gInit_of (P := fun x => ∀ D ∈ gDs, gi x.2 (D + 3) 0 = -1 ∧ gi x.2 D 1 = 0 ∧ gi x.2 D 2 = 0 ∧ gi x.2 D 3 = 50) gInit_dat2 hx
  have h4 := gInit_of (P := fun x => ∀ D ∈ gDs, ∀ i ∈ List.range 8, gr x.2 (D + 1) i = some (D + 5 + 3 * i) ∧ gr x.2 (D + 5 + 3 * i) 3 = some (D + 6 + 3 * i) ∧ gr x.2 (D + 5 + 3 * i) 4 = some (D + 7 + 3 * i)) gInit_dat3 hx
  have h5 := gInit_of (P := fun x => gi x.2 0 1 = 0 ∧ gi x.2 0 2 = -1 ∧ gi x.2 76 1 = 0 ∧ gi x.2 76 2 = 0 ∧ gi x.2 311 2 = 0 ∧ gi x.2 311 7 = -1 ∧ gi x.2 311 11 = 0 ∧ gi x.2 313 0 = 50 ∧ gi x.2 313 1 = 0 ∧ gi x.2 313 2 = 0 ∧ gi x.2 313 3 = 0 ∧ gi x.2 313 5 = 0) gInit_ints hx
  have h6 := gInit_of (P := fun x => ∀ D ∈ gDs, ∀ i ∈ List.range 8, gi x.2 (D + 5 + 3 * i) 1 = 0) gInit_kp hx
  have h7 := gInit_of (P := fun x => ∀ j ∈ List.range 800, gi x.2 312 j = 0 ∧ gi x.2 1 j = 0) gInit_bf hx
  obtain ⟨T, M⟩ := x
  dsimp only at hT h1 h2 h3 h4 h5 h6 h7
  subst hT
  have hDa : gDa gT0 M := fun D hD => by
    have hm := gDs_mem hD
    obtain ⟨t1, t2, t3⟩ := gT0_dat D hm
    exact ⟨t1, t2, (h2 D hm).1, fun i hi => ⟨t3 i hi, h4 D hm i (List.mem_range.mpr hi)⟩⟩
  have h37 : (37 : Nat) ∈ gDs := by decide
  obtain ⟨a1, a2, a3, a4, a5, a6, a7, a8, a9, a10, a11, a12⟩ := h5
  obtain ⟨b1, b2, b3, b4⟩ := h3 37 h37
  obtain ⟨c1, c2, c3, c4⟩ := h2 37 h37
  have e1 : dNl M 37 = 0 := by
    show (gi M 37 1).toNatClampNeg = 0
    rw [b2]
    rfl
  have e2 : dNn M 37 = 0 := by
    show (gi M 37 2).toNatClampNeg = 0
    rw [b3]
    rfl
  have no : ∀ {i : Nat} {P : Prop}, i < dNl M 37 → P := fun h => by
    rw [e1] at h
    exact absurd h (Nat.not_lt_zero _)
  have no2 : ∀ {i : Nat} {P : Prop}, i < dNn M 37 → P := fun h => by
    rw [e2] at h
    exact absurd h (Nat.not_lt_zero _)
  show gInv gT0 M (fun _ => (1, 0)) 1 8 0 0
  refine ⟨⟨⟨hDa 37 (Or.inr (Or.inl rfl)), by rw [e1]; decide, by rw [e2]; decide, ?_, ?_, fun i hi => no hi⟩, ⟨?_, ?_, ?_, fun i hi => no hi⟩, ⟨39, c2, by decide +kernel, c3, by decide +kernel, c4, by decide +kernel, Or.inr (Or.inl rfl), fun t ht => ?_⟩, Or.inr ⟨a12, rfl, rfl⟩, ⟨by decide, fun t ht => ?_⟩, by decide, 0, by decide, a11, fun i hi => no hi⟩, ⟨fun _ _ => rfl, h1⟩, ⟨fun j hj => no hj, fun n hn => no2 hn⟩, ⟨by decide, by decide, a3, a4, a7, fun q hq => absurd hq (Nat.not_lt_zero _)⟩, fun D hD i hi => Or.inl (h6 D (gDs_mem hD) i (List.mem_range.mpr hi)), hDa, 0, by decide, a1, a5, fun j hj => ?_, ?_⟩
  · rw [e1, b2]; rfl
  · rw [e2, b3]; rfl
  · rw [a8, b4]
  · rw [a9, b2]
  · rw [a10, b3]
  · rw [show t = 0 by omega, show gi M (39 + 1) 0 = -1 from b1]
    decide
  · rw [show t = 0 by omega]
    exact Or.inr (Or.inl ⟨rfl, by decide, by decide⟩)
  · obtain ⟨p, q⟩ := h7 j (List.mem_range.mpr hj)
    rw [p, q]
    decide
  · rw [a2, a6]
/-- the law answers yes on every script -/
theorem law_yes {L : Nat} {xs : Nat → Int32} (hL : L ≤ 3072) : f_L_law L xs [] gM0 = some 1 := by
  obtain ⟨x, hx⟩ := gInit_some
  rw [f_L_law_init hx]
  have hT : x.1 = gT0 := gInit_of (P := fun x => x.1 = gT0) gInit_T hx
  exact law_loop hL (gInv_init hx) (by rw [hT]; decide +kernel)
