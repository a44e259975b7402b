/-! THE INVARIANT when the list of shapes goes on and new addresses are written -/
section PEX
variable {T T' : gT} {M N : gM} {D B m C nx sz : Nat} {k : Nat → Nat × Nat}
theorem dD_lo (hD : D = 5 ∨ gD D) : D + 28 < 359 := by
  rcases hD with rfl | rfl | ⟨i, hi, rfl⟩ <;> omega
theorem gDat_ex (h : gDat T M D) (hE : gEx T T') (hD : D = 5 ∨ gD D) (hr : ∀ b j, b < 359 → ¬ (b ∈ gDs ∧ j = 4) → gr N b j = gr M b j) : gDat T' N D := by
  have hlo := dD_lo hD
  have h0 : gDat T (M.1, M.2.1, fun b j => if b < 359 then gr N b j else gr M b j) D := gDat_of h (fun b j hb => by
    show (if b < 359 then gr N b j else gr M b j) = gr M b j
    by_cases c : b < 359
    · rw [if_pos c]
      exact hr b j c hb
    · rw [if_neg c]) (gDs_mem hD)
  have e : ∀ b j, b < 359 → gr (M.1, M.2.1, fun b j => if b < 359 then gr N b j else gr M b j) b j = gr N b j := fun b j hb => if_pos hb
  refine ⟨hE _ _ h0.1, hE _ _ h0.2.1, (e _ _ (by omega)).symm.trans h0.2.2.1, fun i hi => ?_⟩
  obtain ⟨⟨a1, a2, a3⟩, a4, a5, a6⟩ := h0.2.2.2 i hi
  exact ⟨⟨hE _ _ a1, hE _ _ a2, hE _ _ a3⟩, (e _ _ (by omega)).symm.trans a4, (e _ _ (by omega)).symm.trans a5, (e _ _ (by omega)).symm.trans a6⟩
theorem dSame_id (hD : D = 5 ∨ gD D) (hi : ∀ b j, b < 359 → gi N b j = gi M b j) : dSame N D M D := fun b j hd => by
  have := dIn_rng hd
  have := dD_lo hD
  rw [show b - D + D = b by omega]
  exact hi b j (by omega)
theorem gWt_ex (h : gWt T M D k m) (hl : 359 ≤ T.length) (hE : gEx T T') (hD : gD D) (hi : ∀ b j, b < T.length → gi N b j = gi M b j) (hr : ∀ b j, b < T.length → ¬ (b = 5 ∧ j = 4) → gr N b j = gr M b j) : gWt T' N D k m := by
  have hlo := dD_lo (Or.inr hD)
  have hD5 : D ≠ 5 := by rcases hD with rfl | ⟨i, hi, rfl⟩ <;> omega
  obtain ⟨w, a1, a2, a3, a4, a5, a6, a7, a8⟩ := h
  have l1 := (List.getElem?_eq_some_iff.mp a2).1
  have l2 := (List.getElem?_eq_some_iff.mp a4).1
  exact ⟨w, (hr _ _ (by omega) (by omega)).trans a1, hE _ _ a2, (hr _ _ l1 (by omega)).trans a3, hE _ _ a4, (hr _ _ l1 (by omega)).trans a5, hE _ _ a6, a7, fun t ht => (hi _ _ l2).trans (a8 t ht)⟩
theorem wRf_ex (h : wRf M B k m) (hi : ∀ j, gi N B j = gi M B j) : wRf N B k m := by
  unfold wRf at h ⊢
  simp only [hi]
  exact h
theorem gSlt_ex (h : gSlt T M D B k m C) (hl : 359 ≤ T.length) (hE : gEx T T') (hD : gD D) (hB : B < 359) (hi : ∀ b j, b < T.length → gi N b j = gi M b j) (hr : ∀ b j, b < T.length → ¬ (b = 5 ∧ j = 4) → gr N b j = gr M b j) : gSlt T' N D B k m C := by
  obtain ⟨a1, a2, a3, a4, a5, a6, c, c1, c2, c3⟩ := h
  have hi2 : ∀ b j, b < 359 → gi N b j = gi M b j := fun b j hb => hi b j (by omega)
  have hD0 : D = 5 ∨ gD D := Or.inr hD
  have hds := dSame_id (N := N) (M := M) hD0 hi2
  have hr5 : ∀ b j, b < 359 → ¬ (b ∈ gDs ∧ j = 4) → gr N b j = gr M b j := fun b j hb hn => hr b j (by omega) (fun z => hn ⟨by rw [z.1]; exact gDs_mem (Or.inl rfl), z.2⟩)
  have hDt : gDat T N D := gDat_ex a1.1 (fun _ _ q => q) hD0 hr5
  have hV := gVal_same hds hDt a1
  refine ⟨⟨gDat_ex a1.1 hE hD0 hr5, hV.2⟩, gEq_same hds a1.2.1 (fun i hi => (a1.2.2.2.2.2 i hi).2.2.2.1.2) (fun j _ => hi2 B j hB) a2, gWt_ex a3 hl hE hD hi hr, wRf_ex a4 (fun j => hi2 B j hB), a5, a6, c, c1, (hi2 B _ hB).trans c2, fun i hj => ?_⟩
  rw [dNl_same hds] at hj
  obtain ⟨x, x1, x2⟩ := c3 i hj
  exact ⟨x, x1, (hi2 B _ hB).trans x2⟩
theorem gEl_ex (hV : gVal T M 37) (h : gEl M k m) (hi : ∀ b j, b < 359 → gi N b j = gi M b j) : gEl N k m := by
  have hd : dSame N 37 M 37 := dSame_id (Or.inr (Or.inl rfl)) hi
  have hW := vW_sameV (k := k) (m := m) hV hd
  have h8 := hV.2.1
  have h12 := hV.2.2.1
  have h7 : ∀ b j, 67 ≤ b → b ≤ 73 → gi N b j = gi M b j := fun b j q1 q2 => hi b j (by omega)
  refine ⟨fun j hj => ?_, fun n hn => ?_⟩
  · rw [dNl_same hd] at hj
    rw [h7 67 j (by omega) (by omega), h.1 j hj, dRk_same hd (by omega), hW j hj]
  · rw [dNn_same hd] at hn
    have hN : gElN M (M.1, M.2.1, M.2.2) (vW M 37 k m) n := h.2 n hn
    have hx : gElN M N (vW M 37 k m) n := by
      obtain ⟨b1, b2, b3, b4⟩ := h.2 n hn
      exact ⟨(h7 68 n (by omega) (by omega)).trans b1, (h7 69 n (by omega) (by omega)).trans b2, (h7 70 n (by omega) (by omega)).trans b3, fun i hi2 => by
        obtain ⟨d1, d2, d3⟩ := b4 i hi2
        exact ⟨(h7 71 _ (by omega) (by omega)).trans d1, (h7 72 _ (by omega) (by omega)).trans d2, (h7 73 _ (by omega) (by omega)).trans d3⟩⟩
    exact gElN_same hd hV (by omega) hW hx
theorem gInv_ex (h : gInv T M k m C nx sz) (hl : 359 ≤ T.length) (hE : gEx T T') (hi : ∀ b j, b < T.length → gi N b j = gi M b j) (hr : ∀ b j, b < T.length → ¬ (b = 5 ∧ j = 4) → gr N b j = gr M b j) : gInv T' N k m C nx sz := by
  have hr5 : ∀ b j, b < 359 → ¬ (b ∈ gDs ∧ j = 4) → gr N b j = gr M b j := fun b j hb hn => hr b j (by omega) (fun z => hn ⟨by rw [z.1]; exact gDs_mem (Or.inl rfl), z.2⟩)
  obtain ⟨h1, h2, h3, ⟨g1, g2, g3, g4, g5, g6⟩, h5, h6, ⟨q, b1, b2, b3, b4, b5⟩⟩ := h
  have hi2 : ∀ b j, b < 359 → gi N b j = gi M b j := fun b j hb => hi b j (by omega)
  refine ⟨gSlt_ex h1 hl hE (Or.inl rfl) (by omega) hi hr, gFx_ex h2 hl hE hr5, gEl_ex h1.1 h3 hi2, ⟨g1, g2, (hi2 76 1 (by omega)).trans g3, (hi2 76 2 (by omega)).trans g4, (hi2 311 11 (by omega)).trans g5, fun x hx => ?_⟩, fun D hD i hi8 => ?_, fun D hD => gDat_ex (h6 D hD) hE hD hr5, ⟨q, b1, (hi2 0 1 (by omega)).trans b2, (hi2 311 2 (by omega)).trans b3, fun j hj => by rw [hi2 312 j (by omega), hi2 1 j (by omega)]; exact b4 j hj, by rw [hi2 0 2 (by omega), hi2 311 7 (by omega)]; exact b5⟩⟩
  · obtain ⟨k', m', hs⟩ := g6 x hx
    exact ⟨k', m', gSlt_ex hs hl hE (gD_slot nx x) (by omega) hi hr⟩
  · have := dD_lo hD
    rw [show dKp N D i = dKp M D i from hi2 _ _ (by omega)]
    exact h5 D hD i hi8
end PEX
