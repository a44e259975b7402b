/-! A LOAD THAT SUCCEEDS: what the class leaves -/
section PLM
variable {T : gT} {M Q M1 M2 : gM} {k k' : Nat → Nat × Nat} {m m' C nx sz : Nat}
theorem gCo_311 {b : Nat} (h : gCo b) : b ≠ 311 := by
  rcases h with h | h | ⟨i, hi, h⟩ | ⟨i, h⟩ <;> omega
theorem p_mid2 (hI : gInv T Q k m C nx sz) (hQ : ∀ b j, ¬ (b = 311 ∧ (j = 2 ∨ j = 7)) → gi M b j = gi Q b j) (hQr : ∀ b j, gr M b j = gr Q b j) (hB : gBg M M1 nx sz) (h1 : ∀ b j, ¬ (b = 37 ∧ j = 4) → gr M2 b j = gr M1 b j) (h3 : ∀ b j, ¬ dIn 37 b j → gi M2 b j = gi M1 b j) (hC2 : gCls T M2 k' m') (hK : ∀ i, i < 8 → dKp M2 37 i = 0 ∨ dKp M2 37 i = 1) : ∃ N, f_X1_count T M2 66 37 = some N ∧ gFx T N ∧ gDa T N ∧ gKf N ∧ gCls T N k' m' ∧ gEl N k' m' ∧ gSlt T N (78 + 29 * nx) 313 k m C ∧ (nx < 8 ∧ sz ≤ 8 ∧ gi N 76 1 = nI ((nx + 1) % 8) ∧ gi N 76 2 = nI (if sz < 8 then sz + 1 else 8) ∧ gi N 311 11 = nI sz ∧ ∀ q, q < sz → q < 7 → ∃ k m, gSlt T N (gSlot nx q) (316 + (sz - 1 - q)) k m C) ∧ (∀ b j, dIn 37 b j → gi N b j = gi M2 b j) ∧ (∀ b j, (b = 0 ∨ b = 1 ∨ (311 ≤ b ∧ b < 324)) → gi N b j = gi M b j) ∧ (∀ b j, gr N b j = gr M2 b j) ∧ fr (fun b _ => (67 ≤ b ∧ b ≤ 73) ∨ gStk b) M2 N := by
  obtain ⟨i1, i2, i3, ⟨hnx, hsz, j1, j2, j3, j4⟩, i5, i6, i7⟩ := hI
  obtain ⟨b1, b2, b3, b4, b5, b6, b7, b8⟩ := hB
  have hDk : gD (78 + 29 * nx) := Or.inr ⟨nx, hnx, rfl⟩
  have hg : ∀ b j, ¬ (b ∈ gDs ∧ j = 4) → gr M2 b j = gr Q b j := fun b j hb => (h1 b j (fun q => hb ⟨by rw [q.1]; exact gDs_mem (Or.inr (Or.inl rfl)), q.2⟩)).trans ((b1 b j (fun q => hb ⟨by rw [q.1]; exact gDs_mem (Or.inr hDk), q.2⟩)).trans (hQr b j))
  have hc1 : ∀ b j, gCo b → gi M2 b j = gi Q b j := fun b j hb => by
    have hb2 := gCo_no hb
    rw [h3 b j (fun q => dIn_noCo (Or.inr (Or.inl rfl)) q hb), b8 b j (fun q => dIn_noCo (Or.inr hDk) q hb) (by omega) (by omega)]
    exact hQ b j (fun z => gCo_311 hb z.1)
  obtain ⟨N, c1, c2, c3, c4⟩ := p_count hC2
  have hN : ∀ b j, ¬ ((67 ≤ b ∧ b ≤ 73) ∨ gStk b) → ¬ dIn 37 b j → gi N b j = gi M1 b j := fun b j q1 q2 => (c2.2.2 b j q1).trans (h3 b j q2)
  have hlo : ∀ b, b ≤ 8 ∨ b = 37 ∨ b = 76 ∨ (286 ≤ b ∧ b < 358) → ¬ ((67 ≤ b ∧ b ≤ 73) ∨ gStk b) := fun b hb q => q.elim (fun z => by omega) (fun z => by have := gStk_no z; omega)
  have hdst : ∀ D b j, (D = 5 ∨ gD D) → dIn D b j → ¬ ((67 ≤ b ∧ b ≤ 73) ∨ gStk b) := fun D b j hD hd q => by
    have h2 := dIn_two hd
    rcases q with q | q
    · have := dIn_rngs hD hd
      omega
    · have q2 := gStk_no q
      rcases hD with rfl | rfl | ⟨i, hi, rfl⟩ <;> omega
  have hother : ∀ D b j, (D = 5 ∨ gD D) → D ≠ 37 → D ≠ 78 + 29 * nx → dIn D b j → gi N b j = gi Q b j := fun D b j hD hne1 hne2 hd => by
    have hr := dIn_rngs hD hd
    rw [hN b j (hdst D b j hD hd) (dIn_apart hD (Or.inr (Or.inl rfl)) hne1 hd), b8 b j (dIn_apart hD (Or.inr hDk) hne2 hd) (by omega) (by omega)]
    exact hQ b j (by omega)
  have hDkd : dSame N (78 + 29 * nx) Q 37 := fun b j hd => by
    have h5 := dIn_rng hd
    rw [hN b j (hdst _ b j (Or.inr hDk) hd) (dIn_apart (Or.inr hDk) (Or.inr (Or.inl rfl)) (by omega) hd), b4 b j hd]
    exact hQ _ _ (by omega)
  have hmid : ∀ b j, (b = 0 ∨ b = 1 ∨ (311 ≤ b ∧ b < 324)) → gi N b j = gi M b j := fun b j hb => by
    rw [hN b j (hlo b (by omega)) (fun q => by have := dIn_rngs (Or.inr (Or.inl rfl)) q; omega)]
    exact b8 b j (fun q => by have := dIn_rngs (Or.inr hDk) q; omega) (by omega) (by omega)
  have hmidQ : ∀ b j, (b = 0 ∨ b = 1 ∨ (311 ≤ b ∧ b < 324)) → ¬ (b = 311 ∧ (j = 2 ∨ j = 7)) → gi N b j = gi Q b j := fun b j hb hj => (hmid b j hb).trans (hQ b j hj)
  have hgN : ∀ b j, ¬ (b ∈ gDs ∧ j = 4) → gr N b j = gr Q b j := fun b j hb => (c2.1 b j).trans (hg b j hb)
  have hgk : gr N (78 + 29 * nx) 4 = gr Q 37 4 := (c2.1 _ _).trans ((h1 _ _ (by omega)).trans (b2.trans (hQr _ _)))
  have hcN : ∀ b j, gCo b → gi N b j = gi Q b j := fun b j hb => by
    have hb2 := gCo_no hb
    rw [c2.2.2 b j (fun q => q.elim (fun z => by omega) (fun z => by have := gStk_no z; omega))]
    exact hc1 b j hb
  have hDaN : gDa T N := gDa_of i6 hgN
  refine ⟨N, c1, gFx_of i2 hgN, hDaN, fun D hD i hi => ?_, c3, c4, gSl_mv i1 (Nat.le_refl C) (hDaN _ (Or.inr hDk)) hDkd hgk hgN hcN (fun j _ => hmidQ 313 j (by omega) (by omega)), ⟨hnx, hsz, ?_, ?_, ?_, fun q hq hq7 => ?_⟩, fun b j hd => c2.2.2 b j (hdst 37 b j (Or.inr (Or.inl rfl)) hd), hmid, c2.1, c2⟩
  · by_cases e1 : D = 37
    · subst e1
      rw [show dKp N 37 i = dKp M2 37 i from c2.2.2 _ _ (hdst 37 _ _ (Or.inr (Or.inl rfl)) (dIn_lib hi (Or.inr (Or.inl rfl))))]
      exact hK i hi
    · by_cases e2 : D = 78 + 29 * nx
      · subst e2
        rw [show dKp N (78 + 29 * nx) i = dKp Q 37 i from dKp_same hDkd hi]
        exact i5 37 (Or.inr (Or.inl rfl)) i hi
      · rw [show dKp N D i = dKp Q D i from hother D _ _ hD e1 e2 (dIn_lib hi (Or.inr (Or.inl rfl)))]
        exact i5 D hD i hi
  · rw [hN 76 1 (hlo 76 (by omega)) (fun q => by have := dIn_rngs (Or.inr (Or.inl rfl)) q; omega)]
    exact b5
  · rw [hN 76 2 (hlo 76 (by omega)) (fun q => by have := dIn_rngs (Or.inr (Or.inl rfl)) q; omega)]
    exact b6
  · rw [hmidQ _ _ (by omega) (by omega)]
    exact j3
  · obtain ⟨k', m', hs⟩ := j4 q hq
    refine ⟨k', m', gSl_mv hs (Nat.le_refl C) (hDaN _ (Or.inr (gD_slot nx q))) (fun b j hd => ?_) ?_ hgN hcN (fun j _ => hmidQ _ _ (by omega) (by omega))⟩
    · have h5 := dIn_rng hd
      rw [show b - gSlot nx q + gSlot nx q = b by omega]
      exact hother _ b j (Or.inr (gD_slot nx q)) (by unfold gSlot; omega) (gSlot_ne hnx hq7) hd
    · exact (c2.1 _ _).trans ((h1 _ _ (fun z => by unfold gSlot at z; omega)).trans ((b1 _ _ (fun z => gSlot_ne hnx hq7 z.1)).trans (hQr _ _)))
end PLM
