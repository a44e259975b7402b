/-! UNDO as a call -/
section PUD
variable {T : gT} {M N G : gM} {k : Nat → Nat × Nat} {m C nx sz : Nat}
def opU (T : gT) (C' : Nat) (cls : Option (Int32 × gM)) (ref : gM → Option (Int32 × gM)) : Prop := ∃ v N N', cls = some (v, N) ∧ ref N = some (v, N') ∧ ∃ k m nx sz, gInv T N' k m C' nx sz
theorem dst_no {D b j : Nat} (hD : D = 5 ∨ gD D) (hd : dIn D b j) : ¬ ((67 ≤ b ∧ b ≤ 73) ∨ gStk b) := fun q => by
  have h2 := dIn_two hd
  rcases q with q | q
  · have := dIn_rngs hD hd
    omega
  · have q2 := gStk_no q
    rcases hD with rfl | rfl | ⟨i, hi, rfl⟩ <;> omega
theorem o_undo (hI : gInv T M k m C nx sz) : opU T C (f_X8_undo T M 0) (fun N => f_X9_undo T N 311) := by
  have hI' := hI
  obtain ⟨i1, i2, i3, ⟨hnx, hsz, j1, j2, j3, j4⟩, i5, i6, i7⟩ := hI
  cases sz with
  | zero =>
    refine ⟨-1, M, si M 311 0 0, ?_, p_X9_undo0 j3, k, m, nx, 0, gInv_q hI' (fr_si fr_refl (Or.inr (Or.inr (Or.inl ⟨rfl, Or.inl rfl⟩))))⟩
    unfold f_X8_undo
    rw [r_0_7 i2, Option.bind_some, r_0_4 i2, Option.bind_some, p_X2_back0 j2, Option.bind_some, if_neg (fun q => q rfl)]
  | succ s =>
    obtain ⟨k', m', hS⟩ := j4 0 (by omega)
    rw [show 316 + (s + 1 - 1 - 0) = 316 + s by omega] at hS
    have hSl : gSlot nx 0 = 78 + 29 * ((nx + 7) % 8) := by unfold gSlot; omega
    rw [hSl] at hS
    have h78 : (nx + 7) % 8 < 8 := Nat.mod_lt _ (by decide)
    have hDs : gD (78 + 29 * ((nx + 7) % 8)) := Or.inr ⟨_, h78, rfl⟩
    obtain ⟨w, g4, hw, -⟩ := hS.2.2.1
    obtain ⟨M1, c1, c2, c3, c4, c5, c6, c7, c8⟩ := p_X2_back (s_77 i2) (i2.2 (76, 0, 77) (by decide +kernel)) hnx (gr_77 i2 h78) j1 j2 (by omega) (i6 37 (Or.inr (Or.inl rfl))) (i6 _ (Or.inr hDs)) g4 hw (i5 _ (Or.inr hDs))
    have hg1 : ∀ b j, ¬ (b ∈ gDs ∧ j = 4) → gr M1 b j = gr M b j := fun b j hb => c2 b j (fun q => hb ⟨by rw [q.1]; exact gDs_mem (Or.inr (Or.inl rfl)), q.2⟩)
    have hX1 : gFx T M1 := gFx_of i2 hg1
    have hDa1 : gDa T M1 := gDa_of i6 hg1
    have hd1 : dSame M1 37 M (78 + 29 * ((nx + 7) % 8)) := c5
    have hc1 : ∀ b j, gCo b → gi M1 b j = gi M b j := fun b j hb => by
      have hb2 := gCo_no hb
      exact c8 b j (fun q => dIn_noCo (Or.inr (Or.inl rfl)) q hb) (by omega)
    have hC1 : gCls T M1 k' m' := ⟨hX1, gVal_same hd1 (hDa1 37 (Or.inr (Or.inl rfl))) hS.1, trivial, gWt_mv hS.2.2.1 (c3.trans g4.symm) hg1 hc1, trivial, hS.2.2.2.2.1, hS.2.2.2.2.2.1, trivial⟩
    obtain ⟨N, d1, d2, d3, d4⟩ := p_count hC1
    have hlo : ∀ b, b ≤ 8 ∨ b = 76 ∨ (286 ≤ b ∧ b < 358) → ¬ ((67 ≤ b ∧ b ≤ 73) ∨ gStk b) := fun b hb q => q.elim (fun z => by omega) (fun z => by have := gStk_no z; omega)
    have hN0 : ∀ b j, (b ≤ 1 ∨ (286 ≤ b ∧ b < 358)) → gi N b j = gi M b j := fun b j hb => by
      rw [d2.2.2 b j (hlo b (by omega))]
      by_cases h5 : dIn 37 b j
      · have := dIn_rng h5
        omega
      · exact c8 b j h5 (by omega)
    have hXN : gFx T N := gFx_fr hX1 d2
    obtain ⟨G, e1, e2, e3, e4, e5, e6, e7⟩ := p_X9_undo (gHi_Fx hXN) (u := s) (by rw [hN0 311 11 (by omega)]; exact j3) (by omega)
    have hA : fr rA N G := ⟨e2, fun b j _ => e3 b j, fun b j hb => e7 b j (fun q => hb (by unfold rA; omega)) (fun q => hb (by unfold rA; omega))⟩
    obtain ⟨f1, f2, f3⟩ := gCls_r d3 d4 hA
    have hgG : ∀ b j, ¬ (b ∈ gDs ∧ j = 4) → gr G b j = gr M b j := fun b j hb => (e2 b j).trans ((d2.1 b j).trans (hg1 b j hb))
    have hDaG : gDa T G := gDa_of i6 hgG
    have hcG : ∀ b j, gCo b → gi G b j = gi M b j := fun b j hb => by
      have hb2 := gCo_no hb
      rw [hA.2.2 b j (fun q => rA_Co q hb), d2.2.2 b j (fun q => q.elim (fun z => by omega) (fun z => by have := gStk_no z; omega))]
      exact hc1 b j hb
    have hG37 : dSame G 37 M (78 + 29 * ((nx + 7) % 8)) := fun b j hd => by
      rw [hA.2.2 b j (fun q => rA_D (Or.inr (Or.inl rfl)) q hd), d2.2.2 b j (dst_no (Or.inr (Or.inl rfl)) hd)]
      exact c5 b j hd
    have hGo : ∀ D b j, (D = 5 ∨ gD D) → D ≠ 37 → dIn D b j → gi G b j = gi M b j := fun D b j hD hne hd => by
      have hr := dIn_rngs hD hd
      rw [hA.2.2 b j (fun q => rA_D hD q hd), d2.2.2 b j (dst_no hD hd)]
      exact c8 b j (dIn_apart hD (Or.inr (Or.inl rfl)) hne hd) (by omega)
    have hG0 : ∀ b j, (b ≤ 1 ∨ b = 312 ∨ (316 ≤ b ∧ b < 324) ∨ (b = 311 ∧ (j = 2 ∨ j = 7))) → gi G b j = gi M b j := fun b j hb => by
      rw [e7 b j (by omega) (by omega)]
      exact hN0 b j (by omega)
    refine ⟨nI s, N, G, ?_, e1, k', m', (nx + 7) % 8, s, ?_, gFx_of i2 hgG, f2, ⟨h78, by omega, ?_, ?_, e5, fun q hq => ?_⟩, fun D hD i hi => ?_, hDaG, ?_⟩
    · unfold f_X8_undo
      rw [r_0_7 i2, Option.bind_some, r_0_4 i2, Option.bind_some, c1, Option.bind_some, if_pos (show ¬ ((1 : Int32) = 0) by decide)]
      dsimp only
      rw [r_0_5 hX1, Option.bind_some, r_0_4 hX1, Option.bind_some, d1, Option.bind_some, r_0_7 hXN, Option.bind_some, d2.2.2 76 2 (hlo 76 (by omega)), c7]
    · exact gSl_mv hS (Nat.le_refl C) (hDaG 37 (Or.inr (Or.inl rfl))) hG37 ((e2 _ _).trans ((d2.1 _ _).trans (c3.trans g4.symm))) hgG hcG (fun j hj => by rw [e4 j hj]; exact hN0 _ _ (by omega))
    · rw [hA.2.2 76 1 (fun q => by unfold rA at q; omega), d2.2.2 76 1 (hlo 76 (by omega))]
      exact c6
    · rw [hA.2.2 76 2 (fun q => by unfold rA at q; omega), d2.2.2 76 2 (hlo 76 (by omega))]
      exact c7
    · obtain ⟨k2, m2, h2⟩ := j4 (q + 1) (by omega)
      have es : gSlot ((nx + 7) % 8) q = gSlot nx (q + 1) := by unfold gSlot; omega
      rw [es]
      have hne : gSlot nx (q + 1) ≠ 37 := by unfold gSlot; omega
      refine ⟨k2, m2, gSl_mv h2 (Nat.le_refl C) (hDaG _ (Or.inr (gD_slot nx (q + 1)))) (fun b j hd => ?_) ?_ hgG hcG (fun j _ => by rw [show 316 + (s - 1 - q) = 316 + (s + 1 - 1 - (q + 1)) by omega]; exact hG0 _ _ (by omega))⟩
      · have h5 := dIn_rng hd
        rw [show b - gSlot nx (q + 1) + gSlot nx (q + 1) = b by omega]
        exact hGo _ b j (Or.inr (gD_slot nx (q + 1))) hne hd
      · exact (e2 _ _).trans ((d2.1 _ _).trans (c2 _ _ (fun z => hne z.1)))
    · by_cases eD : D = 37
      · subst eD
        rw [show dKp G 37 i = dKp M (78 + 29 * ((nx + 7) % 8)) i from dKp_same hG37 hi]
        exact i5 _ (Or.inr hDs) i hi
      · rw [show dKp G D i = dKp M D i from hGo D _ _ hD eD (dIn_lib hi (Or.inr (Or.inl rfl)))]
        exact i5 D hD i hi
    · obtain ⟨q, q1, q2, q3, q4, q5⟩ := i7
      exact ⟨q, q1, by rw [hG0 _ _ (by omega)]; exact q2, by rw [hG0 _ _ (by omega)]; exact q3, fun j hj => by rw [hG0 312 j (by omega), hG0 1 j (by omega)]; exact q4 j hj, by rw [hG0 0 2 (by omega), hG0 311 7 (by omega)]; exact q5⟩
end PUD
