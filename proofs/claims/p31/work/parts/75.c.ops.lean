/-! UNDO, APPEND, QUERIES; what the class has goes over to later memories -/
section POE
variable {T T1 : gT} {M M1 N K V : gM} {D D' a n0 t : Nat} {k : Nat → Nat × Nat} {m nx sz dn bq c : Nat} {i j x e3 : Int32}
theorem o_undo0 [gW0] (hI : cInv T M k m nx 0 dn bq) : f_X8_undo T M 0 = some (-1, M) := by
  have i2 := hI.1.1
  unfold f_X8_undo
  rw [r_0_7 i2, Option.bind_some, r_0_4 i2, Option.bind_some, p_X2_back0 hI.2.2.1.2.2.2.1, Option.bind_some, if_neg (fun q => q rfl)]
theorem o_undo [gW0] {s : Nat} (hI : cInv T M k m nx (s + 1) (dn + 1) bq) : ∃ N, f_X8_undo T M 0 = some (nI s, N) ∧ cInv T N k m ((nx + 7) % 8) s dn bq ∧ dSame N 37 M (gSlot nx 0) ∧ (∀ t, t < s → dSame N (gSlot ((nx + 7) % 8) t) M (gSlot nx (t + 1))) ∧ gLf M N ∧ gi N 0 2 = gi M 0 2 := by
  have i1 := cInv_sl hI
  obtain ⟨i0, i3, ⟨hnx, hsz, j1, j2, j4, j5⟩, i5, i6, i7⟩ := hI
  have i2 := i0.1
  have hS := j5 0 (by omega) (by omega)
  have hSl : gSlot nx 0 = 78 + 29 * ((nx + 7) % 8) := by unfold gSlot; omega
  rw [hSl] at hS
  have h78 : (nx + 7) % 8 < 8 := Nat.mod_lt _ (by decide)
  have hDs : gD (78 + 29 * ((nx + 7) % 8)) := Or.inr ⟨_, h78, rfl⟩
  obtain ⟨w, g4, hw, -⟩ := hS.2.1
  obtain ⟨M1, c1, c2, c3, c4, c5, c6, c7, c8⟩ := p_X2_back (s_77 i2) (i2.2 (76, 0, 77) (by decide +kernel)) hnx (gr_77 i2 h78) j1 j2 (by omega) (i6 37 (Or.inr (Or.inl rfl))) (i6 _ (Or.inr hDs)) g4 hw (i5 _ (Or.inr hDs))
  have hg1 : ∀ b j, ¬ (b ∈ gDs ∧ j = 4) → gr M1 b j = gr M b j := fun b j hb => c2 b j (fun q => hb ⟨by rw [q.1]; exact gDs_mem (Or.inr (Or.inl rfl)), q.2⟩)
  have hX1 : gFx T M1 := gFx_of i2 hg1
  have hDa1 : gDa T M1 := gDa_of i6 hg1
  have hd1 : dSame M1 37 M (78 + 29 * ((nx + 7) % 8)) := c5
  have hc1 : ∀ b j, gCo b → gi M1 b j = gi M b j := fun b j hb => by
    have hb2 := gCo_no hb
    exact c8 b j (fun q => dIn_noCo (Or.inr (Or.inl rfl)) q hb) (by omega)
  have hC1 : gCls T M1 k m := ⟨hX1, gVal_same hd1 (hDa1 37 (Or.inr (Or.inl rfl))) hS.1, trivial, gWt_mv hS.2.1 (c3.trans g4.symm) hg1 hc1, trivial, hS.2.2.1, hS.2.2.2, trivial⟩
  obtain ⟨N, d1, d2, d3, d4⟩ := p_count hC1
  have hlo : ∀ b, b ≤ 8 ∨ b = 76 ∨ (286 ≤ b ∧ b < 311) → ¬ ((67 ≤ b ∧ b ≤ 73) ∨ gStk b) := fun b hb q => q.elim (fun z => by omega) (fun z => by have := gStk_no z; omega)
  have hN0 : ∀ b j, b ≤ 1 → gi N b j = gi M b j := fun b j hb => by
    rw [d2.2.2 b j (hlo b (by omega))]
    by_cases h5 : dIn 37 b j
    · have := dIn_rng h5
      omega
    · exact c8 b j h5 (by omega)
  have hXN : gFx T N := gFx_fr hX1 d2
  have hgN : ∀ b j, ¬ (b ∈ gDs ∧ j = 4) → gr N b j = gr M b j := fun b j hb => (d2.1 b j).trans (hg1 b j hb)
  have hDaN : gDa T N := gDa_of i6 hgN
  have hcN : ∀ b j, gCo b → gi N b j = gi M b j := fun b j hb => by
    have hb2 := gCo_no hb
    rw [d2.2.2 b j (fun q => q.elim (fun z => by omega) (fun z => by have := gStk_no z; omega))]
    exact hc1 b j hb
  have hN37 : dSame N 37 M (78 + 29 * ((nx + 7) % 8)) := fun b j hd => by
    rw [d2.2.2 b j (dst_no (Or.inr (Or.inl rfl)) hd)]
    exact c5 b j hd
  have hNo : ∀ D b j, (D = 5 ∨ gD D) → D ≠ 37 → dIn D b j → gi N b j = gi M b j := fun D b j hD hne hd => by
    have hr := dIn_rngs hD hd
    rw [d2.2.2 b j (dst_no hD hd)]
    exact c8 b j (dIn_apart hD (Or.inr (Or.inl rfl)) hne hd) (by omega)
  have hsl : ∀ q, q < 7 → gSlot ((nx + 7) % 8) q = gSlot nx (q + 1) := fun q hq => by unfold gSlot; omega
  have hold : ∀ q, q < 7 → dSame N (gSlot ((nx + 7) % 8) q) M (gSlot nx (q + 1)) := fun q hq b j hd => by
    rw [hsl q hq] at hd ⊢
    have h5 := dIn_rng hd
    rw [show b - gSlot nx (q + 1) + gSlot nx (q + 1) = b by omega]
    exact hNo _ b j (Or.inr (gD_slot nx (q + 1))) (by unfold gSlot; omega) hd
  have holdS : ∀ {k' : Nat → Nat × Nat} {m' : Nat} (q : Nat), q < 7 → gSlt T M (gSlot nx (q + 1)) k' m' → gSlt T N (gSlot ((nx + 7) % 8) q) k' m' := fun q hq hs => gSl_mv hs (hDaN _ (Or.inr (gD_slot _ q))) (hold q hq) (by
    rw [hsl q hq]
    exact (d2.1 _ _).trans (c2 _ _ (fun z => by unfold gSlot at z; omega))) hgN hcN
  refine ⟨N, ?_, ⟨d3, d4, ⟨h78, by omega, ?_, ?_, fun q hq => ?_, fun q hq hqd => ?_⟩, fun D hD i hi => ?_, hDaN, ?_⟩, by rw [hSl]; exact hN37, fun t ht => hold t (by omega), fun b hb => ⟨fun j => ?_, fun hbw j => ?_⟩, hN0 0 2 (by omega)⟩
  · unfold f_X8_undo
    rw [r_0_7 i2, Option.bind_some, r_0_4 i2, Option.bind_some, c1, Option.bind_some, if_pos (show ¬ ((1 : Int32) = 0) by decide)]
    dsimp only
    rw [r_0_5 hX1, Option.bind_some, r_0_4 hX1, Option.bind_some, d1, Option.bind_some, r_0_7 hXN, Option.bind_some, d2.2.2 76 2 (hlo 76 (by omega)), c7]
  · rw [d2.2.2 76 1 (hlo 76 (by omega))]
    exact c6
  · rw [d2.2.2 76 2 (hlo 76 (by omega))]
    exact c7
  · obtain ⟨k2, m2, h2⟩ := j4 (q + 1) (by omega)
    exact ⟨k2, m2, holdS q (by omega) h2⟩
  · exact holdS q (by omega) (j5 (q + 1) (by omega) (by omega))
  · by_cases eD : D = 37
    · subst eD
      rw [show dKp N 37 i = dKp M (78 + 29 * ((nx + 7) % 8)) i from dKp_same hN37 hi]
      exact i5 _ (Or.inr hDs) i hi
    · rw [show dKp N D i = dKp M D i from hNo D _ _ hD eD (dIn_lib hi (Or.inr (Or.inl rfl)))]
      exact i5 D hD i hi
  · obtain ⟨q1, q2, q3⟩ := i7
    exact ⟨q1, by rw [hN0 _ _ (by omega)]; exact q2, fun j hj => by rw [hN0 1 j (by omega)]; exact q3 j hj⟩
  · exact hgN b j (fun q => by have := gDs_le b q.1; omega)
  · rw [d2.2.2 b j (fun q => q.elim (fun z => by omega) (fun z => by have := gStk_no z; omega))]
    exact c8 b j (fun q => by have := dIn_rng q; omega) (by omega)
/-- frames over the class's working rows keep it -/
theorem cInv_fr [gW0] {S : Nat → Nat → Prop} {bq2 : Nat} (hI : cInv T M k m nx sz dn bq) (hF : fr S M N) (hS : ∀ b j, S b j → b = 0 ∨ b = 1 ∨ b = 74 ∨ b = 75) (hb : gBf N bq2) : cInv T N k m nx sz dn bq2 := by
  obtain ⟨i0, i3, ⟨hnx, hsz, j1, j2, j4, j5⟩, i5, i6, i7⟩ := hI
  have q1 : ∀ D b j, (D = 5 ∨ gD D) → S b j → ¬ dIn D b j := fun D b j hD z y => by have := dIn_rngs hD y; have := hS b j z; omega
  have q2 : ∀ b j, gCo b → gi N b j = gi M b j := fun b j hb => hF.2.2 b j (fun z => by have := gCo_no hb; have := hS b j z; omega)
  have hsl : ∀ {k' : Nat → Nat × Nat} {m' : Nat} (q : Nat), gSlt T M (gSlot nx q) k' m' → gSlt T N (gSlot nx q) k' m' := fun q hs => gSl_mv hs (gDat_gr hs.1.1 hF.1) (dSame_fr hF (fun b j y z => q1 _ b j (Or.inr (gD_slot nx q)) z y)) (hF.1 _ _) (fun b j _ => hF.1 b j) q2
  refine ⟨(gCls_fr i0 hF (fun b j z => Or.inl (by have := hS b j z; omega))).1, gEl_fr i0 i3 hF (fun b j z => by have := hS b j z; exact ⟨Or.inl (by omega), by omega⟩), ⟨hnx, hsz, by rw [hF.2.2 _ _ (fun z => by have := hS _ _ z; omega)]; exact j1, by rw [hF.2.2 _ _ (fun z => by have := hS _ _ z; omega)]; exact j2, fun q hq => ?_, fun q hq hd => hsl q (j5 q hq hd)⟩, fun D hD i hi => ?_, fun D hD => gDat_gr (i6 D hD) hF.1, hb⟩
  · obtain ⟨k', m', hs⟩ := j4 q hq
    exact ⟨k', m', hsl q hs⟩
  · rw [show dKp N D i = dKp M D i from hF.2.2 _ _ (fun q => q1 D _ _ hD q (dIn_lib hi (Or.inr (Or.inl rfl))))]
    exact i5 D hD i hi
theorem gBf_fr {S : Nat → Nat → Prop} (h : gBf M bq) (hF : fr S M N) (hS : ∀ b j, S b j → b = 74 ∨ b = 75) : gBf N bq := ⟨h.1, by rw [hF.2.2 _ _ (fun z => by have := hS _ _ z; omega)]; exact h.2.1, fun j hj => by rw [hF.2.2 1 j (fun z => by have := hS _ _ z; omega)]; exact h.2.2 j hj⟩
theorem fr_d37 {S : Nat → Nat → Prop} (hF : fr S M N) (hS : ∀ b j, S b j → b = 0 ∨ b = 1 ∨ b = 74 ∨ b = 75) {D : Nat} (hD : D = 5 ∨ gD D) : dSame N D M D := dSame_fr hF (fun b j hd z => by have := dIn_rngs hD hd; have := hS b j z; omega)
theorem gBf_w8 (x : Int32) (i : Nat) (hi : i < 20) : (wB x (i % 4)).toInt8.toInt32 = wB x (i % 4) := by
  unfold wB
  first | rfl | simp
end POE
