/-! WHAT HOLDS BETWEEN TWO CALLS; what the class leaves of a change, before the reference makes it -/
def gBf (M : gM) : Prop := ∃ q, q ≤ 800 ∧ gi M 0 1 = nI q ∧ gi M 311 2 = nI q ∧ (∀ j, j < 800 → gi M 312 j = gi M 1 j &&& 255 ∧ (gi M 1 j).toInt8.toInt32 = gi M 1 j) ∧ gi M 0 2 = gi M 311 7
def gInv (T : gT) (M : gM) (k : Nat → Nat × Nat) (m C nx sz : Nat) : Prop := gSlt T M 37 313 k m C ∧ gFx T M ∧ gEl M k m ∧ gHs T M nx sz C ∧ gKf M ∧ gDa T M ∧ gBf M
/-- the reference's own places -/
def rA (b _ : Nat) : Prop := 311 ≤ b ∧ b < 358
/-- .. without its buffer, its histories and what a load leaves -/
def rB (b j : Nat) : Prop := b = 313 ∨ (327 ≤ b ∧ b < 358) ∨ (b = 311 ∧ (j = 0 ∨ j = 26))
/-- .. and without its data -/
def rC (b j : Nat) : Prop := (327 ≤ b ∧ b < 358) ∨ (b = 311 ∧ (j = 0 ∨ j = 26))
theorem rC_B (b j : Nat) (h : rC b j) : rB b j := Or.inr h
theorem rB_A (b j : Nat) (h : rB b j) : rA b j := by
  unfold rB at h
  unfold rA
  omega
theorem rC_A (b j : Nat) (h : rC b j) : rA b j := rB_A b j (rC_B b j h)
theorem rC_eA (b j : Nat) (h : rC b j) : eA b := Or.inl (by unfold rC at h; omega)
section PMI
variable {T : gT} {M M1 M2 N N' : gM} {k : Nat → Nat × Nat} {m C nx sz : Nat} {S : Nat → Nat → Prop}
theorem rA_D {D b j : Nat} (hD : D = 5 ∨ gD D) (h : rA b j) : ¬ dIn D b j := fun q => by
  have := dIn_rngs hD q
  unfold rA at h
  omega
theorem rA_Co {b j : Nat} (h : rA b j) : ¬ gCo b := fun q => by
  have := gCo_no q
  unfold rA at h
  omega
/-- the class's own things stand while the reference works -/
theorem gCls_r (h : gCls T M k m) (hE : gEl M k m) (hF : fr rA M N) : gCls T N k m ∧ gEl N k m ∧ dSame N 37 M 37 := by
  obtain ⟨hX, hV, -, hW, -, hk, hm, -⟩ := h
  have hd : dSame N 37 M 37 := dSame_fr hF (fun b j q z => rA_D (Or.inr (Or.inl rfl)) z q)
  refine ⟨⟨gFx_fr hX hF, gVal_same hd (gDat_gr hV.1 hF.1) hV, trivial, gWt_mv hW (hF.1 _ _) (fun b j _ => hF.1 b j) (fun b j q => hF.2.2 b j (fun z => rA_Co z q)), trivial, hk, hm, trivial⟩, ?_, hd⟩
  have hW2 := vW_sameV (k := k) (m := m) hV hd
  have hg : ∀ b j, 67 ≤ b → b ≤ 73 → gi N b j = gi M b j := fun b j h1 h2 => hF.2.2 b j (fun q => by unfold rA at q; omega)
  have h8 := hV.2.1
  have h12 := hV.2.2.1
  refine ⟨fun j hj => ?_, fun n hn => ?_⟩
  · rw [dNl_same hd] at hj
    rw [hg 67 j (by omega) (by omega), hE.1 j hj, dRk_same hd (by omega), hW2 j hj]
  · rw [dNn_same hd] at hn
    refine gElN_same hd hV (by omega) hW2 ?_
    obtain ⟨e1, e2, e3, e4⟩ := hE.2 n hn
    refine ⟨by rw [hg _ _ (by omega) (by omega)]; exact e1, by rw [hg _ _ (by omega) (by omega)]; exact e2, by rw [hg _ _ (by omega) (by omega)]; exact e3, fun i hi => ?_⟩
    obtain ⟨g1, g2, g3⟩ := e4 i hi
    exact ⟨by rw [hg _ _ (by omega) (by omega)]; exact g1, by rw [hg _ _ (by omega) (by omega)]; exact g2, by rw [hg _ _ (by omega) (by omega)]; exact g3⟩
theorem gKf_r (h : gKf M) (hF : fr rA M N) : gKf N := fun D hD i hi => by
  rw [show dKp N D i = dKp M D i from hF.2.2 _ _ (fun q => rA_D hD q (dIn_lib hi (Or.inr (Or.inl rfl))))]
  exact h D hD i hi
theorem gDa_r (h : gDa T M) (hg : ∀ b j, gr N b j = gr M b j) : gDa T N := fun D hD => gDat_gr (h D hD) hg
theorem gBf_B (h : gBf M) (hF : fr rB M N) : gBf N := by
  obtain ⟨q, h1, h2, h3, h4, h5⟩ := h
  have hn : ∀ b j, (b = 0 ∨ b = 1 ∨ b = 312 ∨ (b = 311 ∧ (j = 2 ∨ j = 7))) → gi N b j = gi M b j := fun b j hb => hF.2.2 b j (fun z => by unfold rB at z; omega)
  exact ⟨q, h1, by rw [hn _ _ (by omega)]; exact h2, by rw [hn _ _ (by omega)]; exact h3, fun j hj => by rw [hn 312 j (by omega), hn 1 j (by omega)]; exact h4 j hj, by rw [hn 0 2 (by omega), hn 311 7 (by omega)]; exact h5⟩
/-- slots of the histories stand while the reference works on its data -/
theorem gSlt_B {D B : Nat} (h : gSlt T M D B k m C) (hD : gD D) (hB : 316 ≤ B ∧ B < 324) (hF : fr rB M N) : gSlt T N D B k m C := gSl_fr h hF (fun b j q => rA_D (Or.inr hD) (rB_A b j q)) (fun b j q => rA_Co (rB_A b j q)) (fun j _ q => by unfold rB at q; omega)
theorem gSlt_C {D B : Nat} (h : gSlt T M D B k m C) (hD : gD D) (hB : 313 ≤ B ∧ B < 324) (hF : fr rC M N) : gSlt T N D B k m C := gSl_fr h hF (fun b j q => rA_D (Or.inr hD) (rC_A b j q)) (fun b j q => rA_Co (rC_A b j q)) (fun j _ q => by unfold rC at q; omega)
theorem gSlt_C' {D B C' : Nat} (h : gSlt T M D B k m C) (hC : C ≤ C') : gSlt T M D B k m C' := by
  obtain ⟨h1, h2, h3, h4, h5, h6, c, h7, h8, h9⟩ := h
  exact ⟨h1, h2, h3, h4, h5, h6, c, by omega, h8, h9⟩
theorem gHs_B (h : gHs T M nx sz C) (hF : fr rB M N) : gHs T N nx sz C := by
  obtain ⟨h1, h2, h3, h4, h5, h6⟩ := h
  have hn : ∀ b j, (b = 76 ∨ (b = 311 ∧ j = 11)) → gi N b j = gi M b j := fun b j hb => hF.2.2 b j (fun z => by unfold rB at z; omega)
  refine ⟨h1, h2, by rw [hn _ _ (by omega)]; exact h3, by rw [hn _ _ (by omega)]; exact h4, by rw [hn _ _ (by omega)]; exact h5, fun q hq => ?_⟩
  obtain ⟨k', m', hs⟩ := h6 q hq
  exact ⟨k', m', gSlt_B hs (gD_slot nx q) (by omega) hF⟩
theorem gHs_C' {C' : Nat} (h : gHs T M nx sz C) (hC : C ≤ C') : gHs T M nx sz C' := by
  obtain ⟨h1, h2, h3, h4, h5, h6⟩ := h
  exact ⟨h1, h2, h3, h4, h5, fun q hq => by obtain ⟨k', m', hs⟩ := h6 q hq; exact ⟨k', m', gSlt_C' hs hC⟩⟩
theorem gInv_C' {C' : Nat} (h : gInv T M k m C nx sz) (hC : C ≤ C') : gInv T M k m C' nx sz := ⟨gSlt_C' h.1 hC, h.2.1, h.2.2.1, gHs_C' h.2.2.2.1 hC, h.2.2.2.2⟩
theorem gInv_rel (h : gInv T M k m C nx sz) : gRel T M 37 k m := gSl_rel h.2.1 h.1 (Or.inl rfl)
/-- queries keep it all -/
theorem gInv_q (h : gInv T M k m C nx sz) (hF : fr qA M N) : gInv T N k m C nx sz := by
  have hr := gInv_rel h
  obtain ⟨h1, h2, h3, h4, h5, h6, h7⟩ := h
  have hq : ∀ b j, qA b j → ¬ (313 ≤ b ∧ b < 324) ∧ ¬ b ≤ 1 ∧ b ≠ 76 ∧ b ≠ 312 ∧ ¬ (b = 311 ∧ (j = 2 ∨ j = 7 ∨ j = 11)) := fun b j z => by unfold qA at z; omega
  have hq2 : ∀ b j, qA b j → ¬ gCo b := fun b j z y => by have := gCo_no y; unfold qA at z; omega
  have hq3 : ∀ D b j, (D = 5 ∨ gD D) → qA b j → ¬ dIn D b j := fun D b j hD z y => by have := dIn_rngs hD y; unfold qA at z; omega
  refine ⟨gSl_fr h1 hF (fun b j z => hq3 37 b j (Or.inr (Or.inl rfl)) z) hq2 (fun j _ z => (hq _ _ z).1 (by omega)), gFx_fr h2 hF, gEl_fr hr.cl h3 hF (fun b j z => ⟨qA_eA b j z, by unfold qA at z; omega⟩), ?_, fun D hD i hi => ?_, gDa_r h6 hF.1, ?_⟩
  · obtain ⟨a1, a2, a3, a4, a5, a6⟩ := h4
    refine ⟨a1, a2, by rw [hF.2.2 _ _ (fun z => by unfold qA at z; omega)]; exact a3, by rw [hF.2.2 _ _ (fun z => by unfold qA at z; omega)]; exact a4, by rw [hF.2.2 _ _ (fun z => by unfold qA at z; omega)]; exact a5, fun q hlt => ?_⟩
    obtain ⟨k', m', hs⟩ := a6 q hlt
    exact ⟨k', m', gSl_fr hs hF (fun b j z => hq3 _ b j (Or.inr (gD_slot nx q)) z) hq2 (fun j _ z => (hq _ _ z).1 (by omega))⟩
  · rw [show dKp N D i = dKp M D i from hF.2.2 _ _ (fun q => hq3 D _ _ hD q (dIn_lib hi (Or.inr (Or.inl rfl))))]
    exact h5 D hD i hi
  · obtain ⟨q, b1, b2, b3, b4, b5⟩ := h7
    have hn : ∀ b j, (b = 0 ∨ b = 1 ∨ b = 312 ∨ (b = 311 ∧ (j = 2 ∨ j = 7))) → gi N b j = gi M b j := fun b j hb => hF.2.2 b j (fun z => by unfold qA at z; omega)
    exact ⟨q, b1, by rw [hn _ _ (by omega)]; exact b2, by rw [hn _ _ (by omega)]; exact b3, fun j hj => by rw [hn 312 j (by omega), hn 1 j (by omega)]; exact b4 j hj, by rw [hn 0 2 (by omega), hn 311 7 (by omega)]; exact b5⟩
/-- what the class leaves of a change -/
def gMid (T : gT) (M M2 N : gM) (k : Nat → Nat × Nat) (m C nx sz : Nat) : Prop := gFx T N ∧ gDa T N ∧ gKf N ∧ gBf N ∧ gCls T N k m ∧ gEl N k m ∧ gSlt T N (78 + 29 * nx) 313 k m C ∧ (nx < 8 ∧ sz ≤ 8 ∧ gi N 76 1 = nI ((nx + 1) % 8) ∧ gi N 76 2 = nI (if sz < 8 then sz + 1 else 8) ∧ gi N 311 11 = nI sz ∧ ∀ q, q < sz → q < 7 → ∃ k m, gSlt T N (gSlot nx q) (316 + (sz - 1 - q)) k m C) ∧ dSame N (78 + 29 * nx) M 37 ∧ (∀ j, j < 96 → gi N 310 j = gi M 73 j) ∧ gr N 37 4 = gr N (78 + 29 * nx) 4 ∧ ∀ b j, dIn 37 b j → gi N b j = gi M2 b j
theorem p_mid (hI : gInv T M k m C nx sz) (hB : gBg M M1 nx sz) (h1 : ∀ b j, gr M2 b j = gr M1 b j) (h3 : ∀ b j, ¬ dIn 37 b j → gi M2 b j = gi M1 b j) (hV : gVal T M2 37) (hK : ∀ i, i < 8 → dKp M2 37 i = 0 ∨ dKp M2 37 i = 1) : ∃ N, f_X1_count T M2 66 37 = some N ∧ gMid T M M2 N k m C nx sz ∧ fr (fun b _ => (67 ≤ b ∧ b ≤ 73) ∨ gStk b) M2 N := by
  obtain ⟨i1, i2, i3, ⟨hnx, hsz, j1, j2, j3, j4⟩, i5, i6, i7⟩ := hI
  obtain ⟨b1, b2, b3, b4, b5, b6, b7, b8⟩ := hB
  have hDk : gD (78 + 29 * nx) := Or.inr ⟨nx, hnx, rfl⟩
  have hg : ∀ b j, ¬ (b ∈ gDs ∧ j = 4) → gr M2 b j = gr M b j := fun b j hb => (h1 b j).trans (b1 b j (fun q => hb ⟨by rw [q.1]; exact gDs_mem (Or.inr hDk), q.2⟩))
  have hX2 : gFx T M2 := gFx_of i2 hg
  have hc1 : ∀ b j, gCo b → gi M2 b j = gi M b j := fun b j hb => by
    have hb2 := gCo_no hb
    rw [h3 b j (fun q => dIn_noCo (Or.inr (Or.inl rfl)) q hb)]
    exact b8 b j (fun q => dIn_noCo (Or.inr hDk) q hb) (by omega) (by omega)
  have g37 : gr M2 37 4 = gr M 37 4 := (h1 _ _).trans (b1 37 4 (by omega))
  have hW2 : gWt T M2 37 k m := gWt_mv i1.2.2.1 g37 hg hc1
  have hC2 : gCls T M2 k m := ⟨hX2, hV, trivial, hW2, trivial, i1.2.2.2.2.1, i1.2.2.2.2.2.1, trivial⟩
  obtain ⟨N, c1, c2, c3, c4⟩ := p_count hC2
  have hN : ∀ b j, ¬ ((67 ≤ b ∧ b ≤ 73) ∨ gStk b) → ¬ dIn 37 b j → gi N b j = gi M1 b j := fun b j q1 q2 => (c2.2.2 b j q1).trans (h3 b j q2)
  have hlo : ∀ b, b ≤ 8 ∨ b = 37 ∨ b = 76 ∨ (286 ≤ b ∧ b < 358) → ¬ ((67 ≤ b ∧ b ≤ 73) ∨ gStk b) := fun b hb q => q.elim (fun z => by omega) (fun z => by have := gStk_no z; omega)
  have hdst : ∀ D b j, (D = 5 ∨ gD D) → dIn D b j → ¬ ((67 ≤ b ∧ b ≤ 73) ∨ gStk b) := fun D b j hD hd q => by
    have h2 := dIn_two hd
    rcases q with q | q
    · have := dIn_rngs hD hd
      omega
    · have q2 := gStk_no q
      rcases hD with rfl | rfl | ⟨i, hi, rfl⟩ <;> omega
  have hother : ∀ D b j, (D = 5 ∨ gD D) → D ≠ 37 → D ≠ 78 + 29 * nx → dIn D b j → gi N b j = gi M b j := fun D b j hD hne1 hne2 hd => by
    have hr := dIn_rngs hD hd
    rw [hN b j (hdst D b j hD hd) (dIn_apart hD (Or.inr (Or.inl rfl)) hne1 hd)]
    exact b8 b j (dIn_apart hD (Or.inr hDk) hne2 hd) (by omega) (by omega)
  have hDkd : dSame N (78 + 29 * nx) M 37 := fun b j hd => by
    rw [hN b j (hdst _ b j (Or.inr hDk) hd) (dIn_apart (Or.inr hDk) (Or.inr (Or.inl rfl)) (by omega) hd)]
    exact b4 b j hd
  have hmid : ∀ b j, (b = 0 ∨ b = 1 ∨ (311 ≤ b ∧ b < 324)) → gi N b j = gi M b j := fun b j hb => by
    rw [hN b j (hlo b (by omega)) (fun q => by have := dIn_rngs (Or.inr (Or.inl rfl)) q; omega)]
    exact b8 b j (fun q => by have := dIn_rngs (Or.inr hDk) q; omega) (by omega) (by omega)
  have hgN : ∀ b j, ¬ (b ∈ gDs ∧ j = 4) → gr N b j = gr M b j := fun b j hb => (c2.1 b j).trans (hg b j hb)
  have hgk : gr N (78 + 29 * nx) 4 = gr M 37 4 := (c2.1 _ _).trans ((h1 _ _).trans b2)
  have hcN : ∀ b j, gCo b → gi N b j = gi M b j := fun b j hb => by
    have hb2 := gCo_no hb
    rw [c2.2.2 b j (fun q => q.elim (fun z => by omega) (fun z => by have := gStk_no z; omega))]
    exact hc1 b j hb
  have hDaN : gDa T N := gDa_of i6 hgN
  refine ⟨N, c1, ⟨gFx_of i2 hgN, hDaN, fun D hD i hi => ?_, ?_, c3, c4, gSl_mv i1 (Nat.le_refl C) (hDaN _ (Or.inr hDk)) hDkd hgk hgN hcN (fun j _ => hmid 313 j (by omega)), ⟨hnx, hsz, ?_, ?_, ?_, fun q hq hq7 => ?_⟩, hDkd, fun j hj => ?_, ?_, fun b j hd => c2.2.2 b j (hdst 37 b j (Or.inr (Or.inl rfl)) hd)⟩, c2⟩
  · by_cases e1 : D = 37
    · subst e1
      rw [show dKp N 37 i = dKp M2 37 i from c2.2.2 _ _ (hdst 37 _ _ (Or.inr (Or.inl rfl)) (dIn_lib hi (Or.inr (Or.inl rfl))))]
      exact hK i hi
    · by_cases e2 : D = 78 + 29 * nx
      · subst e2
        rw [show dKp N (78 + 29 * nx) i = dKp M 37 i from dKp_same hDkd hi]
        exact i5 37 (Or.inr (Or.inl rfl)) i hi
      · rw [show dKp N D i = dKp M D i from hother D _ _ hD e1 e2 (dIn_lib hi (Or.inr (Or.inl rfl)))]
        exact i5 D hD i hi
  · obtain ⟨q, q1, q2, q3, q4, q5⟩ := i7
    exact ⟨q, q1, by rw [hmid _ _ (by omega)]; exact q2, by rw [hmid _ _ (by omega)]; exact q3, fun j hj => by rw [hmid 312 j (by omega), hmid 1 j (by omega)]; exact q4 j hj, by rw [hmid 0 2 (by omega), hmid 311 7 (by omega)]; exact q5⟩
  · rw [hN 76 1 (hlo 76 (by omega)) (fun q => by have := dIn_rngs (Or.inr (Or.inl rfl)) q; omega)]
    exact b5
  · rw [hN 76 2 (hlo 76 (by omega)) (fun q => by have := dIn_rngs (Or.inr (Or.inl rfl)) q; omega)]
    exact b6
  · rw [hmid _ _ (by omega)]
    exact j3
  · obtain ⟨k', m', hs⟩ := j4 q hq
    refine ⟨k', m', gSl_mv hs (Nat.le_refl C) (hDaN _ (Or.inr (gD_slot nx q))) (fun b j hd => ?_) ?_ hgN hcN (fun j _ => hmid _ _ (by omega))⟩
    · have h5 := dIn_rng hd
      rw [show b - gSlot nx q + gSlot nx q = b by omega]
      exact hother _ b j (Or.inr (gD_slot nx q)) (by unfold gSlot; omega) (gSlot_ne hnx hq7) hd
    · exact (c2.1 _ _).trans ((h1 _ _).trans (b1 _ _ (fun z => gSlot_ne hnx hq7 z.1)))
  · rw [hN 310 j (hlo 310 (by omega)) (fun q => by have := dIn_rngs (Or.inr (Or.inl rfl)) q; omega)]
    exact b7 j hj
  · rw [hgk]
    exact (c2.1 _ _).trans g37
end PMI
