/-! ROWS of the drafts again; SHARE; keywords -/
section PJH
variable {T U : gT} {M R M' R' : gM} {B : Nat → Nat} {n s e p nl nn i q : Nat}
theorem lD_fr (h : lD M R nl nn i) (h8 : i < 8) (hM : ∀ b j, dIn 5 b j → (b = 10 + 3 * i ∨ b = 11 + 3 * i ∨ b = 12 + 3 * i) → gi M' b j = gi M b j) (hR : ∀ j, j < 24 → gi R' 314 (6 + 24 * i + j) = gi R 314 (6 + 24 * i + j)) : lD M' R' nl nn i := by
  obtain ⟨⟨t, t1, t2, t3⟩, ⟨k1, k2⟩, ⟨r1, r2⟩, ⟨pm, p1, p2, p3, p4, p5, p6⟩, o1⟩ := h
  have eL : ∀ j, (j = 0 ∨ j = 1 ∨ j = 2 ∨ j = 5) → gi M' (5 + 5 + 3 * i) j = gi M (5 + 5 + 3 * i) j := fun j hj => hM _ _ (dIn_lib h8 hj) (by omega)
  have epr : ∀ k, k < 8 → dPr M' 5 i k = dPr M 5 i k := fun k hk => hM _ _ (dIn_prf h8 hk) (by omega)
  refine ⟨⟨t, t1, (eL 0 (by omega)).trans t2, (hR 0 (by omega)).trans t3⟩, ⟨by rw [show dKp M' 5 i = dKp M 5 i from eL 1 (by omega)]; exact k1, by rw [show dKp M' 5 i = dKp M 5 i from eL 1 (by omega), hR 1 (by omega)]; exact k2⟩, ⟨(eL 2 (by omega)).trans r1, (hR 2 (by omega)).trans r2⟩, ⟨pm, (eL 5 (by omega)).trans p1, (hR 3 (by omega)).trans p2, p3, ?_, ?_, fun k hk => ?_⟩, fun z hz => ?_⟩
  · rw [cntN_ext (e := fun q => anyN (fun k => decide (dPr M 5 i k = nI q)) pm) (fun q _ => anyN_ext (fun k hk => by rw [epr k (by omega)]))]
    exact p4
  · rw [anyN_ext (e := fun k => decide (dPr M 5 i k = nI i)) (fun k hk => by rw [epr k (by omega)])]
    exact p5
  · obtain ⟨q, q1, q2, q3⟩ := p6 k hk
    refine ⟨q, by omega, (epr k (by omega)).trans q2, ?_⟩
    have := hR (4 + k) (by omega)
    rw [show 6 + 24 * i + (4 + k) = 6 + 24 * i + 4 + k by omega] at this
    exact this.trans q3
  · have := hR (12 + z) (by omega)
    rw [show 6 + 24 * i + (12 + z) = 6 + 24 * i + 12 + z by omega] at this
    rw [show dOf M' 5 i z = dOf M 5 i z from hM _ _ (dIn_off h8 hz) (by omega), this]
    exact o1 z hz
/-- one row of the drafts is told anew -/
theorem pD_row (h : pD T M R B nl nn) (hq : q < nl) (hg : ∀ b j, gr M' b j = gr M b j) (hM : ∀ b j, dIn 5 b j → ¬ (b = 10 + 3 * q ∨ b = 11 + 3 * q ∨ b = 12 + 3 * q) → gi M' b j = gi M b j) (hL : lD M' R' nl nn q) (hR : ∀ j, j < 198 → ¬ (6 + 24 * q ≤ j ∧ j < 30 + 24 * q) → gi R' 314 j = gi R 314 j) (hl : ∀ b j, b = 34 ∨ b = 35 → gl M' b j = gl M b j) (hl2 : ∀ b j, b = 324 ∨ b = 325 → gl R' b j = gl R b j) : pD T M' R' B nl nn := by
  obtain ⟨h1, ⟨h2, h2'⟩, ⟨a1, a2, a3, a4, a5, a6⟩, h4, h5, h6, h7, h8⟩ := h
  have e5 : ∀ j, (j = 1 ∨ j = 2 ∨ j = 3) → gi M' 5 j = gi M 5 j := fun j hj => hM _ _ (dIn_hd hj) (by omega)
  refine ⟨gDat_gr h1 hg, ⟨h2, h2'⟩, ⟨(e5 1 (by omega)).trans a1, (e5 2 (by omega)).trans a2, by rw [hR _ (by omega) (by omega)]; exact a3, by rw [hR _ (by omega) (by omega)]; exact a4, by rw [hR _ (by omega) (by omega)]; exact a5, by rw [hR _ (by omega) (by omega), e5 3 (by omega)]; exact a6⟩, fun i hi => ?_, fun i hi hi8 => by rw [hR _ (by omega) (by omega)]; exact h5 i hi hi8, wT_fr h6 (fun i _ => hl _ _ (Or.inl rfl)) (fun i _ => hl2 _ _ (Or.inl rfl)), wT_fr h7 (fun i _ => hl _ _ (Or.inr rfl)) (fun i _ => hl2 _ _ (Or.inr rfl)), fun i hi => ?_⟩
  · by_cases ei : i = q
    · rw [ei]
      exact hL
    · exact lD_fr (h4 i hi) (by omega) (fun b j hd hb => hM b j hd (by omega)) (fun j hj => hR _ (by omega) (by omega))
  · by_cases ei : i = q
    · rw [ei]
      exact hL.2.1.1
    · rw [show dKp M' 5 i = dKp M 5 i from hM _ _ (dIn_lib hi (Or.inr (Or.inl rfl))) (by omega)]
      exact h8 i hi
/-- the share is told -/
theorem pD_sh (h : pD T M R B nl nn) (hg : ∀ b j, gr M' b j = gr M b j) (hM : ∀ b j, dIn 5 b j → ¬ (b = 5 ∧ j = 3) → gi M' b j = gi M b j) (hR : ∀ j, j < 198 → j ≠ 0 → gi R' 314 j = gi R 314 j) (h0 : gi R' 314 0 = gi M' 5 3) (hl : ∀ b j, b = 34 ∨ b = 35 → gl M' b j = gl M b j) (hl2 : ∀ b j, b = 324 ∨ b = 325 → gl R' b j = gl R b j) : pD T M' R' B nl nn := by
  obtain ⟨h1, ⟨h2, h2'⟩, ⟨a1, a2, a3, a4, a5, a6⟩, h4, h5, h6, h7, h8⟩ := h
  refine ⟨gDat_gr h1 hg, ⟨h2, h2'⟩, ⟨(hM _ _ (dIn_hd (Or.inl rfl)) (by omega)).trans a1, (hM _ _ (dIn_hd (Or.inr (Or.inl rfl))) (by omega)).trans a2, by rw [hR _ (by omega) (by omega)]; exact a3, by rw [hR _ (by omega) (by omega)]; exact a4, by rw [hR _ (by omega) (by omega)]; exact a5, h0⟩, fun i hi => lD_fr (h4 i hi) (by omega) (fun b j hd hb => hM b j hd (by omega)) (fun j hj => hR _ (by omega) (by omega)), fun i hi hi8 => by rw [hR _ (by omega) (by omega)]; exact h5 i hi hi8, wT_fr h6 (fun i _ => hl _ _ (Or.inl rfl)) (fun i _ => hl2 _ _ (Or.inl rfl)), wT_fr h7 (fun i _ => hl _ _ (Or.inr rfl)) (fun i _ => hl2 _ _ (Or.inr rfl)), fun i hi => ?_⟩
  rw [show dKp M' 5 i = dKp M 5 i from hM _ _ (dIn_lib hi (Or.inr (Or.inl rfl))) (by omega)]
  exact h8 i hi
theorem pS_fr (h : pS T U M R B n s e p) (hg : ∀ b j, gr M' b j = gr M b j) (hM : ∀ b j, (b = 3 ∨ b = 4) → gi M' b j = gi M b j) (hl : gl M' 3 5 = gl M 3 5) (hg2 : ∀ b j, gr R' b j = gr R b j) (hR : rF R R') (h4 : gi R' 311 4 = gi R 311 4) (h5 : gi R' 311 5 = gi R 311 5) (h6 : gi R' 311 6 = gi R 311 6) : pS T U M' R' B n s e p := by
  obtain ⟨q1, q2, q3, q4, q5, q6, q7, q8⟩ := h
  exact ⟨gFx_gr q1 hg, gFx_gr q2 hg2, cT_oth q3 hM hl, rTx_rF q4 hR, h4.trans q5, q6, h5.trans q7, h6.trans q8⟩
theorem j_share (h : pH T U M R B n s e) (hD : pD T M R B nl nn) : jO T U (si M 2 6 1) R B n e (f_X5_readShare T M 2) ((ldr U R 311 9 11).bind fun b21 => (f_X9_number U R 311 (0 : Int32) (100 : Int32)).bind fun x22 => (ast U x22.2 b21 (0 : Int32) x22.1).bind fun M23 => some M23) nl nn := by
  obtain ⟨hX, hXR, hT, hR, hp, hg, ha⟩ := h
  have hX1 : gFx T (si M 2 6 1) := gFx_gr hX (fun _ _ => rfl)
  obtain ⟨M1, s1, e1, c1, c2, c3⟩ := j_adv hX1 hXR (cT_2 hT) hR hp hg ha
  obtain ⟨M2, R2, v, g1, g2, g3, g4⟩ := j_number (hi := 100) (by decide) c2
  have hXR2 := gFx_fz hXR g3
  have hFM : cD (si M 2 6 1) M2 := fz_trans (cP_D (cP_t c3)) (cP_D g2)
  have hFR : rD R (si R2 314 0 v) := fz_si (rE_D g3) (Or.inr ⟨rfl, by decide, by decide, by decide⟩)
  unfold f_X5_readShare
  rw [r_2_0 hX1, Option.bind_some, c1, Option.bind_some, r_311_9 hXR, Option.bind_some, show f_X9_number U R 311 (0 : Int32) (100 : Int32) = some (v, R2) from g1, Option.bind_some]
  dsimp only
  rw [show ast U R2 314 (0 : Int32) v = some (si R2 314 0 v) from t314 hXR2 (j := 0) (by omega), Option.bind_some]
  rcases g4 with ⟨k1, k2, ⟨x, k3, k3'⟩, k4, k5, s3, e3, k6, k7⟩ | ⟨k1, k2⟩
  · rw [show f_X5_readNumber T M1 2 (100 : Int32) = some (1, M2) from k1, Option.bind_some, if_pos (show ¬ ((1 : Int32) = 0) by decide)]
    dsimp only
    rw [r_2_1 k6.1, Option.bind_some, k2]
    have hse := c2.2.2.2.2.2.1.1
    refine ⟨_, _, rfl, fz_si hFM (Or.inr (Or.inl (dIn_hd (Or.inr (Or.inr rfl))))), hFR, Or.inl ⟨rfl, s3, e3, e1, ?_, by omega, ?_⟩⟩
    · exact pS_fr k6 (fun _ _ => rfl) (fun b j hb => by rw [gi_si, if_neg (by omega)]) rfl (fun _ _ => rfl) (fz_si fz_refl (Or.inl rfl)) (by rw [gi_si, if_neg (by omega)]) (by rw [gi_si, if_neg (by omega)]) (by rw [gi_si, if_neg (by omega)])
    · refine pD_sh hD (fun b j => hFM.1 b j) (fun b j hd hb => ?_) (fun j hj h0 => ?_) ?_ (fun b j hb => ?_) (fun b j hb => ?_)
      · rw [gi_si, if_neg hb, g2.2.2 b j (cS0_5 hd), c3.2.2 b j (fun z => cS0_5 hd (Or.inl z)), gi_si, if_neg (by have := d5_no hd; omega)]
      · rw [gi_si, if_neg (by omega)]
        exact g3.2.2 314 j (fun q => by unfold rS0 at q; omega)
      · rw [gi_si, if_pos ⟨rfl, rfl⟩, gi_si, if_pos ⟨rfl, rfl⟩]
      · show gl M2 b j = gl M b j
        rw [g2.2.1 b j (fun q => by unfold tL at q; omega), c3.2.1 b j (fun q => by unfold tL at q; omega)]
        rfl
      · exact g3.2.1 b j (fun q => q)
  · rw [show f_X5_readNumber T M1 2 (100 : Int32) = some (0, M2) from k1, Option.bind_some, if_neg (fun q => q rfl)]
    exact ⟨_, _, rfl, hFM, hFR, Or.inr ⟨rfl, bad_R2 k2 (by rw [gi_si, if_neg (by omega)]) (by rw [gi_si, if_neg (by omega)]), kP_S hD.2.2.2.2.2.2.2 (fun b j hd => by rw [g2.2.2 b j (cS0_5 hd), c3.2.2 b j (fun z => cS0_5 hd (Or.inl z)), gi_si, if_neg (by have := d5_no hd; omega)])⟩⟩
end PJH
