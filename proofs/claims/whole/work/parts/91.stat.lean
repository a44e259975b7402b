/-! A STATEMENT of the text on both sides -/
/-- what of the text was told: share, weight; the weight's code -/
def pC (M R : gM) : Prop := ∃ a b, a ≤ 1 ∧ b ≤ 1 ∧ gi M 2 6 = nI a ∧ gi M 2 7 = nI b ∧ gi R 311 14 = nI (a + 2 * b) ∧ gi R 311 13 = nI 0 ∧ ((b = 0 ∧ gi M 2 5 = 1 ∧ gi M 36 0 = -1 ∧ gi R 314 5 = 0) ∨ (b = 1 ∧ ∃ F, cW M R F 1 ∧ 2 * F ≤ 801))
/-- both before a statement -/
def pT (T U : gT) (M R : gM) (B : Nat → Nat) (n s e p : Nat) : Prop := pS T U M R B n s e p ∧ (∃ nl nn, pD T M R B nl nn) ∧ pC M R
def cSF (b j : Nat) : Prop := cS9 b j ∨ dIn 5 b j ∨ (b = 2 ∧ (j = 6 ∨ j = 7))
abbrev cF (M M' : gM) : Prop := fz cSF cLd M M'
theorem cD_F {M M' : gM} (h : cD M M') : cF M M' := fz_mono h (fun b j q => by
  rcases q with q | q | q
  · exact Or.inl (Or.inl q)
  · exact Or.inr (Or.inl q)
  · exact q.elim) (fun _ _ q => q)
theorem cQ_F {M M' : gM} (h : cQ M M') : cF M M' := fz_mono h (fun _ _ q => Or.inl q) (fun _ _ q => Or.inl q)
theorem cP_F {M M' : gM} (h : cP M M') : cF M M' := cQ_F (cP_Q h)
def jM (T U : gT) (M R : gM) (B : Nat → Nat) (n p : Nat) (cr : Option (Int32 × gM)) (rr : Option gM) : Prop := ∃ M' R', rr = some R' ∧ cF M M' ∧ rF R R' ∧ ((cr = some (1, M') ∧ ∃ s' e' p', pT T U M' R' B n s' e' p' ∧ p + 1 ≤ p') ∨ (cr = some (0, M') ∧ bad M' R' ∧ kP M'))
def jZ (T U : gT) (M R : gM) (B : Nat → Nat) (n p : Nat) (cr : Option (Int32 × gM)) (rr : Option gM) : Prop := ∃ M' R', rr = some R' ∧ cF M M' ∧ rF R R' ∧ ((∃ M1, cr = some (1, M1) ∧ f_X5_readSign T M1 2 (59 : Int32) = some (1, M') ∧ ∃ s' e' p', pT T U M' R' B n s' e' p' ∧ p + 1 ≤ p') ∨ ((cr = some (0, M') ∨ ∃ M1, cr = some (1, M1) ∧ f_X5_readSign T M1 2 (59 : Int32) = some (0, M')) ∧ bad M' R' ∧ kP M'))
section PJZ
variable {T U : gT} {M R M' R' M0 R0 : gM} {B : Nat → Nat} {n s e p nl nn F H d i : Nat} {cr : Option (Int32 × gM)} {rr : Option gM}
theorem cW_fr3 (h : cW M R F H) (h5 : gi M' 2 5 = gi M 2 5) (h36 : ∀ t, gi M' 36 t = gi M 36 t) (hR5 : gi R' 314 5 = gi R 314 5) (hR : ∀ j, 198 ≤ j → gi R' 314 j = gi R 314 j) : cW M' R' F H := by
  obtain ⟨k, m, a1, a2, a3, a4, a5, a6, a7⟩ := h
  refine ⟨k, m, h5.trans a1, hR5.trans a2, a3, a4, a5, fun t ht => ?_, a7⟩
  obtain ⟨b1, b2, b3⟩ := a6 t ht
  exact ⟨(h36 t).trans b1, (hR _ (by omega)).trans b2, fun y => (hR _ (by omega)).trans (b3 y)⟩
theorem pC_fr (h : pC M R) (h5 : ∀ j, (j = 5 ∨ j = 6 ∨ j = 7) → gi M' 2 j = gi M 2 j) (h36 : ∀ t, gi M' 36 t = gi M 36 t) (hr : ∀ j, (j = 13 ∨ j = 14) → gi R' 311 j = gi R 311 j) (hR5 : gi R' 314 5 = gi R 314 5) (hR : ∀ j, 198 ≤ j → gi R' 314 j = gi R 314 j) : pC M' R' := by
  obtain ⟨a, b, a1, a2, a3, a4, a5, a6, a7⟩ := h
  refine ⟨a, b, a1, a2, (h5 6 (by omega)).trans a3, (h5 7 (by omega)).trans a4, (hr 14 (by omega)).trans a5, (hr 13 (by omega)).trans a6, ?_⟩
  rcases a7 with ⟨b1, b2, b3, b4⟩ | ⟨b1, F, b2, b3⟩
  · exact Or.inl ⟨b1, (h5 5 (by omega)).trans b2, (h36 0).trans b3, hR5.trans b4⟩
  · exact Or.inr ⟨b1, F, cW_fr3 b2 (h5 5 (by omega)) h36 hR5 hR, b3⟩
theorem pC_D (h : pC M R) (hM : cD M M') (hR : rD R R') : pC M' R' := by
  have hd : ∀ b j, ((b = 2 ∧ (j = 5 ∨ j = 6 ∨ j = 7)) ∨ b = 36) → ¬ cSd b j := fun b j hb q => by
    rcases q with q | q | q
    · unfold cS0 tS at q; omega
    · have := d5_no q; omega
    · exact q
  exact pC_fr h (fun j hj => hM.2.2 2 j (hd 2 j (by omega))) (fun t => hM.2.2 36 t (hd 36 t (by omega))) (fun j hj => hR.2.2 311 j (fun q => by unfold rSd rS0 at q; omega)) (hR.2.2 314 5 (fun q => by unfold rSd rS0 at q; omega)) (fun j hj => hR.2.2 314 j (fun q => by unfold rSd rS0 at q; omega))
theorem pT_PE (h : pS T U M' R' B n s e p) (hD : pD T M R B nl nn) (hC : pC M R) (hM : cP M M') (hR : rE R R') : pT T U M' R' B n s e p := ⟨h, ⟨nl, nn, pD_PE hD hM hR⟩, pC_D hC (cP_D hM) (rE_D hR)⟩
theorem jM_of (hM : cF M M0) (hR : rF R R0) (hC : pC M0 R0) (hp : p + 1 ≤ e) (h : jO T U M0 R0 B n e cr rr nl nn) : jM T U M R B n p cr rr := by
  obtain ⟨M1, R1, h1, h2, h3, h4⟩ := h
  refine ⟨M1, R1, h1, fz_trans hM (cD_F h2), fz_trans hR (rD_F h3), ?_⟩
  rcases h4 with ⟨a1, s', e', p', a2, a3, a4⟩ | a
  · exact Or.inl ⟨a1, s', e', p', ⟨a2, ⟨nl, nn, a4⟩, pC_D hC h2 h3⟩, by omega⟩
  · exact Or.inr a
theorem jM_chk (h : jM T U M R B n p cr rr) : jM T U M R B n p (cr.bind fun x => (chk (x.1 = 0 ∨ x.1 = 1)).bind fun _ => some (x.1, x.2)) rr := by
  obtain ⟨M1, R1, h1, h2, h3, h4⟩ := h
  refine ⟨M1, R1, h1, h2, h3, ?_⟩
  rcases h4 with ⟨a1, a2⟩ | ⟨a1, a2⟩
  · exact Or.inl ⟨by rw [a1, Option.bind_some, chk_ok (Or.inr rfl), Option.bind_some], a2⟩
  · exact Or.inr ⟨by rw [a1, Option.bind_some, chk_ok (Or.inl rfl), Option.bind_some], a2⟩
theorem jM_end (h : jM T U M R B n p cr rr) : jZ T U M R B n p cr (rr.bind fun x => f_X9_statement_143 U x 311) := by
  obtain ⟨M1, R1, h1, h2, h3, h4⟩ := h
  unfold f_X9_statement_143
  rw [h1, Option.bind_some]
  rcases h4 with ⟨a1, s', e', p', ⟨a2, ⟨nl, nn, a3⟩, a4⟩, a5⟩ | ⟨a1, a2⟩
  · obtain ⟨M2, R2, t1, t2, t3, t4⟩ := j_sign sgn_59 a2
    rw [show f_X9_expect U R1 311 (59 : Int32) = some R2 from t1, Option.bind_some]
    have hy := a2.2.2.2.2.2.1.1
    refine ⟨M2, R2, rfl, fz_trans h2 (cP_F t2), fz_trans h3 (rE_F t3), ?_⟩
    rcases t4 with ⟨u1, s2, e2, u2, u3, u4⟩ | ⟨u1, u2⟩
    · exact Or.inl ⟨M1, a1, u1, s2, e2, s' + 1, pT_PE u2 a3 a4 t2 t3, by omega⟩
    · exact Or.inr ⟨Or.inr ⟨M1, a1, u1⟩, u2, kP_P a3.2.2.2.2.2.2.2 t2⟩
  · have hge : gi R1 311 5 ≠ 0 := bad_R (R' := R1) a2.1
    rw [m_expect_bad hge, Option.bind_some]
    exact ⟨M1, R1, rfl, h2, h3, Or.inr ⟨Or.inl a1, a2⟩⟩
theorem m_onceN {c c' : Nat} {i1 x : Int32} (h : gi R 311 14 = nI c) (hb : ¬ ((nI c >>> (i1 &&& 31)) &&& 1) = 1) (hs : nI c ||| ((1 : Int32) <<< (i1 &&& 31)) = nI c') : f_X9_once U R 311 i1 x = some (si R 311 14 (nI c')) := by
  unfold f_X9_once f_X9_once_19
  rw [h, if_pos hb, hs]
theorem m_onceY {c : Nat} {i1 : Int32} (h : gi R 311 14 = nI c) (hb : ((nI c >>> (i1 &&& 31)) &&& 1) = 1) (hg : gi R 311 5 = 0) : ∃ y, f_X9_once U R 311 i1 (nI s) = some (si (rerr R (-2) s) 311 14 y) := by
  unfold f_X9_once f_X9_once_19
  rw [h, if_neg (fun q => q hb), m_report hg, Option.bind_some]
  exact ⟨_, rfl⟩
/-- the weight leaves the drafts -/
theorem pD_wt (h : pD T M R B nl nn) (hg : ∀ b j, gr M' b j = gr M b j) (hM : ∀ b j, dIn 5 b j → gi M' b j = gi M b j) (hR : ∀ j, j < 198 → j ≠ 4 → j ≠ 5 → gi R' 314 j = gi R 314 j) (hl : ∀ b j, b = 34 ∨ b = 35 → gl M' b j = gl M b j) (hl2 : ∀ b j, b = 324 ∨ b = 325 → gl R' b j = gl R b j) : pD T M' R' B nl nn := by
  obtain ⟨h1, ⟨h2, h2'⟩, ⟨a1, a2, a3, a4, a5, a6⟩, h4, h5, h6, h7, h8⟩ := h
  refine ⟨gDat_gr h1 hg, ⟨h2, h2'⟩, ⟨(hM _ _ (dIn_hd (Or.inl rfl))).trans a1, (hM _ _ (dIn_hd (Or.inr (Or.inl rfl)))).trans a2, by rw [hR _ (by omega) (by omega) (by omega)]; exact a3, by rw [hR _ (by omega) (by omega) (by omega)]; exact a4, by rw [hR _ (by omega) (by omega) (by omega)]; exact a5, by rw [hR _ (by omega) (by omega) (by omega), hM _ _ (dIn_hd (Or.inr (Or.inr rfl)))]; exact a6⟩, fun i hi => lD_fr (h4 i hi) (by omega) (fun b j hd _ => hM b j hd) (fun j hj => hR _ (by omega) (by omega) (by omega)), fun i hi hi8 => by rw [hR _ (by omega) (by omega) (by omega)]; exact h5 i hi hi8, wT_fr h6 (fun i _ => hl _ _ (Or.inl rfl)) (fun i _ => hl2 _ _ (Or.inl rfl)), wT_fr h7 (fun i _ => hl _ _ (Or.inr rfl)) (fun i _ => hl2 _ _ (Or.inr rfl)), fun i hi => ?_⟩
  rw [show dKp M' 5 i = dKp M 5 i from hM _ _ (dIn_lib hi (Or.inr (Or.inl rfl)))]
  exact h8 i hi
theorem cS9_5 {b j : Nat} (h : dIn 5 b j) : ¬ cS9 b j := fun q => by
  rcases q with q | q
  · exact cS0_5 h q
  · have := d5_no h; omega
/-- a weight, when none was told; R is the reference behind the keyword, R0 with its bit set -/
theorem j_weight {a : Nat} (h : pH T U M R B n s e) (hD : pD T M R B nl nn) (ha : a ≤ 1) (h6 : gi M 2 6 = nI a) (h14 : gi R 311 14 = nI a) (h13 : gi R 311 13 = nI 0) (hr5 : gi R 314 5 = 0) (hp : p + 1 ≤ e) : jM T U M R B n p (f_X5_readWeight T M 2) (f_X9_sum_c U (si (si R 311 14 (nI (a + 2))) 314 4 1) 311) := by
  obtain ⟨hX, hXR, hT, hR, hpe, hg, hag⟩ := h
  have hX1 : gFx T (si (si M 2 7 1) 2 5 0) := gFx_gr hX (fun _ _ => rfl)
  have hXR1 : gFx U (si (si R 311 14 (nI (a + 2))) 314 4 1) := gFx_gr hXR (fun _ _ => rfl)
  have g1 : ∀ j, j ≠ 14 → gi (si (si R 311 14 (nI (a + 2))) 314 4 1) 311 j = gi R 311 j := fun j hj => by rw [gi_si, if_neg (by omega), gi_si, if_neg (by omega)]
  have g2 : ∀ j, j ≠ 4 → gi (si (si R 311 14 (nI (a + 2))) 314 4 1) 314 j = gi R 314 j := fun j hj => by rw [gi_si, if_neg (by omega), gi_si, if_neg (by omega)]
  have hF1 : rF R (si (si R 311 14 (nI (a + 2))) 314 4 1) := fz_si (fz_si fz_refl (Or.inr ⟨rfl, by omega⟩)) (Or.inl rfl)
  obtain ⟨M1, s1, e1, c1, c2, c3⟩ := j_adv (U := U) (R := si (si R 311 14 (nI (a + 2))) 314 4 1) hX1 hXR1 (cT_2 (cT_2 hT)) (rTx_rF hR hF1) ((g1 4 (by decide)).trans hpe) ((g1 5 (by decide)).trans hg) ((g1 6 (by decide)).trans hag)
  have m25 : gi M1 2 5 = nI 0 := by
    rw [c3.2.2 2 5 (fun q => by unfold tS at q; omega), gi_si, if_pos ⟨rfl, rfl⟩]
    rfl
  have hW : cW M1 (si (si R 311 14 (nI (a + 2))) 314 4 1) 0 0 := ⟨fun _ => (0, 0), 0, m25, (g2 5 (by decide)).trans hr5, rfl, rfl, rfl, fun t ht => absurd ht (Nat.not_lt_zero t), fun t ht => absurd ht (Nat.not_lt_zero t)⟩
  obtain ⟨M2, R2, r1, r2, r3, r4⟩ := j_wsum 4 0 rfl 10 10 (by decide) (by decide) M1 _ s1 e1 e 0 0 ⟨c2, hW, Nat.zero_le _, (g1 13 (by decide)).trans h13⟩ (by decide)
  have hcF : cF M M2 := fz_trans (fz_trans (fz_si (fz_si fz_refl (Or.inr (Or.inr ⟨rfl, by omega⟩))) (Or.inl (Or.inr (Or.inl ⟨rfl, rfl⟩)))) (cP_F (cP_t c3))) (cQ_F r2)
  have hrF : rF R R2 := fz_trans hF1 (rQ_F r3)
  unfold f_X5_readWeight f_X5_readSum_c f_X9_sum_c
  rw [r_2_0 hX1, Option.bind_some, c1, Option.bind_some, r1]
  refine ⟨M2, R2, rfl, hcF, hrF, ?_⟩
  rcases r4 with ⟨q1, s2, e2, p2, F2, q2, q3, q4, q5, q6⟩ | ⟨q1, q2⟩
  · have hp2 : p2 ≤ 800 := pI_le (H := 0) ⟨s2, e2, F2, q2, q4, q5, q6⟩
    refine Or.inl ⟨by rw [show g_X5_readSum 10 T M1 2 (0 : Int32) = some (1, M2) from q1, Option.bind_some, chk_ok (Or.inr rfl), Option.bind_some], s2, e2, p2, ⟨q2, ⟨nl, nn, pD_wt hD hcF.1 (fun b j hd => ?_) (fun j hj h4 h5 => ?_) (fun b j hb => ?_) (fun b j hb => ?_)⟩, a, 1, ha, Nat.le_refl 1, ?_, ?_, ?_, q6, Or.inr ⟨rfl, F2, q4, by omega⟩⟩, by omega⟩
    · rw [r2.2.2 b j (cS9_5 hd), c3.2.2 b j (fun z => cS0_5 hd (Or.inl z)), gi_si, if_neg (by have := d5_no hd; omega), gi_si, if_neg (by have := d5_no hd; omega)]
    · rw [r3.2.2 314 j (fun q => by unfold rS9 rS0 at q; omega)]
      exact g2 j h4
    · rw [r2.2.1 b j (fun q => by unfold tL at q; omega), c3.2.1 b j (fun q => by unfold tL at q; omega)]
      rfl
    · rw [r3.2.1 b j (fun q => q)]
      rfl
    · rw [r2.2.2 2 6 (fun q => by unfold cS9 cS0 tS at q; omega), c3.2.2 2 6 (fun q => by unfold tS at q; omega), gi_si, if_neg (by omega), gi_si, if_neg (by omega)]
      exact h6
    · rw [r2.2.2 2 7 (fun q => by unfold cS9 cS0 tS at q; omega), c3.2.2 2 7 (fun q => by unfold tS at q; omega), gi_si, if_neg (by omega), gi_si, if_pos ⟨rfl, rfl⟩]
      rfl
    · rw [r3.2.2 311 14 (fun q => by unfold rS9 rS0 at q; omega), gi_si, if_neg (by omega), gi_si, if_pos ⟨rfl, rfl⟩]
  · exact Or.inr ⟨by rw [show g_X5_readSum 10 T M1 2 (0 : Int32) = some (0, M2) from q1, Option.bind_some, chk_ok (Or.inl rfl), Option.bind_some], q2, kP_S hD.2.2.2.2.2.2.2 (fun b j hd => by rw [r2.2.2 b j (cS9_5 hd), c3.2.2 b j (fun z => cS0_5 hd (Or.inl z)), gi_si, if_neg (by have := d5_no hd; omega), gi_si, if_neg (by have := d5_no hd; omega)])⟩
theorem m_sumc_bad (h : gi R 311 5 ≠ 0) : f_X9_sum_c U R 311 = some R := by
  unfold f_X9_sum_c
  show f_X9_sum (g_X9_sum 9) U R 311 = some R
  exact m_sum_bad h
theorem bits_0 : ∀ b, b ≤ 1 → (¬ ((nI (0 + 2 * b) >>> ((0 : Int32) &&& 31)) &&& 1) = 1) ∧ nI (0 + 2 * b) ||| ((1 : Int32) <<< ((0 : Int32) &&& 31)) = nI (1 + 2 * b) ∧ ((nI (1 + 2 * b) >>> ((0 : Int32) &&& 31)) &&& 1) = 1 := by
  intro b hb
  rcases (show b = 0 ∨ b = 1 by omega) with rfl | rfl <;> decide +kernel
theorem bits_1 : ∀ a, a ≤ 1 → (¬ ((nI (a + 2 * 0) >>> ((1 : Int32) &&& 31)) &&& 1) = 1) ∧ nI (a + 2 * 0) ||| ((1 : Int32) <<< ((1 : Int32) &&& 31)) = nI (a + 2) ∧ ((nI (a + 2 * 1) >>> ((1 : Int32) &&& 31)) &&& 1) = 1 := by
  intro a ha
  rcases (show a = 0 ∨ a = 1 by omega) with rfl | rfl <;> decide +kernel
theorem kw_5not6 (h5 : isKw B n s 5) (h6 : isKw B n s 6) : False := by
  have a := h5.2.1 0 (by decide)
  have b := h6.2.1 0 (by decide)
  exact absurd (a.symm.trans b) (by decide +kernel)
theorem j_statement (h : pT T U M R B n s e p) : jZ T U M R B n p (f_X5_readStatement T M 2) (f_X9_statement U R 311) := by
  obtain ⟨⟨hX, hXR, hT, hR, hp, ⟨y1, y2, y3, y4⟩, hg, ha⟩, ⟨nl, nn, hD⟩, hC⟩ := h
  have one : ¬ ((1 : Int32) = 0) := by decide
  have hXp : gFx U (rpos R s) := gFx_gr hXR (fun _ _ => rfl)
  have hgp : gi (rpos R s) 311 5 = 0 := by rw [gi_si, if_neg (by omega)]; exact hg
  have hap : gi (rpos R s) 311 6 = -1 := by rw [gi_si, if_neg (by omega)]; exact ha
  have hpp : gi (rpos R s) 311 4 = nI s := by rw [gi_si, if_pos ⟨rfl, rfl⟩]
  have hRp : rTx (rpos R s) B n := rTx_rF hR (rP_F rP_pos)
  have hsy3 : Sy B n s s := ⟨Nat.le_refl _, y2, fun j q1 q2 => by omega, y4⟩
  have hEp : rE R (rpos R s) := rP_E rP_pos
  have tw : ∀ i, i < 13 → isKw B n s i → f_X9_takeWord U (rpos R s) 311 i = some (1, rpos R (s + gSl i)) := fun i hi q => by
    rw [m_takeWord (d := Classical.propDecidable _) hi hXp hRp hgp hpp hsy3, if_pos q]
    show some ((1 : Int32), si (si R 311 4 (nI s)) 311 4 (nI (s + gSl i))) = _
    rw [si_two]
  have tn : ∀ i, i < 13 → ¬ isKw B n s i → f_X9_takeWord U (rpos R s) 311 i = some (0, rpos R s) := fun i hi q => by
    rw [m_takeWord (d := Classical.propDecidable _) hi hXp hRp hgp hpp hsy3, if_neg q]
    show some ((0 : Int32), si (si R 311 4 (nI s)) 311 4 (nI s)) = _
    rw [si_two]
  have cw : ∀ i, i < 13 → isKw B n s i → f_X6_isWord T M 3 i = some 1 := fun i hi q => by
    rw [(c_isWord (T := T) (M := M) (d := Classical.propDecidable _) hi hT).1, if_pos q]
  have cn : ∀ i, i < 13 → ¬ isKw B n s i → f_X6_isWord T M 3 i = some 0 := fun i hi q => by
    rw [(c_isWord (T := T) (M := M) (d := Classical.propDecidable _) hi hT).1, if_neg q]
  have ew : ∀ i, i < 13 → isKw B n s i → e = s + gSl i ∧ p + 1 ≤ e := fun i hi q => by
    have h1 := (c_isWord (T := T) (M := M) (d := Classical.propDecidable _) hi hT).2 q
    have h2 := (kc_ok i hi).1
    exact ⟨h1, by omega⟩
  have hE : ∀ i, rE R (rpos R (s + gSl i)) := fun i => rP_E rP_pos
  have hHH : ∀ i, i < 13 → isKw B n s i → pH T U M (rpos R (s + gSl i)) B n s e := fun i hi q => ⟨hX, gFx_fz hXR (hE i), hT, rTx_rF hR (rP_F rP_pos), by rw [gi_si, if_pos ⟨rfl, rfl⟩, (ew i hi q).1], by rw [gi_si, if_neg (by omega)]; exact hg, by rw [gi_si, if_neg (by omega)]; exact ha⟩
  have hDD : ∀ i, pD T M (rpos R (s + gSl i)) B nl nn := fun i => pD_PE hD fz_refl (hE i)
  have hCC : ∀ i, pC M (rpos R (s + gSl i)) := fun i => pC_D hC fz_refl (rE_D (hE i))
  have syn : ∀ (Rz : gM), rF R Rz → gi Rz 311 5 = -2 → gi Rz 311 6 = nI s → jM T U M R B n p ((f_X5_syntaxError T M 2).bind fun x => (chk (x.1 = 0 ∨ x.1 = 1)).bind fun _ => some (x.1, x.2)) (some Rz) := fun Rz h1 h2 h3 => by
    refine jM_chk ⟨_, Rz, rfl, cP_F cP_err, h1, Or.inr ⟨c_syn hX hT.2.1, ⟨-2, s, by decide, ?_, ?_, h2, h3⟩, kP_P hD.2.2.2.2.2.2.2 cP_err⟩⟩
    · rw [gi_si, if_neg (by omega), gi_si, if_pos ⟨rfl, rfl⟩]
    · rw [gi_si, if_pos ⟨rfl, rfl⟩]
  unfold f_X5_readStatement f_X9_statement
  rw [r_2_0 hX, m_next hXR hR hp ⟨y1, y2, y3, y4⟩]
  simp only [Option.bind_some]
  rw [hpp]
  by_cases w1 : isKw B n s 1
  · rw [cw 1 (by decide) w1, tw 1 (by decide) w1]
    simp only [Option.bind_some]
    rw [if_neg one, if_neg one]
    exact jM_end (jM_chk (jM_of fz_refl (rE_F (hE 1)) (hCC 1) (ew 1 (by decide) w1).2 (j_name (hHH 1 (by decide) w1) (hDD 1))))
  rw [cn 1 (by decide) w1, Option.bind_some, if_pos rfl, tn 1 (by decide) w1, Option.bind_some]
  dsimp only
  rw [if_pos rfl]
  by_cases w2 : isKw B n s 2
  · rw [cw 2 (by decide) w2, tw 2 (by decide) w2]
    simp only [Option.bind_some]
    rw [if_neg one, if_neg one]
    exact jM_end (jM_chk (jM_of fz_refl (rE_F (hE 2)) (hCC 2) (ew 2 (by decide) w2).2 (j_library (hHH 2 (by decide) w2) (hDD 2))))
  rw [cn 2 (by decide) w2, Option.bind_some, if_pos rfl, tn 2 (by decide) w2, Option.bind_some]
  dsimp only
  rw [if_pos rfl]
  by_cases w3 : isKw B n s 3
  · rw [cw 3 (by decide) w3, tw 3 (by decide) w3]
    simp only [Option.bind_some]
    rw [if_neg one, if_neg one]
    exact jM_end (jM_chk (jM_of fz_refl (rE_F (hE 3)) (hCC 3) (ew 3 (by decide) w3).2 (j_offer (hHH 3 (by decide) w3) (hDD 3))))
  rw [cn 3 (by decide) w3, Option.bind_some, if_pos rfl, tn 3 (by decide) w3, Option.bind_some]
  dsimp only
  rw [if_pos rfl]
  by_cases w4 : isKw B n s 4
  · rw [cw 4 (by decide) w4, tw 4 (by decide) w4]
    simp only [Option.bind_some]
    rw [if_neg one, if_neg one]
    exact jM_end (jM_chk (jM_of fz_refl (rE_F (hE 4)) (hCC 4) (ew 4 (by decide) w4).2 (j_prefer (hHH 4 (by decide) w4) (hDD 4))))
  rw [cn 4 (by decide) w4, Option.bind_some, if_pos rfl, tn 4 (by decide) w4, Option.bind_some]
  dsimp only
  rw [if_pos rfl]
  obtain ⟨a, b, a1, a2, a3, a4, a5, a6, a7⟩ := hC
  have h14 : ∀ i, gi (rpos R (s + gSl i)) 311 14 = nI (a + 2 * b) := fun i => by rw [gi_si, if_neg (by omega)]; exact a5
  have hgk : ∀ i, gi (rpos R (s + gSl i)) 311 5 = 0 := fun i => by rw [gi_si, if_neg (by omega)]; exact hg
  unfold f_X5_readStatement_92
  rw [r_2_0 hX]
  simp only [Option.bind_some]
  by_cases w5 : isKw B n s 5
  · rw [cw 5 (by decide) w5, tw 5 (by decide) w5]
    simp only [Option.bind_some]
    rw [if_neg one, if_neg one, a3]
    have hXk := gFx_fz hXR (hE 5)
    by_cases ea : a = 0
    · subst ea
      rw [if_neg (show ¬ ¬ (nI 0 = (0 : Int32)) from fun q => q rfl), m_onceN (c := 0 + 2 * b) (c' := 1 + 2 * b) (h14 5) (bits_0 b a2).1 (bits_0 b a2).2.1]
      simp only [Option.bind_some]
      have hs := j_share (M := M) (R := si (rpos R (s + gSl 5)) 311 14 (nI (1 + 2 * b))) (T := T) (U := U) (B := B) (n := n) (s := s) (e := e) (nl := nl) (nn := nn) ⟨hX, gFx_gr hXk (fun _ _ => rfl), hT, rTx_rF (rTx_rF hR (rE_F (hE 5))) (fz_si fz_refl (Or.inr ⟨rfl, by omega⟩)), by rw [gi_si, if_neg (by omega), gi_si, if_pos ⟨rfl, rfl⟩, (ew 5 (by decide) w5).1], by rw [gi_si, if_neg (by omega)]; exact hgk 5, by rw [gi_si, if_neg (by omega), gi_si, if_neg (by omega)]; exact ha⟩ (pD_fr (hDD 5) (fun _ _ => rfl) (fun _ _ _ => rfl) (fun _ _ _ => rfl) (fun j _ => by rw [gi_si, if_neg (by omega)]) (fun _ _ _ => rfl))
      have hz := jM_end (jM_chk (jM_of (M := M) (R := R) (p := p) (fz_si fz_refl (Or.inr (Or.inr ⟨rfl, by omega⟩))) (fz_trans (rE_F (hE 5)) (fz_si fz_refl (Or.inr ⟨rfl, by omega⟩))) ⟨1, b, by decide, a2, by rw [gi_si, if_pos ⟨rfl, rfl⟩]; rfl, by rw [gi_si, if_neg (by omega)]; exact a4, by rw [gi_si, if_pos ⟨rfl, rfl⟩], by rw [gi_si, if_neg (by omega), gi_si, if_neg (by omega)]; exact a6, ?_⟩ (ew 5 (by decide) w5).2 hs))
      · simp only [Option.bind_assoc, Option.bind_some] at hz
        exact hz
      · rcases a7 with ⟨b1, b2, b3, b4⟩ | ⟨b1, F, b2, b3⟩
        · exact Or.inl ⟨b1, by rw [gi_si, if_neg (by omega)]; exact b2, by rw [gi_si, if_neg (by omega)]; exact b3, by rw [gi_si, if_neg (by omega), gi_si, if_neg (by omega)]; exact b4⟩
        · exact Or.inr ⟨b1, F, cW_fr3 b2 (by rw [gi_si, if_neg (by omega)]) (fun t => by rw [gi_si, if_neg (by omega)]) (by rw [gi_si, if_neg (by omega), gi_si, if_neg (by omega)]) (fun t _ => by rw [gi_si, if_neg (by omega), gi_si, if_neg (by omega)]), b3⟩
    · have ea1 : a = 1 := by omega
      subst ea1
      obtain ⟨y, hy⟩ := m_onceY (U := U) (s := s) (i1 := 0) (h14 5) (bits_0 b a2).2.2 (hgk 5)
      have hXz : gFx U (si (rerr (rpos R (s + gSl 5)) (-2) s) 311 14 y) := gFx_gr hXk (fun _ _ => rfl)
      have hge : gi (si (rerr (rpos R (s + gSl 5)) (-2) s) 311 14 y) 311 5 = -2 := by rw [gi_si, if_neg (by omega), gi_si, if_neg (by omega), gi_si, if_pos ⟨rfl, rfl⟩]
      have hgn : gi (si (rerr (rpos R (s + gSl 5)) (-2) s) 311 14 y) 311 5 ≠ 0 := by rw [hge]; decide
      rw [if_pos (show ¬ (nI 1 = (0 : Int32)) by decide), hy, cn 6 (by decide) (fun q => kw_5not6 w5 q)]
      repeat rw [Option.bind_some]
      rw [if_pos rfl, r_311_9 hXz, Option.bind_some, m_number_bad hgn, Option.bind_some]
      dsimp only
      rw [show ast U (si (rerr (rpos R (s + gSl 5)) (-2) s) 311 14 y) 314 (0 : Int32) 0 = some (si (si (rerr (rpos R (s + gSl 5)) (-2) s) 311 14 y) 314 0 0) from t314 (j := 0) hXz (by omega)]
      exact jM_end (syn _ (fz_si (fz_si (fz_si (fz_si (rE_F (hE 5)) (Or.inr ⟨rfl, by omega⟩)) (Or.inr ⟨rfl, by omega⟩)) (Or.inr ⟨rfl, by omega⟩)) (Or.inl rfl)) (by rw [gi_si, if_neg (by omega)]; exact hge) (by rw [gi_si, if_neg (by omega), gi_si, if_neg (by omega), gi_si, if_pos ⟨rfl, rfl⟩]))
  rw [cn 5 (by decide) w5, Option.bind_some, if_pos rfl, tn 5 (by decide) w5, Option.bind_some]
  dsimp only
  rw [if_pos rfl]
  by_cases w6 : isKw B n s 6
  · rw [cw 6 (by decide) w6, tw 6 (by decide) w6]
    simp only [Option.bind_some]
    rw [if_neg one, if_neg one, a4]
    have hXk := gFx_fz hXR (hE 6)
    by_cases eb : b = 0
    · subst eb
      obtain ⟨b1, b2, b3, b4⟩ : 0 = 0 ∧ gi M 2 5 = 1 ∧ gi M 36 0 = -1 ∧ gi R 314 5 = 0 := by
        rcases a7 with q | q
        · exact q
        · exact absurd q.1 (by decide)
      have hXs : gFx U (si (rpos R (s + gSl 6)) 311 14 (nI (a + 2))) := gFx_gr hXk (fun _ _ => rfl)
      rw [if_neg (show ¬ ¬ (nI 0 = (0 : Int32)) from fun q => q rfl), m_onceN (c := a + 2 * 0) (c' := a + 2) (h14 6) (bits_1 a a1).1 (bits_1 a a1).2.1, Option.bind_some, r_311_9 hXs, Option.bind_some, show ast U (si (rpos R (s + gSl 6)) 311 14 (nI (a + 2))) 314 (4 : Int32) 1 = some (si (si (rpos R (s + gSl 6)) 311 14 (nI (a + 2))) 314 4 1) from t314 (j := 4) hXs (by omega), Option.bind_some]
      have hw := j_weight (p := p) (a := a) (hHH 6 (by decide) w6) (hDD 6) a1 a3 (h14 6) (by rw [gi_si, if_neg (by omega)]; exact a6) (by rw [gi_si, if_neg (by omega)]; exact b4) (ew 6 (by decide) w6).2
      obtain ⟨M1, R1, z1, z2, z3, z4⟩ := jM_chk hw
      exact jM_end ⟨M1, R1, z1, z2, fz_trans (rE_F (hE 6)) z3, z4⟩
    · have eb1 : b = 1 := by omega
      subst eb1
      obtain ⟨y, hy⟩ := m_onceY (U := U) (s := s) (i1 := 1) (h14 6) (bits_1 a a1).2.2 (hgk 6)
      have hXz : gFx U (si (rerr (rpos R (s + gSl 6)) (-2) s) 311 14 y) := gFx_gr hXk (fun _ _ => rfl)
      have hge : gi (si (si (rerr (rpos R (s + gSl 6)) (-2) s) 311 14 y) 314 4 1) 311 5 = -2 := by rw [gi_si, if_neg (by omega), gi_si, if_neg (by omega), gi_si, if_neg (by omega), gi_si, if_pos ⟨rfl, rfl⟩]
      have hgn : gi (si (si (rerr (rpos R (s + gSl 6)) (-2) s) 311 14 y) 314 4 1) 311 5 ≠ 0 := by rw [hge]; decide
      rw [if_pos (show ¬ (nI 1 = (0 : Int32)) by decide), hy, Option.bind_some, r_311_9 hXz, Option.bind_some, show ast U (si (rerr (rpos R (s + gSl 6)) (-2) s) 311 14 y) 314 (4 : Int32) 1 = some (si (si (rerr (rpos R (s + gSl 6)) (-2) s) 311 14 y) 314 4 1) from t314 (j := 4) hXz (by omega), Option.bind_some, show f_X9_sum_c U (si (si (rerr (rpos R (s + gSl 6)) (-2) s) 311 14 y) 314 4 1) 311 = some (si (si (rerr (rpos R (s + gSl 6)) (-2) s) 311 14 y) 314 4 1) from m_sumc_bad hgn]
      exact jM_end (syn _ (fz_si (fz_si (fz_si (fz_si (rE_F (hE 6)) (Or.inr ⟨rfl, by omega⟩)) (Or.inr ⟨rfl, by omega⟩)) (Or.inr ⟨rfl, by omega⟩)) (Or.inl rfl)) hge (by rw [gi_si, if_neg (by omega), gi_si, if_neg (by omega), gi_si, if_pos ⟨rfl, rfl⟩]))
  rw [cn 6 (by decide) w6, Option.bind_some, if_pos rfl, tn 6 (by decide) w6, Option.bind_some]
  dsimp only
  rw [if_pos rfl]
  rw [m_report hgp]
  exact jM_end (syn _ (fz_si (fz_si (rE_F hEp) (Or.inr ⟨rfl, by omega⟩)) (Or.inr ⟨rfl, by omega⟩)) (by rw [gi_si, if_neg (by omega), gi_si, if_pos ⟨rfl, rfl⟩]) (by rw [gi_si, if_pos ⟨rfl, rfl⟩]))
end PJZ
