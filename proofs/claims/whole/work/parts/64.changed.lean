/-! HOW MANY BINDINGS ARE OTHER ONES: both sides -/
/-- for one library; w: the bindings before -/
def vCh (W : Nat → Nat) (M : gM) (D : Nat) (w : Nat → Nat → Int32) (i n : Nat) : Nat := cntN (fun n => decide (dRk M D i ≠ -1 ∧ w i n ≠ vBd W M D i n)) n
section PCHG
variable {T : gT} {M M0 : gM} {D : Nat} {k : Nat → Nat × Nat} {m n a : Nat} {w : Nat → Nat → Int32}
theorem vCh_no {W : Nat → Nat} {i : Nat} (hl : dRk M D i = -1) : ∀ n, vCh W M D w i n = 0
  | 0 => rfl
  | n + 1 => by
    have := vCh_no (W := W) hl n
    unfold vCh at this ⊢
    rw [cntN, this, decide_eq_false (fun q => q.1 hl)]
    rfl
theorem vCh_le {W : Nat → Nat} {i n : Nat} : vCh W M D w i n ≤ n := cntN_le _ n
/-- the class: a library's bindings in 73 against those in 310 -/
theorem q_changed (h : gCls T M k m) (hE : gEl M k m) (hw : ∀ i, i < dNl M 37 → ∀ n, n < dNn M 37 → gi M 310 (12 * i + n) = w i n) (ha : a < dNl M 37) : f_X8_changedBindings T M 0 (nI a) = some (nI (vCh (vW M 37 k m) M 37 w a (dNn M 37))) := by
  have h8 := h.2.1.2.1
  have h12 := h.2.1.2.2.1
  have hn2 := h.2.1.2.2.2.2.1
  unfold f_X8_changedBindings
  rw [r_0_4 h.1, Option.bind_some, p_row1 h.2.1.1, Option.bind_some, p_row2 h.2.1.1 (by omega), Option.bind_some, p_isLoaded, Option.bind_some]
  by_cases hl : gi M (37 + 5 + 3 * a) 2 = -1
  · rw [if_pos hl, if_neg (fun q => q rfl), vCh_no hl]
    rfl
  · rw [if_neg hl, if_pos (by decide)]
    have hL := gloop_for (B := fun x => f_X8_changedBindings_B21 T M 0 (nI a) x.1 x.2) (fu := gFU) (e := nI (vCh (vW M 37 k m) M 37 w a (dNn M 37))) (fun t => (nI (vCh (vW M 37 k m) M 37 w a t), nI t)) (dNn M 37) (Nat.lt_of_le_of_lt h12 (by decide)) (fun t hlt => ?_) ?_
    · rw [show (((0 : Int32), (0 : Int32)) : Int32 × Int32) = (nI (vCh (vW M 37 k m) M 37 w a 0), nI 0) from rfl, hL, Option.bind_some]
    · show f_X8_changedBindings_B21 T M 0 (nI a) (nI (vCh (vW M 37 k m) M 37 w a t)) (nI t) = some (.inr (nI (vCh (vW M 37 k m) M 37 w a (t + 1)), nI (t + 1)))
      unfold f_X8_changedBindings_B21 f_X8_changedBindings_62
      rw [r_0_4 h.1, Option.bind_some, hn2, if_neg (nI_ge hlt (by omega)), p_cell, Option.bind_some, r_0_5 h.1, Option.bind_some, r_66_6 h.1, Option.bind_some, ald_ok (s_73 h.1) (by omega) (by decide), Option.bind_some, r_0_8 h.1, Option.bind_some, ald_ok (s_310 h.1) (by omega) (by decide), Option.bind_some, ((hE.2 t hlt).2.2.2 a ha).2.2, hw a ha t hlt, nI_1]
      by_cases hb : w a t = vBd (vW M 37 k m) M 37 a t
      · have e : vCh (vW M 37 k m) M 37 w a (t + 1) = vCh (vW M 37 k m) M 37 w a t := by
          unfold vCh
          rw [cntN, decide_eq_false (fun q => q.2 hb)]
          rfl
        rw [if_pos hb.symm, e]
      · have e : vCh (vW M 37 k m) M 37 w a (t + 1) = vCh (vW M 37 k m) M 37 w a t + 1 := by
          unfold vCh
          rw [cntN, decide_eq_true (And.intro hl hb)]
          rfl
        rw [if_neg (fun q => hb q.symm), nI_1, e]
    · show f_X8_changedBindings_B21 T M 0 (nI a) _ (nI (dNn M 37)) = _
      unfold f_X8_changedBindings_B21
      rw [r_0_4 h.1, Option.bind_some, hn2, if_pos (nI_le (Nat.le_refl _) (by omega))]
theorem q_changedAll (h : gCls T M k m) (hE : gEl M k m) (hw : ∀ i, i < dNl M 37 → ∀ n, n < dNn M 37 → gi M 310 (12 * i + n) = w i n) : f_X8_changedBindingsOfAll T M 0 = some (nI (sumN (fun i => vCh (vW M 37 k m) M 37 w i (dNn M 37)) (dNl M 37))) := by
  have h8 := h.2.1.2.1
  have hn1 := h.2.1.2.2.2.1
  unfold f_X8_changedBindingsOfAll
  have hL := gloop_for (B := fun x => f_X8_changedBindingsOfAll_B4 T M 0 x.1 x.2) (fu := gFU) (e := nI (sumN (fun i => vCh (vW M 37 k m) M 37 w i (dNn M 37)) (dNl M 37))) (fun t => (nI (sumN (fun i => vCh (vW M 37 k m) M 37 w i (dNn M 37)) t), nI t)) (dNl M 37) (Nat.lt_of_le_of_lt h8 (by decide)) (fun t hlt => ?_) ?_
  · rw [show (((0 : Int32), (0 : Int32)) : Int32 × Int32) = (nI (sumN (fun i => vCh (vW M 37 k m) M 37 w i (dNn M 37)) 0), nI 0) from rfl, hL, Option.bind_some]
  · show f_X8_changedBindingsOfAll_B4 T M 0 _ (nI t) = some (.inr (_, nI (t + 1)))
    unfold f_X8_changedBindingsOfAll_B4
    rw [r_0_4 h.1, Option.bind_some, hn1, if_neg (nI_ge hlt (by omega)), q_changed h hE hw hlt, Option.bind_some, nI_1, nI_add]
    rfl
  · show f_X8_changedBindingsOfAll_B4 T M 0 _ (nI (dNl M 37)) = _
    unfold f_X8_changedBindingsOfAll_B4
    rw [r_0_4 h.1, Option.bind_some, hn1, if_pos (nI_le (Nat.le_refl _) (by omega))]
/-- the reference keeps the bindings -/
theorem m_keep (h : gRel T M D k m) : ∃ N, f_X9_keepBindings T M 311 = some N ∧ fr (fun b _ => 327 ≤ b ∧ b < 357) M N ∧ ∀ i, i < dNl M D → ∀ n, n < dNn M D → gi N (349 + i) n = vBd (vW M D k m) M D i n := by
  have h8 := h.2.1.2.1
  have h12 := h.2.1.2.2.1
  unfold f_X9_keepBindings
  obtain ⟨N0, c1, c2, c3, c4, c5⟩ := p_layAll h
  rw [c1, Option.bind_some]
  have hL : ∃ N, gloop (fun x => f_X9_keepBindings_B6 T x.2 311 x.1) gFU ((0 : Int32), N0) = some N ∧ (fr (fun b _ => 349 ≤ b ∧ b < 357) N0 N ∧ ∀ i, i < dNl M D → ∀ n, n < dNn M D → gi N (349 + i) n = vBd (vW M D k m) M D i n) := by
    refine gloop_ex (P := fun t y => y.1 = nI t ∧ t ≤ dNl M D ∧ fr (fun b _ => 349 ≤ b ∧ b < 357) N0 y.2 ∧ ∀ i, i < t → ∀ n, n < dNn M D → gi y.2 (349 + i) n = vBd (vW M D k m) M D i n) (fu := gFU) (dNl M D) (Nat.lt_of_le_of_lt h8 (by decide)) ⟨rfl, Nat.zero_le _, fr_refl, fun j hj => absurd hj (Nat.not_lt_zero j)⟩ (fun t y _ hP => ?_)
    obtain ⟨y1, N⟩ := y
    obtain ⟨rfl, ht, hF, hb⟩ := hP
    dsimp only at hF hb
    obtain ⟨hN, hd0⟩ := gRel_fr c3 hF (fun b _ q => Or.inl (by omega))
    have hl := g313_1 hN
    rw [dNl_same hd0, dNl_same c4] at hl
    have hl2 := g313_2 hN
    rw [dNn_same hd0, dNn_same c4] at hl2
    show (∃ e, f_X9_keepBindings_B6 T N 311 (nI t) = some (.inl e) ∧ _) ∨ _
    unfold f_X9_keepBindings_B6
    rw [p_mdat (gMo_Fx hN.1), Option.bind_some, a313_1 hN.1, Option.bind_some, hl]
    by_cases e : t = dNl M D
    · rw [if_pos (nI_le (by omega) (by omega))]
      subst e
      exact Or.inl ⟨N, rfl, hF, hb⟩
    · have hlt : t < dNl M D := by omega
      rw [if_neg (nI_ge hlt (by omega))]
      have hI : ∃ K, gloop (fun x => f_X9_keepBindings_B18 T x.2 311 (nI t) x.1) gFU ((0 : Int32), N) = some K ∧ (fr (fun b _ => b = 349 + t) N K ∧ ∀ n, n < dNn M D → gi K (349 + t) n = vBd (vW M D k m) M D t n) := by
        refine gloop_ex (P := fun s y => y.1 = nI s ∧ s ≤ dNn M D ∧ fr (fun b _ => b = 349 + t) N y.2 ∧ ∀ n, n < s → gi y.2 (349 + t) n = vBd (vW M D k m) M D t n) (fu := gFU) (dNn M D) (Nat.lt_of_le_of_lt h12 (by decide)) ⟨rfl, Nat.zero_le _, fr_refl, fun j hj => absurd hj (Nat.not_lt_zero j)⟩ (fun s y _ hP => ?_)
        obtain ⟨y1, K⟩ := y
        obtain ⟨rfl, hs, hFK, hbK⟩ := hP
        dsimp only at hFK hbK
        obtain ⟨hK, hdK⟩ := gRel_fr hN hFK (fun b _ q => Or.inl (by omega))
        have e2 : gi K 313 2 = nI (dNn M D) := by rw [hFK.2.2 313 2 (fun q => by omega)]; exact hl2
        show (∃ e, f_X9_keepBindings_B18 T K 311 (nI t) (nI s) = some (.inl e) ∧ _) ∨ _
        unfold f_X9_keepBindings_B18
        rw [p_mdat (gMo_Fx hK.1), Option.bind_some, a313_2 hK.1, Option.bind_some, e2]
        by_cases es : s = dNn M D
        · rw [if_pos (nI_le (by omega) (by omega))]
          subst es
          exact Or.inl ⟨K, rfl, hFK, hbK⟩
        · have hsl : s < dNn M D := by omega
          rw [if_neg (nI_ge hsl (by omega)), r_311_24 hK.1, Option.bind_some, w_wer hK.1 (by omega), Option.bind_some, r_311_23 hK.1, Option.bind_some, w_bin hK.1 (by omega), Option.bind_some, ald_ok (s_bin hK.1 (by omega)) (by omega) (by decide), Option.bind_some, ast_ok (s_wer hK.1 (by omega)) (by omega) (by decide), Option.bind_some, nI_1, hFK.2.2 (340 + t) s (fun q => by omega), hF.2.2 (340 + t) s (fun q => by omega), ((c5 s hsl).2 t hlt).2]
          refine Or.inr ⟨hsl, _, rfl, rfl, hsl, fr_si hFK rfl, fun n hn => ?_⟩
          show gi (si K (349 + t) s _) (349 + t) n = _
          rw [gi_si]
          by_cases en : n = s
          · rw [if_pos ⟨rfl, en⟩, en]
          · rw [if_neg (fun q => en q.2)]
            exact hbK n (by omega)
      obtain ⟨K, d1, d2, d3⟩ := hI
      rw [d1, Option.bind_some, nI_1]
      refine Or.inr ⟨hlt, _, rfl, rfl, hlt, fr_trans hF (fr_mono d2 (fun b j q => by omega)), fun i hi n hn => ?_⟩
      show gi K (349 + i) n = _
      by_cases ei : i = t
      · rw [ei]
        exact d3 n hn
      · rw [d2.2.2 (349 + i) n (fun q => by omega)]
        exact hb i (by omega) n hn
  obtain ⟨N, d1, d2, d3⟩ := hL
  rw [d1, Option.bind_some]
  exact ⟨N, rfl, fr_trans (fr_mono c2 (fun b j q => by omega)) (fr_mono d2 (fun b j q => by omega)), d3⟩
/-- .. and counts those that are other ones, but for one library -/
theorem m_changedBut (h : gRel T M D k m) {but : Int32} (hw : ∀ i, i < dNl M D → ∀ n, n < dNn M D → gi M (349 + i) n = w i n) : ∃ N, f_X9_changedBut T M 311 but = some (nI (sumN (fun i => if nI i = but then 0 else vCh (vW M D k m) M D w i (dNn M D)) (dNl M D)), N) ∧ fr (fun b _ => 327 ≤ b ∧ b < 348) M N := by
  have h8 := h.2.1.2.1
  have h12 := h.2.1.2.2.1
  unfold f_X9_changedBut
  obtain ⟨N, c1, c2, c3, c4, c5⟩ := p_layAll h
  have hl := g313_1 c3
  rw [dNl_same c4] at hl
  have hl2 := g313_2 c3
  rw [dNn_same c4] at hl2
  rw [c1, Option.bind_some]
  have hL := gloop_for (B := fun x => f_X9_changedBut_B8 T N 311 but x.1 x.2) (fu := gFU) (e := nI (sumN (fun i => if nI i = but then 0 else vCh (vW M D k m) M D w i (dNn M D)) (dNl M D))) (fun t => (nI (sumN (fun i => if nI i = but then 0 else vCh (vW M D k m) M D w i (dNn M D)) t), nI t)) (dNl M D) (Nat.lt_of_le_of_lt h8 (by decide)) (fun t hlt => ?_) ?_
  · rw [show (((0 : Int32), (0 : Int32)) : Int32 × Int32) = (nI (sumN (fun i => if nI i = but then 0 else vCh (vW M D k m) M D w i (dNn M D)) 0), nI 0) from rfl, hL, Option.bind_some]
    exact ⟨N, rfl, c2⟩
  · show f_X9_changedBut_B8 T N 311 but _ (nI t) = some (.inr (_, nI (t + 1)))
    unfold f_X9_changedBut_B8
    rw [p_mdat (gMo_Fx c3.1), Option.bind_some, a313_1 c3.1, Option.bind_some, hl, if_neg (nI_ge hlt (by omega)), nI_1]
    generalize hS : sumN (fun i => if nI i = but then 0 else vCh (vW M D k m) M D w i (dNn M D)) t = s0
    have hI := gloop_for (B := fun x => f_X9_changedBut_B21 T N 311 but x.1 (nI t) x.2) (fu := gFU) (e := nI (s0 + if nI t = but then 0 else vCh (vW M D k m) M D w t (dNn M D))) (fun s => (nI (s0 + if nI t = but then 0 else vCh (vW M D k m) M D w t s), nI s)) (dNn M D) (Nat.lt_of_le_of_lt h12 (by decide)) (fun s hs => ?_) ?_
    · have e0 : (s0 + if nI t = but then 0 else vCh (vW M D k m) M D w t 0) = s0 := by
        split <;> rfl
      rw [e0] at hI
      rw [show gloop (fun x => f_X9_changedBut_B21 T N 311 but x.1 (nI t) x.2) gFU (nI s0, (0 : Int32)) = _ from hI, Option.bind_some]
      show some (Sum.inr (_, _)) = some (Sum.inr (nI (sumN _ t + _), _))
      rw [hS]
    · show f_X9_changedBut_B21 T N 311 but (nI (s0 + if nI t = but then 0 else vCh (vW M D k m) M D w t s)) (nI t) (nI s) = some (.inr (nI (s0 + if nI t = but then 0 else vCh (vW M D k m) M D w t (s + 1)), nI (s + 1)))
      unfold f_X9_changedBut_B21 f_X9_changedBut_71 f_X9_changedBut_72
      rw [p_mdat (gMo_Fx c3.1), Option.bind_some, a313_2 c3.1, Option.bind_some, hl2, if_neg (nI_ge hs (by omega)), nI_1]
      by_cases hbt : nI t = but
      · rw [if_pos hbt, if_pos hbt, if_pos hbt, show (0 : Int32) = nI 0 from rfl, nI_add]
      · rw [if_neg hbt, if_neg hbt, if_neg hbt, p_mLoaded (gMo_Fx c3.1) c3.2.2.1 c3.2.1.2.1 (show t < dNl N D by rw [dNl_same c4]; exact hlt), Option.bind_some, dRk_same c4 (by omega)]
        by_cases hl3 : dRk M D t = -1
        · rw [if_pos hl3, if_pos rfl, vCh_no hl3, vCh_no hl3, show (0 : Int32) = nI 0 from rfl, nI_add]
        · rw [if_neg hl3, if_neg (by decide), r_311_24 c3.1, Option.bind_some, w_wer c3.1 (by omega), Option.bind_some, ald_ok (s_wer c3.1 (by omega)) (by omega) (by decide), Option.bind_some, r_311_23 c3.1, Option.bind_some, w_bin c3.1 (by omega), Option.bind_some, ald_ok (s_bin c3.1 (by omega)) (by omega) (by decide), Option.bind_some, ((c5 s hs).2 t hlt).2, c2.2.2 (349 + t) s (fun q => by omega), hw t hlt s hs]
          by_cases hb : w t s = vBd (vW M D k m) M D t s
          · have e : vCh (vW M D k m) M D w t (s + 1) = vCh (vW M D k m) M D w t s := by
              unfold vCh
              rw [cntN, decide_eq_false (fun q => q.2 hb)]
              rfl
            rw [if_pos hb, e, show (0 : Int32) = nI 0 from rfl, nI_add]
            rfl
          · have e : vCh (vW M D k m) M D w t (s + 1) = vCh (vW M D k m) M D w t s + 1 := by
              unfold vCh
              rw [cntN, decide_eq_true (And.intro hl3 hb)]
              rfl
            rw [if_neg hb, e, nI_1]
            rfl
    · show f_X9_changedBut_B21 T N 311 but _ (nI t) (nI (dNn M D)) = _
      unfold f_X9_changedBut_B21
      rw [p_mdat (gMo_Fx c3.1), Option.bind_some, a313_2 c3.1, Option.bind_some, hl2, if_pos (nI_le (Nat.le_refl _) (by omega))]
  · show f_X9_changedBut_B8 T N 311 but _ (nI (dNl M D)) = _
    unfold f_X9_changedBut_B8
    rw [p_mdat (gMo_Fx c3.1), Option.bind_some, a313_1 c3.1, Option.bind_some, hl, if_pos (nI_le (Nat.le_refl _) (by omega))]
end PCHG
