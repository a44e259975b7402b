/-! THE CLASS COUNTS: weights, candidates, votes -/
section PCT
variable {T : gT} {M M0 : gM} {k : Nat → Nat × Nat} {m n : Nat}
theorem eA_lo [gW0] {b : Nat} (h : 67 ≤ b ∧ b ≤ 73) : eA b := Or.inl (by omega)
theorem p_cW [gW0] (h : gCls T M k m) : ∃ N, gloop (fun x => f_X1_count_B2 T x.2 66 37 x.1) gFU ((0 : Int32), M) = some N ∧ (fr (fun b _ => b = 67 ∨ gStk b) M N ∧ ∀ j, j < dNl M 37 → gi N 67 j = if dRk M 37 j = -1 then -1 else nI (vW M 37 k m j)) := by
  have h8 := h.2.1.2.1
  have hn1 := h.2.1.2.2.2.1
  refine gloop_ex (P := fun t y => y.1 = nI t ∧ t ≤ dNl M 37 ∧ fr (fun b _ => b = 67 ∨ gStk b) M y.2 ∧ ∀ j, j < t → gi y.2 67 j = if dRk M 37 j = -1 then -1 else nI (vW M 37 k m j)) (fu := gFU) (dNl M 37) (Nat.lt_of_le_of_lt h8 (by decide)) ⟨rfl, Nat.zero_le _, fr_refl, fun j hj => absurd hj (Nat.not_lt_zero j)⟩ (fun t y _ hP => ?_)
  obtain ⟨y1, N⟩ := y
  obtain ⟨rfl, ht, hF, hw⟩ := hP
  dsimp only at hF hw
  obtain ⟨hN, hd⟩ := gCls_fr h hF (fun b _ q => q.elim (fun e => Or.inl (by omega)) Or.inr)
  show (∃ e, f_X1_count_B2 T N 66 37 (nI t) = some (.inl e) ∧ _) ∨ _
  unfold f_X1_count_B2 f_X1_count_36
  rw [show gi N 37 1 = nI (dNl M 37) from (hd.hd (Or.inl rfl)).trans hn1]
  by_cases e : t = dNl M 37
  · rw [if_pos (nI_le (by omega) (by omega))]
    subst e
    exact Or.inl ⟨N, rfl, hF, hw⟩
  · have hlt : t < dNl M 37 := by omega
    rw [if_neg (nI_ge hlt (by omega)), r_66_0 hN.1, Option.bind_some, p_row1 hN.2.1.1, Option.bind_some, p_row2 hN.2.1.1 (by omega), Option.bind_some, p_isLoaded, Option.bind_some]
    have hr : gi N (37 + 5 + 3 * t) 2 = dRk M 37 t := dRk_same hd (by omega)
    rw [hr]
    by_cases hl : dRk M 37 t = -1
    · rw [if_pos hl, if_pos rfl, ast_ok (s_67 hN.1) (by omega) (by decide), Option.bind_some, nI_1]
      refine Or.inr ⟨hlt, _, rfl, rfl, hlt, fr_si hF (Or.inl rfl), fun j hj => ?_⟩
      show gi (si N 67 t (-1)) 67 j = _
      rw [gi_si]
      by_cases ej : j = t
      · rw [if_pos ⟨rfl, ej⟩, ej, if_pos hl]
      · rw [if_neg (fun q => ej q.2)]
        exact hw j (by omega)
    · obtain ⟨N', c1, c2⟩ := p_X0_weightOf hN.2.1 (show t < dNl N 37 by rw [dNl_same hd]; exact hlt) (show dRk N 37 t ≠ -1 by rw [dRk_same hd (by omega)]; exact hl) hN.2.2.2.1 hN.2.2.2.2.2.1 hN.2.2.2.2.2.2.1
      have e3 : wV k m (vQ N 37 t) = vW M 37 k m t := vW_sameC h hd t hlt
      have hF' : fr (fun b _ => b = 67 ∨ gStk b) M N' := fr_trans hF (fr_mono c2 (fun b _ q => Or.inr q))
      rw [if_neg hl, if_neg (by decide), c1, Option.bind_some, e3, ast_ok (s_67 hN.1) (by omega) (by decide), Option.bind_some, nI_1]
      refine Or.inr ⟨hlt, _, rfl, rfl, hlt, fr_si hF' (Or.inl rfl), fun j hj => ?_⟩
      show gi (si N' 67 t _) 67 j = _
      rw [gi_si]
      by_cases ej : j = t
      · rw [if_pos ⟨rfl, ej⟩, ej, if_neg hl]
      · rw [if_neg (fun q => ej q.2), c2.2.2 67 j (fun q => by have := gStk_no q; omega)]
        exact hw j (by omega)
theorem p_cC [gW0] (h : gCls T M0 k m) (hF0 : fr (fun b _ => eA b) M0 M) (hn : n < dNn M0 37) : ∃ N, f_X1_countCandidates T M 66 37 (nI n) = some N ∧ (fr (fun b j => (b = 68 ∧ j = n) ∨ (b = 72 ∧ j % 12 = n)) M N ∧ gi N 68 n = nI (cntN (fun i => decide (vCd M0 37 i n)) (dNl M0 37)) ∧ ∀ i, i < dNl M0 37 → gi N 72 (12 * i + n) = if vCd M0 37 i n then 0 else -1) := by
  have h8 := h.2.1.2.1
  have h12 := h.2.1.2.2.1
  have hn1 := h.2.1.2.2.2.1
  obtain ⟨hM, hdM⟩ := gCls_fr h hF0 (fun _ _ q => q)
  unfold f_X1_countCandidates
  rw [r_66_1 hM.1, Option.bind_some, ast_ok (s_68 hM.1) (by omega) (by decide), Option.bind_some]
  have hL : ∃ N, gloop (fun x => f_X1_countCandidates_B9 T x.2 66 37 (nI n) x.1) gFU ((0 : Int32), si M 68 n 0) = some N ∧ (fr (fun b j => (b = 68 ∧ j = n) ∨ (b = 72 ∧ j % 12 = n)) M N ∧ gi N 68 n = nI (cntN (fun i => decide (vCd M0 37 i n)) (dNl M0 37)) ∧ ∀ i, i < dNl M0 37 → gi N 72 (12 * i + n) = if vCd M0 37 i n then 0 else -1) := by
    refine gloop_ex (P := fun t y => y.1 = nI t ∧ t ≤ dNl M0 37 ∧ fr (fun b j => (b = 68 ∧ j = n) ∨ (b = 72 ∧ j % 12 = n)) M y.2 ∧ gi y.2 68 n = nI (cntN (fun i => decide (vCd M0 37 i n)) t) ∧ ∀ i, i < t → gi y.2 72 (12 * i + n) = if vCd M0 37 i n then 0 else -1) (fu := gFU) (dNl M0 37) (Nat.lt_of_le_of_lt h8 (by decide)) ⟨rfl, Nat.zero_le _, fr_si fr_refl (Or.inl ⟨rfl, rfl⟩), by show gi (si M 68 n 0) 68 n = _; rw [gi_si, if_pos ⟨rfl, rfl⟩]; rfl, fun j hj => absurd hj (Nat.not_lt_zero j)⟩ (fun t y _ hP => ?_)
    obtain ⟨y1, N⟩ := y
    obtain ⟨rfl, ht, hF, hc, hw⟩ := hP
    dsimp only at hF hc hw
    obtain ⟨-, hN, hd⟩ := eC h hF0 hF (fun b j q => eA_lo (by omega))
    show (∃ e, f_X1_countCandidates_B9 T N 66 37 (nI n) (nI t) = some (.inl e) ∧ _) ∨ _
    unfold f_X1_countCandidates_B9 f_X1_countCandidates_44 f_X1_countCandidates_60
    rw [show gi N 37 1 = nI (dNl M0 37) from (hd.hd (Or.inl rfl)).trans hn1]
    by_cases e : t = dNl M0 37
    · rw [if_pos (nI_le (by omega) (by omega))]
      subst e
      exact Or.inl ⟨N, rfl, hF, hc, hw⟩
    · have hlt : t < dNl M0 37 := by omega
      rw [if_neg (nI_ge hlt (by omega)), p_isCandidate hN.2.1.1 (by omega) (by omega), Option.bind_some, r_66_5 hN.1, Option.bind_some, p_cell, Option.bind_some, dRk_same hd (by omega), hd.off (by omega) (by omega)]
      by_cases hcd : dRk M0 37 t = -1 ∨ dOf M0 37 t n = -1
      · rw [if_pos hcd, if_pos rfl, ast_ok (s_72 hN.1) (by omega) (by decide), Option.bind_some, if_pos rfl, nI_1]
        refine Or.inr ⟨hlt, _, rfl, rfl, hlt, fr_si hF (Or.inr ⟨rfl, by omega⟩), ?_, fun j hj => ?_⟩
        · show gi (si N 72 _ _) 68 n = _
          rw [gi_si, if_neg (by omega), hc]
          simp only [cntN, vCd, decide_eq_false (p := ¬ (dRk M0 37 t = -1 ∨ dOf M0 37 t n = -1)) (fun q => q hcd)]
          rfl
        · show gi (si N 72 _ _) 72 _ = _
          rw [gi_si]
          by_cases ej : j = t
          · rw [if_pos ⟨rfl, by omega⟩, ej, if_neg (fun q => q hcd)]
          · rw [if_neg (by omega)]
            exact hw j (by omega)
      · rw [if_neg hcd, if_neg (by decide), ast_ok (s_72 hN.1) (by omega) (by decide), Option.bind_some, if_neg (by decide), r_66_1 (M := si N 72 (12 * t + n) 0) (gFx_gr hN.1 (fun _ _ => rfl)), Option.bind_some, ald_ok (s_68 hN.1) (by omega) (by decide), Option.bind_some, gi_si, if_neg (by omega), hc, ast_ok (s_68 hN.1) (by omega) (by decide), Option.bind_some, nI_1, nI_1]
        refine Or.inr ⟨hlt, _, rfl, rfl, hlt, fr_si (fr_si hF (Or.inr ⟨rfl, by omega⟩)) (Or.inl ⟨rfl, rfl⟩), ?_, fun j hj => ?_⟩
        · show gi (si (si N 72 _ _) 68 n _) 68 n = _
          rw [gi_si, if_pos ⟨rfl, rfl⟩]
          simp only [cntN, vCd, decide_eq_true (p := ¬ (dRk M0 37 t = -1 ∨ dOf M0 37 t n = -1)) hcd]
          rfl
        · show gi (si (si N 72 _ _) 68 n _) 72 _ = _
          rw [gi_si, if_neg (by omega), gi_si]
          by_cases ej : j = t
          · rw [if_pos ⟨rfl, by omega⟩, ej, if_pos hcd]
          · rw [if_neg (by omega)]
            exact hw j (by omega)
  obtain ⟨N, c1, c2⟩ := hL
  rw [c1, Option.bind_some]
  exact ⟨N, rfl, c2⟩
/-- the weights of the libraries stand in 67 -/
def eWt (M0 M : gM) (W : Nat → Nat) : Prop := ∀ j, j < dNl M0 37 → gi M 67 j = if dRk M0 37 j = -1 then -1 else nI (W j)
theorem p_cV [gW0] {W : Nat → Nat} (hWl : ∀ i, W i ≤ 9999) (h : gCls T M0 k m) (hF0 : fr (fun b _ => eA b) M0 M) (hn : n < dNn M0 37) (hw : eWt M0 M W) (hs : ∀ i, i < dNl M0 37 → gi M 72 (12 * i + n) = if vCd M0 37 i n then 0 else -1) : ∃ N, f_X1_countVotes T M 66 37 (nI n) = some N ∧ (fr (fun b j => (b = 71 ∨ b = 72) ∧ j % 12 = n) M N ∧ ∀ i, i < dNl M0 37 → gi N 71 (12 * i + n) = vVt M0 37 i n ∧ gi N 72 (12 * i + n) = vSp W M0 37 i n) := by
  have hV := h.2.1
  have h8 := h.2.1.2.1
  have h12 := h.2.1.2.2.1
  have hn1 := h.2.1.2.2.2.1
  unfold f_X1_countVotes
  have hL : ∃ N, gloop (fun x => f_X1_countVotes_B2 T x.2 66 37 (nI n) x.1) gFU ((0 : Int32), M) = some N ∧ (fr (fun b j => (b = 71 ∨ b = 72) ∧ j % 12 = n) M N ∧ ∀ i, i < dNl M0 37 → gi N 71 (12 * i + n) = vVt M0 37 i n ∧ gi N 72 (12 * i + n) = vSp W M0 37 i n) := by
    refine gloop_ex (P := fun t y => y.1 = nI t ∧ t ≤ dNl M0 37 ∧ fr (fun b j => (b = 71 ∨ b = 72) ∧ j % 12 = n) M y.2 ∧ (∀ i, i < t → gi y.2 71 (12 * i + n) = vVt M0 37 i n) ∧ ∀ i, i < dNl M0 37 → gi y.2 72 (12 * i + n) = if vCd M0 37 i n then nI (vSup W M0 37 n i t) else -1) (fu := gFU) (dNl M0 37) (Nat.lt_of_le_of_lt h8 (by decide)) ⟨rfl, Nat.zero_le _, fr_refl, fun j hj => absurd hj (Nat.not_lt_zero j), hs⟩ (fun t y _ hP => ?_)
    obtain ⟨y1, N⟩ := y
    obtain ⟨rfl, ht, hF, hv, hsp⟩ := hP
    dsimp only at hF hv hsp
    obtain ⟨-, hN, hd⟩ := eC h hF0 hF (fun b j q => eA_lo (by omega))
    show (∃ e, f_X1_countVotes_B2 T N 66 37 (nI n) (nI t) = some (.inl e) ∧ _) ∨ _
    unfold f_X1_countVotes_B2 f_X1_countVotes_56
    rw [show gi N 37 1 = nI (dNl M0 37) from (hd.hd (Or.inl rfl)).trans hn1]
    by_cases e : t = dNl M0 37
    · rw [if_pos (nI_le (by omega) (by omega))]
      subst e
      exact Or.inl ⟨N, rfl, hF, fun i hi => ⟨hv i hi, hsp i hi⟩⟩
    · have hlt : t < dNl M0 37 := by omega
      rw [if_neg (nI_ge hlt (by omega)), p_choiceOf hN.2.1 (show t < dNl N 37 by rw [dNl_same hd]; exact hlt) (show n < 12 by omega), Option.bind_some, r_66_4 hN.1, Option.bind_some, p_cell, Option.bind_some, vVt_same hd hV hlt (by omega), ast_ok (s_71 hN.1) (by omega) (by decide), Option.bind_some]
      by_cases hno : vVt M0 37 t n = -1
      · rw [if_pos hno, nI_1]
        refine Or.inr ⟨hlt, _, rfl, rfl, hlt, fr_si hF ⟨Or.inl rfl, by omega⟩, fun j hj => ?_, fun j hj => ?_⟩
        · show gi (si N 71 _ _) 71 _ = _
          rw [gi_si]
          by_cases ej : j = t
          · rw [if_pos ⟨rfl, by omega⟩, ej]
          · rw [if_neg (by omega)]
            exact hv j (by omega)
        · show gi (si N 71 _ _) 72 _ = _
          rw [gi_si, if_neg (by omega), hsp j hj]
          have e4 : vSup W M0 37 n j (t + 1) = vSup W M0 37 n j t := by
            show vSup W M0 37 n j t + (if vVt M0 37 t n = nI j then W t else 0) = _
            rw [if_neg (fun q => nI_nneg (v := j) (by omega) (show ((-1 : Int32)).toInt < 0 by decide) (q.symm.trans hno))]
            rfl
          rw [e4]
      · obtain ⟨c, hc, e1, e2⟩ := vVt_ok hV hlt hno
        have hldd : ¬ dRk M0 37 t = -1 := fun q => hno (by unfold vVt; rw [if_pos q])
        have hXN : gFx T (si N 71 (12 * t + n) (nI c)) := gFx_gr hN.1 (fun _ _ => rfl)
        have w1 : gi (si N 71 (12 * t + n) (nI c)) 67 t = nI (W t) := by
          rw [gi_si, if_neg (by omega), hF.2.2 67 t (by omega), hw t hlt, if_neg hldd]
        have w2 : gi (si N 71 (12 * t + n) (nI c)) 72 (12 * c + n) = nI (vSup W M0 37 n c t) := by
          rw [gi_si, if_neg (by omega), hsp c hc, if_pos e2]
        rw [if_neg hno, e1, r_66_5 hXN, Option.bind_some, p_cell, Option.bind_some, ald_ok (s_72 hN.1) (by omega) (by decide), Option.bind_some, r_66_0 hXN, Option.bind_some, ald_ok (s_67 hN.1) (by omega) (by decide), Option.bind_some, w1, w2, ast_ok (s_72 hN.1) (by omega) (by decide), Option.bind_some, nI_1, nI_add]
        refine Or.inr ⟨hlt, _, rfl, rfl, hlt, fr_si (fr_si hF ⟨Or.inl rfl, by omega⟩) ⟨Or.inr rfl, by omega⟩, fun j hj => ?_, fun j hj => ?_⟩
        · show gi (si (si N 71 _ _) 72 _ _) 71 _ = _
          rw [gi_si, if_neg (by omega), gi_si]
          by_cases ej : j = t
          · rw [if_pos ⟨rfl, by omega⟩, ej, e1]
          · rw [if_neg (by omega)]
            exact hv j (by omega)
        · show gi (si (si N 71 _ _) 72 _ _) 72 _ = _
          have e4 : vSup W M0 37 n j (t + 1) = vSup W M0 37 n j t + (if vVt M0 37 t n = nI j then W t else 0) := rfl
          rw [gi_si, e4, e1]
          by_cases ej : j = c
          · rw [if_pos ⟨rfl, by omega⟩, ej, if_pos e2, if_pos rfl]
          · rw [if_neg (by omega), gi_si, if_neg (by omega), hsp j hj, if_neg (show ¬ nI c = nI j from fun q => ej ((nI_eq (by omega) (by omega)).mp q).symm)]
            rfl
  obtain ⟨N, c1, c2⟩ := hL
  rw [c1, Option.bind_some]
  exact ⟨N, rfl, c2⟩
end PCT
