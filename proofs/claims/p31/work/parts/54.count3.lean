/-! THE CLASS COUNTS: all together -/
def gElN (M0 N : gM) (W : Nat → Nat) (n : Nat) : Prop := gi N 68 n = nI (cntN (fun i => decide (vCd M0 37 i n)) (dNl M0 37)) ∧ gi N 69 n = vWin W M0 37 n ∧ gi N 70 n = vMar W M0 37 n ∧ ∀ i, i < dNl M0 37 → gi N 71 (12 * i + n) = vVt M0 37 i n ∧ gi N 72 (12 * i + n) = vSp W M0 37 i n ∧ gi N 73 (12 * i + n) = vBd W M0 37 i n
def gEl (M : gM) (k : Nat → Nat × Nat) (m : Nat) : Prop := eWt M M (vW M 37 k m) ∧ ∀ n, n < dNn M 37 → gElN M M (vW M 37 k m) n
section PCA
variable {T : gT} {M M0 N : gM} {k : Nat → Nat × Nat} {m n : Nat} {W : Nat → Nat}
theorem p_cN [gW0] (hWl : ∀ i, W i ≤ 9999) (h : gCls T M0 k m) (hF0 : fr (fun b _ => eA b) M0 M) (hn : n < dNn M0 37) (hw : eWt M0 M W) : ∃ N, ((f_X1_countCandidates T M 66 37 (nI n)).bind fun x3 => (f_X1_countVotes T x3 66 37 (nI n)).bind fun x4 => (f_X1_countWinner T x4 66 37 (nI n)).bind fun x5 => (f_X1_countMargin T x5 66 37 (nI n)).bind fun x6 => (f_X1_countBindings T x6 66 37 (nI n)).bind fun x7 => some (Sum.inr (α := gM) (nI n + (1 : Int32), x7))) = some (Sum.inr (nI n + (1 : Int32), N)) ∧ fr (fun b j => (68 ≤ b ∧ b ≤ 70 ∧ j = n) ∨ (71 ≤ b ∧ b ≤ 73 ∧ j % 12 = n)) M N ∧ gElN M0 N W n := by
  have h8 := h.2.1.2.1
  have h12 := h.2.1.2.2.1
  obtain ⟨N1, a1, a2, a3, a4⟩ := p_cC h hF0 hn
  obtain ⟨f1, -, -⟩ := eC h hF0 a2 (fun b j q => eA_lo (by omega))
  obtain ⟨N2, b1, b2, b3⟩ := p_cV hWl h f1 hn (fun j hj => by
    rw [a2.2.2 67 j (fun q => by omega)]
    exact hw j hj) a4
  obtain ⟨f2, -, -⟩ := eC h f1 b2 (fun b j q => eA_lo (by omega))
  obtain ⟨N3, c1, c2, c3⟩ := p_cWin hWl h f2 hn (fun i hi => (b3 i hi).2)
  obtain ⟨f3, -, -⟩ := eC h f2 c2 (fun b j q => eA_lo (by omega))
  have s3 : eSp M0 N3 W n := fun i hi => by
    rw [c2.2.2 72 _ (fun q => by omega)]
    exact (b3 i hi).2
  obtain ⟨N4, d1, d2, d3⟩ := p_cMar hWl h f3 hn s3 c3
  obtain ⟨f4, -, -⟩ := eC h f3 d2 (fun b j q => eA_lo (by omega))
  have s4 : eSp M0 N4 W n := fun i hi => by
    rw [d2.2.2 72 _ (fun q => by omega)]
    exact s3 i hi
  have v4 : ∀ i, i < dNl M0 37 → gi N4 71 (12 * i + n) = vVt M0 37 i n := fun i hi => by
    rw [d2.2.2 71 _ (fun q => by omega), c2.2.2 71 _ (fun q => by omega)]
    exact (b3 i hi).1
  have w4 : gi N4 69 n = vWin W M0 37 n := by
    rw [d2.2.2 69 _ (fun q => by omega)]
    exact c3
  obtain ⟨N5, e1, e2, e3⟩ := p_cBd hWl h f4 hn s4 v4 w4
  rw [a1, Option.bind_some, b1, Option.bind_some, c1, Option.bind_some, d1, Option.bind_some, e1, Option.bind_some]
  refine ⟨N5, rfl, fr_trans (fr_mono a2 (fun b j q => by omega)) (fr_trans (fr_mono b2 (fun b j q => by omega)) (fr_trans (fr_mono c2 (fun b j q => by omega)) (fr_trans (fr_mono d2 (fun b j q => by omega)) (fr_mono e2 (fun b j q => by omega))))), ?_, ?_, ?_, fun i hi => ⟨?_, ?_, e3 i hi⟩⟩
  · rw [e2.2.2 68 _ (fun q => by omega), d2.2.2 68 _ (fun q => by omega), c2.2.2 68 _ (fun q => by omega), b2.2.2 68 _ (fun q => by omega)]
    exact a3
  · rw [e2.2.2 69 _ (fun q => by omega)]
    exact w4
  · rw [e2.2.2 70 _ (fun q => by omega)]
    exact d3
  · rw [e2.2.2 71 _ (fun q => by omega)]
    exact v4 i hi
  · rw [e2.2.2 72 _ (fun q => by omega)]
    exact s4 i hi
theorem gElN_fr {n' : Nat} (hn : n < 12) (hne : n ≠ n') (hF : fr (fun b j => (68 ≤ b ∧ b ≤ 70 ∧ j = n') ∨ (71 ≤ b ∧ b ≤ 73 ∧ j % 12 = n')) M N) (h : gElN M0 M W n) : gElN M0 N W n := by
  obtain ⟨h1, h2, h3, h4⟩ := h
  refine ⟨by rw [hF.2.2 _ _ (fun q => by omega)]; exact h1, by rw [hF.2.2 _ _ (fun q => by omega)]; exact h2, by rw [hF.2.2 _ _ (fun q => by omega)]; exact h3, fun i hi => ?_⟩
  obtain ⟨g1, g2, g3⟩ := h4 i hi
  exact ⟨by rw [hF.2.2 _ _ (fun q => by omega)]; exact g1, by rw [hF.2.2 _ _ (fun q => by omega)]; exact g2, by rw [hF.2.2 _ _ (fun q => by omega)]; exact g3⟩
theorem gElN_same {W' : Nat → Nat} {A : gM} (hd : dSame N 37 M 37) (hV : gVal T M 37) (hn : n < 12) (hW : ∀ i, i < dNl M 37 → W' i = W i) (h : gElN M A W n) : gElN N A W' n := by
  have h8 := hV.2.1
  obtain ⟨h1, h2, h3, h4⟩ := h
  refine ⟨?_, by rw [vWin_same hd hV hn hW]; exact h2, by rw [vMar_same hd hV hn hW]; exact h3, fun i hi => ?_⟩
  · rw [h1, dNl_same hd]
    exact congrArg nI (cntN_ext (fun i hi => decide_eq_decide.mpr (by rw [vCd_same hd (show i < 8 by omega) hn])))
  · rw [dNl_same hd] at hi
    obtain ⟨g1, g2, g3⟩ := h4 i hi
    exact ⟨by rw [vVt_same hd hV hi hn]; exact g1, by rw [vSp_same hd hV hi hn hW]; exact g2, by rw [vBd_same hd hV hi hn hW]; exact g3⟩
theorem p_count [gW0] (h : gCls T M k m) : ∃ N, f_X1_count T M 66 37 = some N ∧ fr (fun b _ => (67 ≤ b ∧ b ≤ 73) ∨ gStk b) M N ∧ gCls T N k m ∧ gEl N k m := by
  have hV := h.2.1
  have h8 := h.2.1.2.1
  have h12 := h.2.1.2.2.1
  have hn2 := h.2.1.2.2.2.2.1
  have hS : ∀ b j : Nat, (fun (b _ : Nat) => (67 ≤ b ∧ b ≤ 73) ∨ gStk b) b j → eA b := fun b j q => q.elim (fun z => Or.inl (by omega)) Or.inr
  unfold f_X1_count
  obtain ⟨N1, a1, a2, a3⟩ := p_cW h
  have a3' : eWt M N1 (vW M 37 k m) := a3
  have g1 : fr (fun b _ => (67 ≤ b ∧ b ≤ 73) ∨ gStk b) M N1 := fr_mono a2 (fun b j q => q.elim (fun z => Or.inl (by omega)) Or.inr)
  have hL : ∃ N, gloop (fun x => f_X1_count_B45 T x.2 66 37 x.1) gFU ((0 : Int32), N1) = some N ∧ (fr (fun b _ => (67 ≤ b ∧ b ≤ 73) ∨ gStk b) M N ∧ eWt M N (vW M 37 k m) ∧ ∀ n, n < dNn M 37 → gElN M N (vW M 37 k m) n) := by
    refine gloop_ex (P := fun t y => y.1 = nI t ∧ t ≤ dNn M 37 ∧ fr (fun b _ => (67 ≤ b ∧ b ≤ 73) ∨ gStk b) M y.2 ∧ eWt M y.2 (vW M 37 k m) ∧ ∀ n, n < t → gElN M y.2 (vW M 37 k m) n) (fu := gFU) (dNn M 37) (Nat.lt_of_le_of_lt h12 (by decide)) ⟨rfl, Nat.zero_le _, g1, a3', fun j hj => absurd hj (Nat.not_lt_zero j)⟩ (fun t y _ hP => ?_)
    obtain ⟨y1, N⟩ := y
    obtain ⟨rfl, ht, hF, hw, hE⟩ := hP
    dsimp only at hF hw hE
    obtain ⟨hN, hd⟩ := gCls_fr h hF hS
    show (∃ e, f_X1_count_B45 T N 66 37 (nI t) = some (.inl e) ∧ _) ∨ _
    unfold f_X1_count_B45
    rw [show gi N 37 2 = nI (dNn M 37) from (hd.hd (Or.inr (Or.inl rfl))).trans hn2]
    by_cases e : t = dNn M 37
    · rw [if_pos (nI_le (by omega) (by omega))]
      subst e
      exact Or.inl ⟨N, rfl, hF, hw, hE⟩
    · have hlt : t < dNn M 37 := by omega
      obtain ⟨N', c1, c2, c3⟩ := p_cN (fun i => vW_le i) h (fr_mono hF hS) hlt hw
      rw [if_neg (nI_ge hlt (by omega)), c1, nI_1]
      refine Or.inr ⟨hlt, _, rfl, rfl, hlt, fr_trans hF (fr_mono c2 (fun b j q => Or.inl (by omega))), fun j hj => ?_, fun n hn => ?_⟩
      · show gi N' 67 j = _
        rw [c2.2.2 67 j (fun q => by omega)]
        exact hw j hj
      · by_cases en : n = t
        · rw [en]
          exact c3
        · exact gElN_fr (by omega) en c2 (hE n (by omega))
  obtain ⟨N, c1, c2, c3, c4⟩ := hL
  rw [a1, Option.bind_some, c1, Option.bind_some]
  obtain ⟨r, d⟩ := gCls_fr h c2 hS
  have hWs := vW_sameC h d
  refine ⟨N, rfl, c2, r, fun j hj => ?_, fun n hn => ?_⟩
  · rw [dNl_same d] at hj
    rw [c3 j hj, dRk_same d (by omega), hWs j hj]
  · rw [dNn_same d] at hn
    exact gElN_same d hV (by omega) hWs (c4 n hn)
end PCA
