/-! THE REFERENCE LAYS: all together -/
def gLyN (D : Nat) (M0 N : gM) (W : Nat → Nat) (n : Nat) : Prop := gi N 329 n = vWin W M0 D n ∧ ∀ i, i < dNl M0 D → gi N (331 + i) n = nI (vSup W M0 D n i (dNl M0 D)) ∧ gi N (340 + i) n = vBd W M0 D i n
section PLB
variable {T : gT} {M M0 N : gM} {D : Nat} {k : Nat → Nat × Nat} {m n : Nat} {W : Nat → Nat}
theorem p_layName (hWl : ∀ i, W i ≤ 9999) (h : gRel T M0 D k m) (hF0 : fr (fun b _ => eA b) M0 M) (hn : n < dNn M0 D) (hw : eWr D M0 M W) (hr : eRk D M0 M) : ∃ N, f_X9_layName T M 311 (nI n) = some N ∧ fr (fun b j => (329 ≤ b ∧ b < 348) ∧ j = n) M N ∧ gLyN D M0 N W n := by
  have h8 := h.2.1.2.1
  have h12 := h.2.1.2.2.1
  unfold f_X9_layName
  obtain ⟨N1, a1, a2, a3⟩ := p_r7 h hF0 hn
  obtain ⟨f1, r1, d1⟩ := eU h hF0 a2 (fun b j q => eA_hi (by omega))
  obtain ⟨⟨e1, N2⟩, b1, b2, b3, b4⟩ := p_r37 h f1 hn (fun j hj => by
    rw [a2.2.2 327 j (fun q => by omega)]
    exact hw j hj) a3
  dsimp only at b1 b2 b3 b4
  subst b2
  obtain ⟨f2, r2, d2⟩ := eU h f1 b3 (fun b j q => eA_hi (by omega))
  have c1 := p_r104 (tt := nI (vTot W M0 D n (dNl M0 D))) hWl h f2 hn b4 (fun j hj => by
    rw [b3.2.2 328 j (fun q => by omega), a2.2.2 328 j (fun q => by omega)]
    exact hr j hj)
  have d3 : fr (fun b j => (329 ≤ b ∧ b < 348) ∧ j = n) N2 (si N2 329 n (vWin W M0 D n)) := fr_si fr_refl ⟨by omega, rfl⟩
  obtain ⟨f3, r3, -⟩ := eU h f2 d3 (fun b j q => eA_hi (by omega))
  obtain ⟨N4, g1, g2, g3⟩ := p_r202 (W := W) h f3 hn (fun i hi => by
    rw [gi_si, if_neg (by omega)]
    exact b4 i hi)
  rw [a1, Option.bind_some, b1, Option.bind_some, c1, Option.bind_some, r_311_21 r2.1, Option.bind_some, ast_ok (s_329 r2.1) (by omega) (by decide), Option.bind_some, g1, Option.bind_some]
  refine ⟨N4, rfl, fr_trans (fr_mono a2 (fun b j q => by omega)) (fr_trans (fr_mono b3 (fun b j q => by omega)) (fr_trans d3 (fr_mono g2 (fun b j q => by omega)))), ?_, fun i hi => ⟨?_, g3 i hi⟩⟩
  · rw [g2.2.2 329 _ (fun q => by omega), gi_si, if_pos ⟨rfl, rfl⟩]
  · rw [g2.2.2 _ _ (fun q => by omega), gi_si, if_neg (by omega)]
    exact b4 i hi
theorem gLyN_fr {n' : Nat} (hl : dNl M0 D ≤ 8) (hne : n ≠ n') (hF : fr (fun b j => (329 ≤ b ∧ b < 348) ∧ j = n') M N) (h : gLyN D M0 M W n) : gLyN D M0 N W n := by
  obtain ⟨h1, h2⟩ := h
  refine ⟨by rw [hF.2.2 _ _ (fun q => by omega)]; exact h1, fun i hi => ?_⟩
  obtain ⟨g1, g2⟩ := h2 i hi
  exact ⟨by rw [hF.2.2 _ _ (fun q => by omega)]; exact g1, by rw [hF.2.2 _ _ (fun q => by omega)]; exact g2⟩
theorem p_layAll (h : gRel T M D k m) : ∃ N, f_X9_layAll T M 311 = some N ∧ fr (fun b _ => 327 ≤ b ∧ b < 348) M N ∧ gRel T N D k m ∧ dSame N D M D ∧ ∀ n, n < dNn M D → gLyN D M N (vW M D k m) n := by
  have h8 := h.2.1.2.1
  have h12 := h.2.1.2.2.1
  unfold f_X9_layAll
  obtain ⟨N1, a1, a2, a3, a4⟩ := p_rW h
  have hL : ∃ N, gloop (fun x => f_X9_layAll_B42 T x.2 311 x.1) gFU ((0 : Int32), N1) = some N ∧ (fr (fun b _ => 327 ≤ b ∧ b < 348) M N ∧ ∀ n, n < dNn M D → gLyN D M N (vW M D k m) n) := by
    refine gloop_ex (P := fun t y => y.1 = nI t ∧ t ≤ dNn M D ∧ fr (fun b _ => 327 ≤ b ∧ b < 348) M y.2 ∧ eWr D M y.2 (vW M D k m) ∧ eRk D M y.2 ∧ ∀ n, n < t → gLyN D M y.2 (vW M D k m) n) (fu := gFU) (dNn M D) (Nat.lt_of_le_of_lt h12 (by decide)) ⟨rfl, Nat.zero_le _, fr_mono a2 (fun b j q => by omega), a3, a4, fun j hj => absurd hj (Nat.not_lt_zero j)⟩ (fun t y _ hP => ?_)
    obtain ⟨y1, N⟩ := y
    obtain ⟨rfl, ht, hF, hw, hr, hE⟩ := hP
    dsimp only at hF hw hr hE
    obtain ⟨hN, hd⟩ := gRel_fr h hF (fun b _ q => eA_hi (by omega))
    have hl := g313_2 hN
    rw [dNn_same hd] at hl
    show (∃ e, f_X9_layAll_B42 T N 311 (nI t) = some (.inl e) ∧ _) ∨ _
    unfold f_X9_layAll_B42
    rw [p_mdat (gMo_Fx hN.1), Option.bind_some, a313_2 hN.1, Option.bind_some, hl]
    by_cases e : t = dNn M D
    · rw [if_pos (nI_le (by omega) (by omega))]
      subst e
      exact Or.inl ⟨N, rfl, hF, hE⟩
    · have hlt : t < dNn M D := by omega
      obtain ⟨N', c1, c2, c3⟩ := p_layName (fun i => vW_le i) h (fr_mono hF (fun b _ q => eA_hi (by omega))) hlt hw hr
      rw [if_neg (nI_ge hlt (by omega)), c1, Option.bind_some, nI_1]
      refine Or.inr ⟨hlt, _, rfl, rfl, hlt, fr_trans hF (fr_mono c2 (fun b j q => by omega)), fun j hj => ?_, fun j hj => ?_, fun n hn => ?_⟩
      · show gi N' 327 j = _
        rw [c2.2.2 327 j (fun q => by omega)]
        exact hw j hj
      · show gi N' 328 j = _
        rw [c2.2.2 328 j (fun q => by omega)]
        exact hr j hj
      · by_cases en : n = t
        · rw [en]
          exact c3
        · exact gLyN_fr h8 en c2 (hE n (by omega))
  obtain ⟨N, c1, c2, c3⟩ := hL
  obtain ⟨hN, hd⟩ := gRel_fr h c2 (fun b _ q => eA_hi (by omega))
  rw [a1, Option.bind_some, c1, Option.bind_some]
  exact ⟨N, rfl, c2, hN, hd, c3⟩
end PLB
