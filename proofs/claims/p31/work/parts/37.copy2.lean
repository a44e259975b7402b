/-- the places of data at D, its weight left out -/
def dIn (D b j : Nat) : Prop := (b = D ∧ (j = 1 ∨ j = 2 ∨ j = 3)) ∨ ∃ i, i < 8 ∧ lIn (D + 5 + 3 * i) b j
theorem lIn_rng {L b j : Nat} (h : lIn L b j) : L ≤ b ∧ b ≤ L + 2 := by
  unfold lIn at h
  omega
theorem p_X0_copyFrom {T : gT} {M : gM} {D D' w m : Nat} (hne : D + 28 < D' ∨ D' + 28 < D) (hD : gDat T M D) (hD' : gDat T M D') (hw : gr M D' 4 = some w) (hTw : T[w]? = some (7, m)) (hk : ∀ i, i < 8 → dKp M D' i = 0 ∨ dKp M D' i = 1) :
    ∃ M', f_X0_copyFrom T M D D' = some M' ∧ (∀ b j, ¬ (b = D ∧ j = 4) → gr M' b j = gr M b j) ∧ gr M' D 4 = some w ∧ (∀ b j, gl M' b j = gl M b j) ∧ (∀ b j, dIn D b j → gi M' b j = gi M (b - D + D') j) ∧ ∀ b j, ¬ dIn D b j → gi M' b j = gi M b j := by
  have n0 : ¬ D' = D := by omega
  unfold f_X0_copyFrom
  generalize hM1 : si (si (si M D 1 (gi M D' 1)) D 2 (gi (si M D 1 (gi M D' 1)) D' 2)) D 3 (gi (si (si M D 1 (gi M D' 1)) D 2 (gi (si M D 1 (gi M D' 1)) D' 2)) D' 3) = M1
  have g1 : ∀ b j, gr M1 b j = gr M b j := fun b j => by rw [← hM1]; rfl
  have l1 : ∀ b j, gl M1 b j = gl M b j := fun b j => by rw [← hM1]; rfl
  have i1 : ∀ b j, gi M1 b j = if b = D ∧ (j = 1 ∨ j = 2 ∨ j = 3) then gi M D' j else gi M b j := fun b j => by
    rw [← hM1]
    simp only [gi_si, if_neg (fun q : D' = D ∧ _ => n0 q.1)]
    by_cases hb : b = D
    · subst hb
      by_cases j3 : j = 3
      · subst j3; simp
      · by_cases j2 : j = 2
        · subst j2; simp
        · by_cases j1 : j = 1
          · subst j1; simp
          · simp [j1, j2, j3]
    · simp [hb]
  rw [ldr_ok ((g1 _ _).trans hw) hTw, Option.bind_some]
  have g2 : ∀ b j, ¬ (b = D ∧ j = 4) → gr (sr M1 D 4 (some w)) b j = gr M b j := fun b j h => by rw [gr_sr, if_neg h]; exact g1 b j
  have hL : ∃ e, gloop (fun x => f_X0_copyFrom_B34 T x.2 D D' x.1) gFU ((0 : Int32), sr M1 D 4 (some w)) = some e ∧ ((∀ b j, gr e b j = gr (sr M1 D 4 (some w)) b j) ∧ (∀ b j, gl e b j = gl M b j) ∧ (∀ i, i < 8 → ∀ b j, lIn (D + 5 + 3 * i) b j → gi e b j = gi M (b - D + D') j) ∧ ∀ b j, (∀ i, i < 8 → ¬ lIn (D + 5 + 3 * i) b j) → gi e b j = gi M1 b j) := by
    refine gloop_ex (P := fun k y => y.1 = nI k ∧ k ≤ 8 ∧ (∀ b j, gr y.2 b j = gr (sr M1 D 4 (some w)) b j) ∧ (∀ b j, gl y.2 b j = gl M b j) ∧ (∀ i, i < k → ∀ b j, lIn (D + 5 + 3 * i) b j → gi y.2 b j = gi M (b - D + D') j) ∧ ∀ b j, (∀ i, i < k → ¬ lIn (D + 5 + 3 * i) b j) → gi y.2 b j = gi M1 b j) (fu := gFU) 8 (by decide) ⟨rfl, Nat.zero_le _, fun _ _ => rfl, fun b j => l1 b j, fun i hi => absurd hi (Nat.not_lt_zero i), fun b j _ => rfl⟩ (fun k y hk9 hP => ?_)
    obtain ⟨y1, N⟩ := y
    obtain ⟨rfl, hk8, hg, hl, hin, hout⟩ := hP
    dsimp only at hg hl hin hout
    show (∃ e, f_X0_copyFrom_B34 T N D D' (nI k) = some (.inl e) ∧ _) ∨ _
    unfold f_X0_copyFrom_B34
    by_cases h8 : k = 8
    · subst h8
      rw [if_pos (show (8 : Int32) ≤ nI 8 from nI_le (Nat.le_refl 8) (by decide))]
      exact Or.inl ⟨N, rfl, hg, hl, hin, hout⟩
    · have hlt : k < 8 := by omega
      have gN : ∀ b j, ¬ (b = D ∧ j = 4) → gr N b j = gr M b j := fun b j h => (hg b j).trans (g2 b j h)
      have hDN : gDat T N D := ⟨hD.1, hD.2.1, (gN _ _ (by omega)).trans hD.2.2.1, fun i hi => ⟨(hD.2.2.2 i hi).1, (gN _ _ (by omega)).trans (hD.2.2.2 i hi).2.1, (gN _ _ (by omega)).trans (hD.2.2.2 i hi).2.2.1, (gN _ _ (by omega)).trans (hD.2.2.2 i hi).2.2.2⟩⟩
      have hDN' : gDat T N D' := ⟨hD'.1, hD'.2.1, (gN _ _ (by omega)).trans hD'.2.2.1, fun i hi => ⟨(hD'.2.2.2 i hi).1, (gN _ _ (by omega)).trans (hD'.2.2.2 i hi).2.1, (gN _ _ (by omega)).trans (hD'.2.2.2 i hi).2.2.1, (gN _ _ (by omega)).trans (hD'.2.2.2 i hi).2.2.2⟩⟩
      have hsrc : ∀ b j, D' < b → b < D' + 29 → gi N b j = gi M b j := fun b j h1 h2 => by
        rw [hout b j (fun i hi q => by have := lIn_rng q; omega), i1, if_neg (by omega)]
      rw [if_neg (show ¬ ((8 : Int32) ≤ nI k) from nI_ge hlt (by decide)), p_row1 hDN, Option.bind_some, p_row2 hDN hlt, Option.bind_some, p_row1 hDN', Option.bind_some, p_row2 hDN' hlt, Option.bind_some]
      obtain ⟨t1, t2, t3, t4⟩ := hDN.2.2.2 k hlt
      obtain ⟨t1', t2', t3', t4'⟩ := hDN'.2.2.2 k hlt
      obtain ⟨N', c1, c2, c3, c4, c5⟩ := p_X3_copyFrom (T := T) (M := N) (L := D + 5 + 3 * k) (L' := D' + 5 + 3 * k) (by omega) (by rw [show D + 5 + 3 * k + 1 = D + 6 + 3 * k by omega]; exact t1.2.1) (by rw [show D + 5 + 3 * k + 2 = D + 7 + 3 * k by omega]; exact t1.2.2) (by rw [show D' + 5 + 3 * k + 1 = D' + 6 + 3 * k by omega]; exact t1'.2.1) (by rw [show D' + 5 + 3 * k + 2 = D' + 7 + 3 * k by omega]; exact t1'.2.2) (by rw [show D + 5 + 3 * k + 1 = D + 6 + 3 * k by omega]; exact t3) (by rw [show D + 5 + 3 * k + 2 = D + 7 + 3 * k by omega]; exact t4) (by rw [show D' + 5 + 3 * k + 1 = D' + 6 + 3 * k by omega]; exact t3') (by rw [show D' + 5 + 3 * k + 2 = D' + 7 + 3 * k by omega]; exact t4') (by rw [hsrc _ _ (by omega) (by omega)]; exact hk k hlt)
      rw [c1, Option.bind_some, nI_1]
      refine Or.inr ⟨hlt, _, rfl, rfl, by omega, fun b j => (c2 b j).trans (hg b j), fun b j => (c3 b j).trans (hl b j), fun i hi b j hb => ?_, fun b j hb => ?_⟩
      · show gi N' b j = _
        by_cases e : i = k
        · subst e
          have hr := lIn_rng hb
          rw [c4 b j hb, hsrc _ _ (by omega) (by omega), show b - (D + 5 + 3 * i) + (D' + 5 + 3 * i) = b - D + D' by omega]
        · rw [c5 b j (fun q => by have := lIn_rng q; have := lIn_rng hb; omega)]
          exact hin i (by omega) b j hb
      · show gi N' b j = _
        rw [c5 b j (hb k (by omega))]
        exact hout b j (fun i hi => hb i (by omega))
  obtain ⟨e, h1, h2, h3, h4, h5⟩ := hL
  rw [h1, Option.bind_some]
  refine ⟨e, rfl, fun b j h => (h2 b j).trans (g2 b j h), (h2 D 4).trans (by rw [gr_sr, if_pos ⟨rfl, rfl⟩]), h3, fun b j hb => ?_, fun b j hb => ?_⟩
  · rcases hb with ⟨rfl, hj⟩ | ⟨i, hi, hb⟩
    · rw [h5 b j (fun i hi q => by have := lIn_rng q; omega), i1, if_pos ⟨rfl, hj⟩, show b - b + D' = D' by omega]
    · exact h4 i hi b j hb
  · rw [h5 b j (fun i hi q => hb (Or.inr ⟨i, hi, q⟩)), i1, if_neg (fun q => hb (Or.inl q))]
