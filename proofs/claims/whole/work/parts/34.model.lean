/-! THE REFERENCE'S DATA in the array B beside the class's Data at D -/
theorem nI_mul (a b : Nat) : nI a * nI b = nI (a * b) := (Int32.ofNat_mul a b).symm
theorem cntN_ext {c e : Nat → Bool} : ∀ {n : Nat}, (∀ k, k < n → c k = e k) → cntN c n = cntN e n
  | 0, _ => rfl
  | n + 1, h => by
    unfold cntN
    rw [cntN_ext (fun k hk => h k (by omega)), h n (by omega)]
theorem cntN_cut {c : Nat → Bool} {n : Nat} : ∀ {m : Nat}, n ≤ m → (∀ k, n ≤ k → k < m → c k = false) → cntN c m = cntN c n
  | 0, h, _ => by rw [show n = 0 by omega]
  | m + 1, h, hc => by
    by_cases e : n = m + 1
    · rw [e]
    · unfold cntN
      rw [cntN_cut (show n ≤ m by omega) (fun k h1 h2 => hc k h1 (by omega)), hc m (by omega) (by omega)]
      simp
      cases n <;> rfl
def gEq (M : gM) (D B : Nat) : Prop := gi M B 0 = gi M D 3 ∧ gi M B 1 = gi M D 1 ∧ gi M B 2 = gi M D 2 ∧ ∀ i, i < dNl M D → gi M B (6 + 24 * i) = dTr M D i ∧ gi M B (6 + 24 * i + 1) = dKp M D i ∧ gi M B (6 + 24 * i + 3) = dPn M D i ∧ (∀ k, k < dPk M D i → gi M B (6 + 24 * i + 4 + k) = dPr M D i k) ∧ (∀ n, n < 12 → gi M B (6 + 24 * i + 12 + n) = dOf M D i n) ∧ (gi M B (6 + 24 * i + 2) ≤ 0 ↔ dRk M D i = -1) ∧ (dRk M D i ≠ -1 → dRk M D i = nI (cntN (fun k => decide (dRk M D k ≠ -1 ∧ gi M B (6 + 24 * k + 2) < gi M B (6 + 24 * i + 2))) (dNl M D)))
def gMo (T : gT) (M : gM) : Prop := gr M 311 8 = some 313 ∧ T[313]? = some (11, 1498)
section PMO
variable {T : gT} {M : gM} {D i n : Nat}
theorem p_at : f_X9_at T M (nI i) = some (nI (6 + 24 * i)) := by
  unfold f_X9_at
  rw [show (24 : Int32) = nI 24 from rfl, show (6 : Int32) = nI 6 from rfl, nI_mul, nI_add]
theorem p_mald (hM : gMo T M) {k : Nat} (hk : k < 1498) : ald T M 313 (nI k) = some (gi M 313 k) := ald_ok hM.2 hk (by decide)
theorem p_mdat (hM : gMo T M) : ldr T M 311 8 11 = some 313 := ldr_ok hM.1 hM.2
theorem p_mLoaded (hM : gMo T M) (hE : gEq M D 313) (h8 : dNl M D ≤ 8) (hi : i < dNl M D) : f_X9_isLoaded T M 311 (nI i) = some (if dRk M D i = -1 then 0 else 1) := by
  unfold f_X9_isLoaded
  rw [p_mdat hM, Option.bind_some, p_at, Option.bind_some, show (2 : Int32) = nI 2 from rfl, nI_add, p_mald hM (by omega), Option.bind_some]
  by_cases h : gi M 313 (6 + 24 * i + 2) ≤ 0
  · rw [if_pos h, if_pos (((hE.2.2.2 i hi).2.2.2.2.2.1).mp h)]
  · rw [if_neg h, if_neg (fun q => h (((hE.2.2.2 i hi).2.2.2.2.2.1).mpr q))]
theorem p_mCand (hM : gMo T M) (hE : gEq M D 313) (h8 : dNl M D ≤ 8) (hi : i < dNl M D) (hn : n < 12) : f_X9_isCandidate T M 311 (nI i) (nI n) = some (if dRk M D i = -1 ∨ dOf M D i n = -1 then 0 else 1) := by
  unfold f_X9_isCandidate f_X9_isCandidate_30
  rw [p_mLoaded hM hE h8 hi, Option.bind_some]
  by_cases h1 : dRk M D i = -1
  · rw [if_pos h1, if_pos rfl, if_pos (Or.inl h1)]
  · rw [if_neg h1, if_neg (by decide), p_mdat hM, Option.bind_some, p_at, Option.bind_some, show (12 : Int32) = nI 12 from rfl, nI_add, nI_add, p_mald hM (by omega), Option.bind_some, (hE.2.2.2 i hi).2.2.2.2.1 n hn]
    by_cases h2 : dOf M D i n = -1
    · rw [if_pos h2, if_pos (Or.inr h2)]
    · rw [if_neg h2, if_neg (fun q => q.elim h1 h2)]
theorem p_mRank (hM : gMo T M) (hV : gVal T M D) (hE : gEq M D 313) (hi : i < dNl M D) : f_X9_rankOf T M 311 (nI i) = some (dRk M D i) := by
  obtain ⟨hD, h8, -, hn1, -, hL⟩ := hV
  unfold f_X9_rankOf
  rw [p_mLoaded hM hE h8 hi, Option.bind_some]
  by_cases h1 : dRk M D i = -1
  · rw [if_pos h1, if_neg (by decide), h1]
  · rw [if_neg h1, if_pos (by decide), (hE.2.2.2 i hi).2.2.2.2.2.2 h1]
    generalize hc : (fun k => decide (dRk M D k ≠ -1 ∧ gi M 313 (6 + 24 * k + 2) < gi M 313 (6 + 24 * i + 2))) = c
    have h := gloop_for (B := fun y => f_X9_rankOf_B14 T M 311 (nI i) y.1 y.2) (fu := gFU) (e := nI (cntN c (dNl M D))) (fun k => (nI (cntN c k), nI k)) (dNl M D) (Nat.lt_of_le_of_lt h8 (by decide)) (fun k hk => ?_) ?_
    · rw [show (((0 : Int32), (0 : Int32)) : Int32 × Int32) = (nI (cntN c 0), nI 0) from rfl, h]
      rfl
    · show f_X9_rankOf_B14 T M 311 (nI i) (nI (cntN c k)) (nI k) = some (.inr (nI (cntN c (k + 1)), nI (k + 1)))
      unfold f_X9_rankOf_B14 f_X9_rankOf_62 f_X9_rankOf_63
      rw [p_mdat hM, Option.bind_some, show (1 : Int32) = nI 1 from rfl, p_mald hM (by omega), Option.bind_some, hE.2.1, hn1, if_neg (nI_ge hk (by omega)), p_mLoaded hM hE h8 hk, Option.bind_some]
      by_cases h2 : dRk M D k = -1
      · have hck : c k = false := by rw [← hc]; simp [h2]
        rw [if_pos h2, if_pos rfl, show (0 : Int32) = nI 0 from rfl, nI_add, nI_add]
        simp [cntN, hck]
      · rw [if_neg h2, if_neg (by decide), Option.bind_some, p_at, Option.bind_some, show (2 : Int32) = nI 2 from rfl, nI_add, p_mald hM (by omega), Option.bind_some, Option.bind_some, p_at, Option.bind_some, nI_add, p_mald hM (by omega), Option.bind_some]
        by_cases h3 : gi M 313 (6 + 24 * i + 2) ≤ gi M 313 (6 + 24 * k + 2)
        · have hck : c k = false := by
            rw [← hc]
            exact decide_eq_false (fun q => absurd h3 (Int32.not_le.mpr q.2))
          rw [if_pos h3, show (0 : Int32) = nI 0 from rfl, nI_add, nI_add]
          simp [cntN, hck]
        · have hck : c k = true := by
            rw [← hc]
            exact decide_eq_true ⟨h2, Int32.not_le.mp h3⟩
          rw [if_neg h3, nI_add, nI_add]
          simp [cntN, hck]
    · show f_X9_rankOf_B14 T M 311 (nI i) (nI (cntN c (dNl M D))) (nI (dNl M D)) = _
      unfold f_X9_rankOf_B14
      rw [p_mdat hM, Option.bind_some, show (1 : Int32) = nI 1 from rfl, p_mald hM (by omega), Option.bind_some, hE.2.1, hn1, if_pos (nI_le (Nat.le_refl _) (by omega))]
theorem p_mOffers (hM : gMo T M) (hV : gVal T M D) (hE : gEq M D 313) (hi : i < dNl M D) : f_X9_offersOf T M 311 (nI i) = some (nI (cntN (fun n => decide (dOf M D i n ≠ -1)) 12)) := by
  obtain ⟨hD, h8, h12, -, hn2, hL⟩ := hV
  unfold f_X9_offersOf
  rw [cntN_cut (n := dNn M D) h12 (fun k h1 h2 => by
    have := (hL i hi).2.2.2.2.2 k h2
    rcases this with h | h
    · simp [h]
    · omega)]
  generalize hc : (fun n => decide (dOf M D i n ≠ -1)) = c
  have h := gloop_for (B := fun y => f_X9_offersOf_B4 T M 311 (nI i) y.1 y.2) (fu := gFU) (e := nI (cntN c (dNn M D))) (fun k => (nI (cntN c k), nI k)) (dNn M D) (Nat.lt_of_le_of_lt h12 (by decide)) (fun k hk => ?_) ?_
  · rw [show (((0 : Int32), (0 : Int32)) : Int32 × Int32) = (nI (cntN c 0), nI 0) from rfl, h]
    rfl
  · show f_X9_offersOf_B4 T M 311 (nI i) (nI (cntN c k)) (nI k) = some (.inr (nI (cntN c (k + 1)), nI (k + 1)))
    unfold f_X9_offersOf_B4 f_X9_offersOf_38
    rw [p_mdat hM, Option.bind_some, show (2 : Int32) = nI 2 from rfl, p_mald hM (by omega), Option.bind_some, hE.2.2.1, hn2, if_neg (nI_ge hk (by omega)), Option.bind_some, p_at, Option.bind_some, show (12 : Int32) = nI 12 from rfl, nI_add, nI_add, p_mald hM (by omega), Option.bind_some, (hE.2.2.2 i hi).2.2.2.2.1 k (by omega)]
    by_cases h3 : dOf M D i k = -1
    · have hck : c k = false := by rw [← hc]; simp [h3]
      rw [if_neg (fun q => q h3), show (0 : Int32) = nI 0 from rfl, show (1 : Int32) = nI 1 from rfl, nI_add, nI_add]
      simp [cntN, hck]
    · have hck : c k = true := by rw [← hc]; simp [h3]
      rw [if_pos h3, show (1 : Int32) = nI 1 from rfl, nI_add, nI_add]
      simp [cntN, hck]
  · show f_X9_offersOf_B4 T M 311 (nI i) (nI (cntN c (dNn M D))) (nI (dNn M D)) = _
    unfold f_X9_offersOf_B4
    rw [p_mdat hM, Option.bind_some, show (2 : Int32) = nI 2 from rfl, p_mald hM (by omega), Option.bind_some, hE.2.2.1, hn2, if_pos (nI_le (Nat.le_refl _) (by omega))]
end PMO
