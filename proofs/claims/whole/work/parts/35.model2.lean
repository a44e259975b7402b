/-! THE REFERENCE: preferences, friends, votes -/
section PMP
variable {T : gT} {M : gM} {D i n : Nat}
theorem p_mPrefers (hM : gMo T M) (hV : gVal T M D) (hE : gEq M D 313) (hi : i < dNl M D) {x : Int32} : f_X9_prefers T M 311 313 (nI i) x = some (if anyN (fun k => decide (dPr M D i k = x)) (dPk M D i) then 1 else 0) := by
  obtain ⟨hD, h8, -, hn1, -, hL⟩ := hV
  obtain ⟨-, -, -, ⟨hp1, hp2⟩, -, -⟩ := hL i hi
  unfold f_X9_prefers
  have hLp : ∃ e, gloop (fun y => f_X9_prefers_B3 T M 313 (nI i) x y) gFU (0 : Int32) = some e ∧ e = if anyN (fun k => decide (dPr M D i k = x)) (dPk M D i) then 1 else 0 := by
    refine gloop_ex (P := fun k y => y = nI k ∧ k ≤ dPk M D i ∧ ∀ j, j < k → ¬ dPr M D i j = x) (Q := fun e => e = if anyN (fun k => decide (dPr M D i k = x)) (dPk M D i) then 1 else 0) (fu := gFU) (x := (0 : Int32)) (dPk M D i) (Nat.lt_of_le_of_lt hp2 (by decide)) ⟨rfl, Nat.zero_le _, fun j hj => absurd hj (Nat.not_lt_zero j)⟩ (fun k y hk hP => ?_)
    obtain ⟨rfl, hk', hno⟩ := hP
    show (∃ e, f_X9_prefers_B3 T M 313 (nI i) x (nI k) = some (.inl e) ∧ _) ∨ _
    unfold f_X9_prefers_B3
    rw [p_at, Option.bind_some, show (3 : Int32) = nI 3 from rfl, nI_add, p_mald hM (by omega), Option.bind_some, (hE.2.2.2 i hi).2.2.1, hp1]
    by_cases hkp : k = dPk M D i
    · rw [if_pos (nI_le (by omega) (by omega))]
      refine Or.inl ⟨0, rfl, ?_⟩
      rw [anyN_no (fun j hj => decide_eq_false (hno j (by omega)))]
      rfl
    · have hlt : k < dPk M D i := by omega
      rw [if_neg (nI_ge hlt (by omega)), Option.bind_some, show (4 : Int32) = nI 4 from rfl, nI_add, nI_add, p_mald hM (by omega), Option.bind_some, (hE.2.2.2 i hi).2.2.2.1 k hlt]
      by_cases hx : dPr M D i k = x
      · rw [if_neg (fun q => q hx)]
        refine Or.inl ⟨1, rfl, ?_⟩
        rw [anyN_yes (c := fun k => decide (dPr M D i k = x)) (decide_eq_true hx) hlt]
        rfl
      · rw [if_pos hx]
        refine Or.inr ⟨hlt, _, rfl, ?_, by omega, fun j hj => ?_⟩
        · rw [nI_1]
        · by_cases e : j = k
          · subst e; exact hx
          · exact hno j (by omega)
  obtain ⟨e, h1, h2⟩ := hLp
  rw [h1, Option.bind_some, h2]
theorem p_mFriends (hM : gMo T M) (hV : gVal T M D) (hE : gEq M D 313) {x : Int32} : f_X9_friendsOf T M 311 x = some (nI (vFr M D x)) := by
  have hV' := hV
  obtain ⟨hD, h8, -, hn1, -, hL⟩ := hV
  unfold f_X9_friendsOf vFr
  generalize hc : (fun k => decide (dRk M D k ≠ -1) && anyN (fun j => decide (dPr M D k j = x)) (dPk M D k)) = c
  have h := gloop_for (B := fun y => f_X9_friendsOf_B4 T M 311 x y.1 y.2) (fu := gFU) (e := nI (cntN c (dNl M D))) (fun k => (nI (cntN c k), nI k)) (dNl M D) (Nat.lt_of_le_of_lt h8 (by decide)) (fun k hk => ?_) ?_
  · rw [show (((0 : Int32), (0 : Int32)) : Int32 × Int32) = (nI (cntN c 0), nI 0) from rfl, h]
    rfl
  · show f_X9_friendsOf_B4 T M 311 x (nI (cntN c k)) (nI k) = some (.inr (nI (cntN c (k + 1)), nI (k + 1)))
    unfold f_X9_friendsOf_B4 f_X9_friendsOf_40 f_X9_friendsOf_41
    rw [p_mdat hM, Option.bind_some, show (1 : Int32) = nI 1 from rfl, p_mald hM (by omega), Option.bind_some, hE.2.1, hn1, if_neg (nI_ge hk (by omega)), p_mLoaded hM hE h8 hk, Option.bind_some]
    by_cases h1 : dRk M D k = -1
    · have hck : c k = false := by rw [← hc]; simp [h1]
      rw [if_pos h1, if_pos rfl, show (0 : Int32) = nI 0 from rfl, nI_add, nI_add]
      simp [cntN, hck]
    · rw [if_neg h1, if_neg (by decide), Option.bind_some, p_mPrefers hM hV' hE hk, Option.bind_some]
      by_cases h2 : anyN (fun j => decide (dPr M D k j = x)) (dPk M D k) = true
      · have hck : c k = true := by rw [← hc]; simp [h1, h2]
        rw [if_pos h2, if_neg (by decide), nI_add, nI_add]
        simp [cntN, hck]
      · have h3 : anyN (fun j => decide (dPr M D k j = x)) (dPk M D k) = false := by simpa using h2
        have hck : c k = false := by rw [← hc]; simp [h3]
        rw [if_neg h2, if_pos rfl, show (0 : Int32) = nI 0 from rfl, nI_add, nI_add]
        simp [cntN, hck]
  · show f_X9_friendsOf_B4 T M 311 x (nI (cntN c (dNl M D))) (nI (dNl M D)) = _
    unfold f_X9_friendsOf_B4
    rw [p_mdat hM, Option.bind_some, show (1 : Int32) = nI 1 from rfl, p_mald hM (by omega), Option.bind_some, hE.2.1, hn1, if_pos (nI_le (Nat.le_refl _) (by omega))]
theorem p_mVote (hM : gMo T M) (hV : gVal T M D) (hE : gEq M D 313) (hi : i < dNl M D) (hn : n < 12) : f_X9_voteOf T M 311 (nI i) (nI n) = some (vVt M D i n) := by
  obtain ⟨hD, h8, -, hn1, -, hL⟩ := hV
  obtain ⟨-, -, -, ⟨hp1, hp2⟩, hpq, -⟩ := hL i hi
  unfold f_X9_voteOf f_X9_voteOf_17 vVt
  rw [p_mLoaded hM hE h8 hi, Option.bind_some]
  by_cases h1 : dRk M D i = -1
  · rw [if_pos h1, if_pos rfl, Option.bind_some, if_pos rfl, if_pos h1]
  · rw [if_neg h1, if_neg (by decide), p_mCand hM hE h8 hi hn, Option.bind_some, if_neg h1]
    by_cases h2 : dOf M D i n = -1
    · rw [if_pos (Or.inr h2), if_pos rfl, if_neg (fun q => q h2)]
      have hLp : ∃ e, gloop (fun y => f_X9_voteOf_B33 T M 311 (nI i) (nI n) y) gFU (0 : Int32) = some e ∧ e = (match fstN (fun k => decide (vCd M D (dPr M D i k).toNatClampNeg n)) (dPk M D i) with | some k => dPr M D i k | none => -1) := by
        refine gloop_ex (P := fun k y => y = nI k ∧ k ≤ dPk M D i ∧ ∀ j, j < k → decide (vCd M D (dPr M D i j).toNatClampNeg n) = false) (fu := gFU) (x := (0 : Int32)) (dPk M D i) (Nat.lt_of_le_of_lt hp2 (by decide)) ⟨rfl, Nat.zero_le _, fun j hj => absurd hj (Nat.not_lt_zero j)⟩ (fun k y hk hP => ?_)
        obtain ⟨rfl, hk', hno⟩ := hP
        show (∃ e, f_X9_voteOf_B33 T M 311 (nI i) (nI n) (nI k) = some (.inl e) ∧ _) ∨ _
        unfold f_X9_voteOf_B33
        rw [p_mdat hM, Option.bind_some, p_at, Option.bind_some, show (3 : Int32) = nI 3 from rfl, nI_add, p_mald hM (by omega), Option.bind_some, (hE.2.2.2 i hi).2.2.1, hp1]
        by_cases hkp : k = dPk M D i
        · rw [if_pos (nI_le (by omega) (by omega))]
          refine Or.inl ⟨-1, rfl, ?_⟩
          rw [fstN_none (fun j hj => hno j (by omega))]
        · have hlt : k < dPk M D i := by omega
          obtain ⟨q, hq, hpk⟩ := hpq k hlt
          have hcl : (dPr M D i k).toNatClampNeg = q := by rw [hpk]; exact nI_clamp (by omega)
          rw [if_neg (nI_ge hlt (by omega)), Option.bind_some, Option.bind_some, show (4 : Int32) = nI 4 from rfl, nI_add, nI_add, p_mald hM (by omega), Option.bind_some, (hE.2.2.2 i hi).2.2.2.1 k hlt, hpk, p_mCand hM hE h8 hq hn, Option.bind_some]
          by_cases hc : dRk M D q = -1 ∨ dOf M D q n = -1
          · rw [if_pos hc, if_pos rfl, nI_1]
            refine Or.inr ⟨hlt, _, rfl, rfl, by omega, fun j hj => ?_⟩
            by_cases e : j = k
            · subst e
              rw [hcl]
              exact decide_eq_false (fun q => q hc)
            · exact hno j (by omega)
          · rw [if_neg hc, if_neg (by decide)]
            refine Or.inl ⟨nI q, rfl, ?_⟩
            rw [fstN_some (k := k) (by rw [hcl]; exact decide_eq_true hc) hno hlt]
            exact hpk.symm
      obtain ⟨e, h3, h4⟩ := hLp
      rw [h3, Option.bind_some, h4]
      rfl
    · rw [if_neg (show ¬ (dRk M D i = -1 ∨ dOf M D i n = -1) from fun q => q.elim h1 h2), if_neg (show ¬ ((1 : Int32) = 0) by decide), Option.bind_some, if_neg (show ¬ ((1 : Int32) = 0) by decide), if_pos h2]
end PMP
