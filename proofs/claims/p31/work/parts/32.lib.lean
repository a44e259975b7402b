/-! THE CLASS'S DATA at the address D: rows at D + 1, library i at D + 5 + 3 i, its offers and preferences behind it -/
def gDat (T : gT) (M : gM) (D : Nat) : Prop := T[D]? = some (0, 0) ∧ T[D + 1]? = some (14, 8) ∧ gr M D 0 = some (D + 1) ∧ ∀ i, i < 8 → (T[D + 5 + 3 * i]? = some (3, 0) ∧ T[D + 6 + 3 * i]? = some (11, 12) ∧ T[D + 7 + 3 * i]? = some (11, 8)) ∧ gr M (D + 1) i = some (D + 5 + 3 * i) ∧ gr M (D + 5 + 3 * i) 3 = some (D + 6 + 3 * i) ∧ gr M (D + 5 + 3 * i) 4 = some (D + 7 + 3 * i)
abbrev dTr (M : gM) (D i : Nat) : Int32 := gi M (D + 5 + 3 * i) 0
abbrev dKp (M : gM) (D i : Nat) : Int32 := gi M (D + 5 + 3 * i) 1
abbrev dRk (M : gM) (D i : Nat) : Int32 := gi M (D + 5 + 3 * i) 2
abbrev dPn (M : gM) (D i : Nat) : Int32 := gi M (D + 5 + 3 * i) 5
abbrev dOf (M : gM) (D i n : Nat) : Int32 := gi M (D + 6 + 3 * i) n
abbrev dPr (M : gM) (D i k : Nat) : Int32 := gi M (D + 7 + 3 * i) k
/-- how many of the first n -/
def cntN (c : Nat → Bool) : Nat → Nat
  | 0 => 0
  | n + 1 => cntN c n + if c n then 1 else 0
/-- is there one among the first n -/
def anyN (c : Nat → Bool) : Nat → Bool
  | 0 => false
  | n + 1 => anyN c n || c n
theorem cntN_le (c : Nat → Bool) : ∀ n, cntN c n ≤ n
  | 0 => Nat.le_refl 0
  | n + 1 => by
    have := cntN_le c n
    unfold cntN
    split <;> omega
theorem anyN_no {c : Nat → Bool} : ∀ {n : Nat}, (∀ k, k < n → c k = false) → anyN c n = false
  | 0, _ => rfl
  | n + 1, h => by
    unfold anyN
    rw [anyN_no (fun k hk => h k (by omega)), h n (by omega)]
    rfl
theorem anyN_yes {c : Nat → Bool} {k : Nat} (hc : c k = true) : ∀ {n : Nat}, k < n → anyN c n = true
  | 0, h => by omega
  | n + 1, h => by
    unfold anyN
    by_cases e : k = n
    · subst e
      rw [hc, Bool.or_true]
    · rw [anyN_yes hc (show k < n by omega), Bool.true_or]
section PLIB
variable {T : gT} {M : gM} {D i n : Nat}
theorem p_row1 (hD : gDat T M D) : ldr T M D 0 14 = some (D + 1) := ldr_ok hD.2.2.1 hD.2.1
theorem p_row2 (hD : gDat T M D) (hi : i < 8) : aldr T M (D + 1) (nI i) 3 = some (D + 5 + 3 * i) := aldr_ok hD.2.1 hi (by decide) (hD.2.2.2 i hi).2.1 (hD.2.2.2 i hi).1.1
theorem p_isLoaded {L : Nat} : f_X3_isLoaded T M L = some (if gi M L 2 = -1 then 0 else 1) := by
  unfold f_X3_isLoaded
  split <;> rfl
theorem p_hasOffer (hD : gDat T M D) (hi : i < 8) (hn : n < 12) : f_X3_hasOffer T M (D + 5 + 3 * i) (nI n) = some (if dOf M D i n = -1 then 0 else 1) := by
  unfold f_X3_hasOffer
  rw [ldr_ok (hD.2.2.2 i hi).2.2.1 (hD.2.2.2 i hi).1.2.1, Option.bind_some, ald_ok (hD.2.2.2 i hi).1.2.1 hn (by decide), Option.bind_some]
  split <;> rfl
theorem p_countOffers (hD : gDat T M D) (hi : i < 8) : f_X3_countOffers T M (D + 5 + 3 * i) = some (nI (cntN (fun n => decide (dOf M D i n ≠ -1)) 12)) := by
  unfold f_X3_countOffers
  have h := gloop_for (B := fun x => f_X3_countOffers_B4 T M (D + 5 + 3 * i) x.1 x.2) (fu := gFU) (e := nI (cntN (fun n => decide (dOf M D i n ≠ -1)) 12)) (fun k => (nI (cntN (fun n => decide (dOf M D i n ≠ -1)) k), nI k)) 12 (by decide) (fun k hk => ?_) ?_
  · rw [show (((0 : Int32), (0 : Int32)) : Int32 × Int32) = (nI (cntN (fun n => decide (dOf M D i n ≠ -1)) 0), nI 0) from rfl, h]
    rfl
  · show f_X3_countOffers_B4 T M (D + 5 + 3 * i) (nI (cntN (fun n => decide (dOf M D i n ≠ -1)) k)) (nI k) = some (.inr (nI (cntN (fun n => decide (dOf M D i n ≠ -1)) (k + 1)), nI (k + 1)))
    unfold f_X3_countOffers_B4
    rw [if_neg (show ¬ ((12 : Int32) ≤ nI k) from nI_ge hk (by decide)), p_hasOffer hD hi hk, Option.bind_some]
    unfold f_X3_countOffers_21
    rw [nI_1]
    by_cases e : dOf M D i k = -1
    · rw [if_pos e, if_pos rfl]
      simp [cntN, e]
    · rw [if_neg e, if_neg (by decide), nI_1]
      simp [cntN, e]
  · show f_X3_countOffers_B4 T M (D + 5 + 3 * i) _ (nI 12) = _
    unfold f_X3_countOffers_B4
    rw [if_pos (show (12 : Int32) ≤ nI 12 from nI_le (Nat.le_refl 12) (by decide))]
theorem p_prefers (hD : gDat T M D) (hi : i < 8) {p : Nat} (hp : dPn M D i = nI p) (hp8 : p ≤ 8) {x : Int32} : f_X3_prefers T M (D + 5 + 3 * i) x = some (if anyN (fun k => decide (dPr M D i k = x)) p then 1 else 0) := by
  unfold f_X3_prefers
  have hL : ∃ e, gloop (fun y => f_X3_prefers_B2 T M (D + 5 + 3 * i) x y) gFU (0 : Int32) = some e ∧ e = if anyN (fun k => decide (dPr M D i k = x)) p then 1 else 0 := by
    refine gloop_ex (B := fun y => f_X3_prefers_B2 T M (D + 5 + 3 * i) x y) (P := fun k y => y = nI k ∧ k ≤ p ∧ ∀ j, j < k → ¬ dPr M D i j = x) (Q := fun e => e = if anyN (fun k => decide (dPr M D i k = x)) p then 1 else 0) (fu := gFU) (x := (0 : Int32)) p (Nat.lt_of_le_of_lt hp8 (by decide)) ⟨rfl, Nat.zero_le _, fun j hj => absurd hj (Nat.not_lt_zero j)⟩ (fun k y hk hP => ?_)
    obtain ⟨rfl, hk', hno⟩ := hP
    show (∃ e, f_X3_prefers_B2 T M (D + 5 + 3 * i) x (nI k) = some (.inl e) ∧ _) ∨ _
    unfold f_X3_prefers_B2
    rw [show gi M (D + 5 + 3 * i) 5 = nI p from hp]
    by_cases hkp : k = p
    · subst hkp
      rw [if_pos (nI_le (Nat.le_refl k) (by omega))]
      refine Or.inl ⟨0, rfl, ?_⟩
      rw [anyN_no (fun j hj => decide_eq_false (hno j hj))]
      rfl
    · have hlt : k < p := by omega
      rw [if_neg (nI_ge hlt (by omega)), ldr_ok (hD.2.2.2 i hi).2.2.2 (hD.2.2.2 i hi).1.2.2, Option.bind_some, ald_ok (hD.2.2.2 i hi).1.2.2 (by omega) (by decide), Option.bind_some]
      by_cases hx : gi M (D + 7 + 3 * i) k = x
      · rw [if_neg (fun q => q hx)]
        refine Or.inl ⟨1, rfl, ?_⟩
        rw [anyN_yes (c := fun k => decide (dPr M D i k = x)) (decide_eq_true hx) hlt]
        rfl
      · rw [if_pos hx]
        refine Or.inr ⟨hlt, _, rfl, ?_, by omega, fun j hj => ?_⟩
        · rw [nI_1]
        · by_cases e : j = k
          · subst e; exact hx
          · exact hno j (by omega)
  obtain ⟨e, h1, h2⟩ := hL
  rw [h1, Option.bind_some, h2]
theorem p_isCandidate (hD : gDat T M D) (hi : i < 8) (hn : n < 12) : f_X0_isCandidate T M D (nI i) (nI n) = some (if dRk M D i = -1 ∨ dOf M D i n = -1 then 0 else 1) := by
  unfold f_X0_isCandidate
  rw [p_row1 hD, Option.bind_some, p_row2 hD hi, Option.bind_some, p_isLoaded, Option.bind_some]
  by_cases h1 : gi M (D + 5 + 3 * i) 2 = -1
  · rw [if_pos h1, if_pos rfl, if_pos (Or.inl h1)]
    rfl
  · rw [if_neg h1, if_neg (by decide), Option.bind_some, p_row2 hD hi, Option.bind_some, p_hasOffer hD hi hn, Option.bind_some]
    by_cases h2 : dOf M D i n = -1
    · rw [if_pos h2, if_pos rfl, if_pos (Or.inr h2)]
      rfl
    · rw [if_neg h2, if_neg (by decide), if_neg (fun q => q.elim h1 h2)]
end PLIB
