/-! DATA that is well formed, and what is counted of it -/
abbrev dNl (M : gM) (D : Nat) : Nat := (gi M D 1).toNatClampNeg
abbrev dNn (M : gM) (D : Nat) : Nat := (gi M D 2).toNatClampNeg
abbrev dPk (M : gM) (D i : Nat) : Nat := (dPn M D i).toNatClampNeg
/-- a well-formed library i of nl libraries and nn names -/
def gLib (M : gM) (D nl nn i : Nat) : Prop := (∃ t, t ≤ 999 ∧ dTr M D i = nI t) ∧ (dKp M D i = 0 ∨ dKp M D i = 1) ∧ (dRk M D i = -1 ∨ ∃ r, r < 8 ∧ dRk M D i = nI r) ∧ (dPn M D i = nI (dPk M D i) ∧ dPk M D i ≤ 8) ∧ (∀ k, k < dPk M D i → ∃ q, q < nl ∧ dPr M D i k = nI q) ∧ ∀ n, n < 12 → dOf M D i n = -1 ∨ n < nn ∧ ((∃ v, v ≤ 9999 ∧ dOf M D i n = nI v) ∨ ∃ k, k < nn ∧ dOf M D i n = -2 - nI k)
def gVal (T : gT) (M : gM) (D : Nat) : Prop := gDat T M D ∧ dNl M D ≤ 8 ∧ dNn M D ≤ 12 ∧ gi M D 1 = nI (dNl M D) ∧ gi M D 2 = nI (dNn M D) ∧ ∀ i, i < dNl M D → gLib M D (dNl M D) (dNn M D) i
/-- a candidate -/
abbrev vCd (M : gM) (D i n : Nat) : Prop := ¬ (dRk M D i = -1 ∨ dOf M D i n = -1)
/-- the friends of the library x -/
def vFr (M : gM) (D : Nat) (x : Int32) : Nat := cntN (fun k => decide (dRk M D k ≠ -1) && anyN (fun j => decide (dPr M D k j = x)) (dPk M D k)) (dNl M D)
section PDATA
variable {T : gT} {M : gM} {D i n : Nat}
theorem p_friendsOf (hV : gVal T M D) {x : Int32} : f_X0_friendsOf T M D x = some (nI (vFr M D x)) := by
  obtain ⟨hD, h8, -, hn1, -, hL⟩ := hV
  unfold f_X0_friendsOf
  have h := gloop_for (B := fun y => f_X0_friendsOf_B4 T M D x y.1 y.2) (fu := gFU) (e := nI (vFr M D x)) (fun k => (nI (cntN (fun k => decide (dRk M D k ≠ -1) && anyN (fun j => decide (dPr M D k j = x)) (dPk M D k)) k), nI k)) (dNl M D) (Nat.lt_of_le_of_lt h8 (by decide)) (fun k hk => ?_) ?_
  · rw [show (((0 : Int32), (0 : Int32)) : Int32 × Int32) = (nI (cntN (fun k => decide (dRk M D k ≠ -1) && anyN (fun j => decide (dPr M D k j = x)) (dPk M D k)) 0), nI 0) from rfl, h]
    rfl
  · generalize hc : (fun k => decide (dRk M D k ≠ -1) && anyN (fun j => decide (dPr M D k j = x)) (dPk M D k)) = c
    show f_X0_friendsOf_B4 T M D x (nI (cntN c k)) (nI k) = some (.inr (nI (cntN c (k + 1)), nI (k + 1)))
    have hk8 : k < 8 := by omega
    unfold f_X0_friendsOf_B4 f_X0_friendsOf_40
    rw [hn1, if_neg (nI_ge hk (by omega)), p_row1 hD, Option.bind_some, p_row2 hD hk8, Option.bind_some, p_isLoaded, Option.bind_some, nI_1]
    by_cases h1 : gi M (D + 5 + 3 * k) 2 = -1
    · rw [if_pos h1, if_pos rfl]
      have hck : c k = false := by rw [← hc]; simp [dRk, h1]
      simp [cntN, hck]
    · rw [if_neg h1, if_neg (by decide), Option.bind_some, p_row2 hD hk8, Option.bind_some, p_prefers hD hk8 (hL k hk).2.2.2.1.1 (hL k hk).2.2.2.1.2, Option.bind_some, nI_1]
      by_cases h2 : anyN (fun j => decide (dPr M D k j = x)) (dPk M D k) = true
      · have hck : c k = true := by rw [← hc]; simp [dRk, h1, h2]
        rw [if_pos h2, if_neg (by decide)]
        simp [cntN, hck]
      · have hck : c k = false := by
          rw [← hc]
          have h3 : anyN (fun j => decide (dPr M D k j = x)) (dPk M D k) = false := by simpa using h2
          simp [h3]
        rw [if_neg h2, if_pos rfl]
        simp [cntN, hck]
  · show f_X0_friendsOf_B4 T M D x (nI (vFr M D x)) (nI (dNl M D)) = _
    unfold f_X0_friendsOf_B4
    rw [hn1, if_pos (nI_le (Nat.le_refl _) (by omega))]
end PDATA
/-- the first k < n with c, if there is one -/
def fstN (c : Nat → Bool) : Nat → Option Nat
  | 0 => none
  | n + 1 => match fstN c n with
    | some k => some k
    | none => if c n then some n else none
theorem fstN_none {c : Nat → Bool} : ∀ {n : Nat}, (∀ k, k < n → c k = false) → fstN c n = none
  | 0, _ => rfl
  | n + 1, h => by
    unfold fstN
    rw [fstN_none (fun k hk => h k (by omega)), h n (by omega)]
    rfl
theorem fstN_some {c : Nat → Bool} {k : Nat} (hc : c k = true) (hno : ∀ j, j < k → c j = false) : ∀ {n : Nat}, k < n → fstN c n = some k
  | 0, h => by omega
  | n + 1, h => by
    unfold fstN
    by_cases e : k = n
    · subst e
      rw [fstN_none hno, hc]
      rfl
    · rw [fstN_some hc hno (show k < n by omega)]
/-- the vote of library i for the name n: a library's number, or -1 -/
def vVt (M : gM) (D i n : Nat) : Int32 := if dRk M D i = -1 then -1 else if dOf M D i n ≠ -1 then nI i else match fstN (fun k => decide (vCd M D (dPr M D i k).toNatClampNeg n)) (dPk M D i) with
  | some k => dPr M D i k
  | none => -1
section PCH
variable {T : gT} {M : gM} {D i n : Nat}
theorem p_choiceOf (hV : gVal T M D) (hi : i < dNl M D) (hn : n < 12) : f_X1_choiceOf T M D (nI i) (nI n) = some (vVt M D i n) := by
  obtain ⟨hD, h8, -, hn1, -, hL⟩ := hV
  have hi8 : i < 8 := by omega
  obtain ⟨-, -, -, ⟨hp1, hp2⟩, hpq, -⟩ := hL i hi
  unfold f_X1_choiceOf vVt
  rw [p_row1 hD, Option.bind_some, p_row2 hD hi8, Option.bind_some, p_isLoaded, Option.bind_some]
  by_cases h1 : gi M (D + 5 + 3 * i) 2 = -1
  · rw [if_pos h1, if_neg (by decide), if_pos h1]
  · rw [if_neg h1, if_pos (by decide), p_hasOffer hD hi8 hn, Option.bind_some, if_neg h1]
    by_cases h2 : dOf M D i n = -1
    · rw [if_pos h2, if_pos rfl, if_neg (fun q => q h2)]
      have hLp : ∃ e, gloop (fun y => f_X1_choiceOf_B29 T M D (nI n) (D + 5 + 3 * i) y) gFU (0 : Int32) = some e ∧ (match fstN (fun k => decide (vCd M D (dPr M D i k).toNatClampNeg n)) (dPk M D i) with | some k => e = .inr (nI k) ∧ k < dPk M D i | none => e = .inl (-1)) := by
        refine gloop_ex (P := fun k y => y = nI k ∧ k ≤ dPk M D i ∧ ∀ j, j < k → decide (vCd M D (dPr M D i j).toNatClampNeg n) = false) (fu := gFU) (x := (0 : Int32)) (dPk M D i) (Nat.lt_of_le_of_lt hp2 (by decide)) ⟨rfl, Nat.zero_le _, fun j hj => absurd hj (Nat.not_lt_zero j)⟩ (fun k y hk hP => ?_)
        obtain ⟨rfl, hk', hno⟩ := hP
        show (∃ e, f_X1_choiceOf_B29 T M D (nI n) (D + 5 + 3 * i) (nI k) = some (.inl e) ∧ _) ∨ _
        unfold f_X1_choiceOf_B29
        rw [show gi M (D + 5 + 3 * i) 5 = nI (dPk M D i) from hp1]
        by_cases hkp : k = dPk M D i
        · rw [if_pos (nI_le (by omega) (by omega))]
          refine Or.inl ⟨.inl (-1), rfl, ?_⟩
          rw [fstN_none (fun j hj => hno j (by omega))]
        · have hlt : k < dPk M D i := by omega
          obtain ⟨q, hq, hpk⟩ := hpq k hlt
          have hcl : (dPr M D i k).toNatClampNeg = q := by rw [hpk]; exact nI_clamp (by omega)
          rw [if_neg (nI_ge hlt (by omega)), ldr_ok (hD.2.2.2 i hi8).2.2.2 (hD.2.2.2 i hi8).1.2.2, Option.bind_some, ald_ok (hD.2.2.2 i hi8).1.2.2 (by omega) (by decide), Option.bind_some, show gi M (D + 7 + 3 * i) k = nI q from hpk, p_isCandidate hD (show q < 8 by omega) hn, Option.bind_some]
          by_cases hc : dRk M D q = -1 ∨ dOf M D q n = -1
          · rw [if_pos hc, if_pos rfl, nI_1]
            refine Or.inr ⟨hlt, _, rfl, rfl, by omega, fun j hj => ?_⟩
            by_cases e : j = k
            · subst e
              rw [hcl]
              exact decide_eq_false (fun q => q hc)
            · exact hno j (by omega)
          · rw [if_neg hc, if_neg (by decide)]
            refine Or.inl ⟨.inr (nI k), rfl, ?_⟩
            rw [fstN_some (k := k) (by rw [hcl]; exact decide_eq_true hc) hno hlt]
            exact ⟨rfl, hlt⟩
      obtain ⟨e, h3, h4⟩ := hLp
      rw [h3, Option.bind_some]
      cases hf : fstN (fun k => decide (vCd M D (dPr M D i k).toNatClampNeg n)) (dPk M D i) with
      | none =>
        rw [hf] at h4
        rw [h4]
        rfl
      | some k =>
        rw [hf] at h4
        rw [h4.1]
        show (ldr T M (D + 5 + 3 * i) 4 11).bind _ = _
        rw [ldr_ok (hD.2.2.2 i hi8).2.2.2 (hD.2.2.2 i hi8).1.2.2, Option.bind_some, ald_ok (hD.2.2.2 i hi8).1.2.2 (by omega) (by decide), Option.bind_some]
    · rw [if_neg h2, if_neg (by decide), if_pos h2]
end PCH
