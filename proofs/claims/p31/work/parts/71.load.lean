/-! UNLOAD AND RELOAD: ranks and ages -/
theorem cntN_mono {c e : Nat → Bool} : ∀ {n : Nat}, (∀ k, k < n → c k = true → e k = true) → cntN c n ≤ cntN e n
  | 0, _ => Nat.le_refl _
  | n + 1, h => by
    have ih := cntN_mono (n := n) (fun k hk => h k (by omega))
    have hn := h n (by omega)
    unfold cntN
    by_cases hc : c n = true
    · rw [if_pos hc, if_pos (hn hc)]
      omega
    · rw [if_neg hc]
      omega
/-- taking one away -/
theorem cntN_but {c : Nat → Bool} {a : Nat} : ∀ {n : Nat}, a < n → cntN c n = cntN (fun k => c k && decide (k ≠ a)) n + if c a then 1 else 0
  | 0, h => by omega
  | n + 1, h => by
    unfold cntN
    by_cases e : a = n
    · subst e
      rw [cntN_ext (c := c) (e := fun k => c k && decide (k ≠ a)) (fun k hk => by rw [decide_eq_true (show k ≠ a by omega), Bool.and_true])]
      simp
    · rw [cntN_but (show a < n by omega), decide_eq_true (show n ≠ a by omega), Bool.and_true]
      omega
section PUL
variable {T : gT} {M N G : gM} {Dk : Nat} {k : Nat → Nat × Nat} {m C C' a : Nat}
/-- the places of ranks -/
def rkP (b j : Nat) : Prop := j = 2 ∧ 42 ≤ b ∧ b ≤ 63 ∧ (b - 42) % 3 = 0
/-- the new rank of i when a is unloaded -/
def nRk (M : gM) (D a i : Nat) : Int32 := if i = a then -1 else if dRk M D a < dRk M D i then dRk M D i - 1 else dRk M D i
theorem p_takeOut (hV : gVal T M 37) (ha : a < dNl M 37) (hl : dRk M 37 a ≠ -1) : ∃ N, f_X0_takeOut T M 37 (nI a) = some N ∧ fr rkP M N ∧ (∀ i, i < dNl M 37 → dRk N 37 i = nRk M 37 a i) ∧ ∀ i, dNl M 37 ≤ i → i < 8 → dRk N 37 i = dRk M 37 i := by
  have hD := hV.1
  have h8 := hV.2.1
  have hn1 := hV.2.2.2.1
  have ha8 : a < 8 := by omega
  unfold f_X0_takeOut
  rw [p_row1 hD, Option.bind_some, p_row2 hD ha8, Option.bind_some, Option.bind_some, p_row2 hD ha8, Option.bind_some]
  have hL : ∃ N, gloop (fun x => f_X0_takeOut_B22 T x.2 37 (gi M (37 + 5 + 3 * a) 2) x.1) gFU ((0 : Int32), si M (37 + 5 + 3 * a) 2 (-1)) = some N ∧ (fr rkP M N ∧ (∀ i, i < dNl M 37 → dRk N 37 i = nRk M 37 a i) ∧ ∀ i, dNl M 37 ≤ i → i < 8 → dRk N 37 i = dRk M 37 i) := by
    refine gloop_ex (P := fun t y => y.1 = nI t ∧ t ≤ dNl M 37 ∧ fr rkP M y.2 ∧ (∀ i, i < t → dRk y.2 37 i = nRk M 37 a i) ∧ ∀ i, t ≤ i → i < 8 → dRk y.2 37 i = if i = a then -1 else dRk M 37 i) (fu := gFU) (dNl M 37) (Nat.lt_of_le_of_lt h8 (by decide)) ⟨rfl, Nat.zero_le _, fr_si fr_refl ⟨rfl, by omega, by omega, by omega⟩, fun j hj => absurd hj (Nat.not_lt_zero j), fun i _ hi => ?_⟩ (fun t y _ hP => ?_)
    · show gi (si M (37 + 5 + 3 * a) 2 (-1)) (37 + 5 + 3 * i) 2 = _
      rw [gi_si]
      by_cases e : i = a
      · rw [if_pos ⟨by omega, rfl⟩, if_pos e]
      · rw [if_neg (by omega), if_neg e]
    · obtain ⟨y1, N⟩ := y
      obtain ⟨rfl, ht, hF, h1, h2⟩ := hP
      dsimp only at hF h1 h2
      have hDN := gDat_gr hD hF.1
      show (∃ e, f_X0_takeOut_B22 T N 37 (gi M (37 + 5 + 3 * a) 2) (nI t) = some (.inl e) ∧ _) ∨ _
      unfold f_X0_takeOut_B22 f_X0_takeOut_58
      rw [show gi N 37 1 = nI (dNl M 37) from (hF.2.2 37 1 (fun q => by unfold rkP at q; omega)).trans hn1]
      by_cases e : t = dNl M 37
      · rw [if_pos (nI_le (by omega) (by omega))]
        subst e
        exact Or.inl ⟨N, rfl, hF, h1, fun i hi hi8 => by rw [h2 i hi hi8, if_neg (by omega)]⟩
      · have hlt : t < dNl M 37 := by omega
        have e2 : gi N (37 + 5 + 3 * t) 2 = if t = a then -1 else dRk M 37 t := h2 t (Nat.le_refl t) (by omega)
        rw [if_neg (nI_ge hlt (by omega)), p_row1 hDN, Option.bind_some, p_row2 hDN (by omega), Option.bind_some, nI_1]
        by_cases hle : gi N (37 + 5 + 3 * t) 2 ≤ gi M (37 + 5 + 3 * a) 2
        · rw [if_pos hle]
          refine Or.inr ⟨hlt, _, rfl, rfl, hlt, hF, fun i hi => ?_, fun i hi hi8 => h2 i (by omega) hi8⟩
          show dRk N 37 i = _
          by_cases ei : i = t
          · rw [ei]
            show gi N (37 + 5 + 3 * t) 2 = _
            unfold nRk
            rw [e2]
            rw [e2] at hle
            by_cases ea : t = a
            · rw [if_pos ea, if_pos ea]
            · rw [if_neg ea] at hle ⊢
              rw [if_neg ea, if_neg (Int32.not_lt.mpr hle)]
          · exact h1 i (by omega)
        · rw [if_neg hle, Option.bind_some, p_row2 hDN (by omega), Option.bind_some]
          have hta : t ≠ a := fun q => hle (by
            rw [e2, if_pos q]
            rcases (hV.2.2.2.2.2 a ha).2.2.1 with z | ⟨r, hr, z⟩
            · exact absurd z hl
            · rw [show gi M (37 + 5 + 3 * a) 2 = nI r from z, Int32.le_iff_toInt_le, nI_toInt (by omega)]
              show (-1 : Int) ≤ _
              omega)
          rw [if_neg hta] at e2
          refine Or.inr ⟨hlt, _, rfl, rfl, hlt, fr_si hF ⟨rfl, by omega, by omega, by omega⟩, fun i hi => ?_, fun i hi hi8 => ?_⟩
          · show gi (si N (37 + 5 + 3 * t) 2 _) (37 + 5 + 3 * i) 2 = _
            rw [gi_si]
            by_cases ei : i = t
            · rw [if_pos ⟨by omega, rfl⟩, ei, e2]
              unfold nRk
              rw [e2] at hle
              rw [if_neg hta, if_pos (Int32.not_le.mp hle)]
            · rw [if_neg (by omega)]
              exact h1 i (by omega)
          · show gi (si N (37 + 5 + 3 * t) 2 _) (37 + 5 + 3 * i) 2 = _
            rw [gi_si, if_neg (by omega)]
            exact h2 i (by omega) hi8
  obtain ⟨N, c1, c2⟩ := hL
  rw [c1, Option.bind_some]
  exact ⟨N, rfl, c2⟩
theorem p_takeIn (hV : gVal T M 37) (ha : a < dNl M 37) : f_X0_takeIn T M 37 (nI a) = some (si M (37 + 5 + 3 * a) 2 (nI (cntN (fun i => decide (dRk M 37 i ≠ -1)) (dNl M 37)))) := by
  have hD := hV.1
  have h8 := hV.2.1
  have hn1 := hV.2.2.2.1
  unfold f_X0_takeIn
  have hL := gloop_for (B := fun x => f_X0_takeIn_B4 T M 37 (nI a) x.1 x.2) (fu := gFU) (e := nI (cntN (fun i => decide (dRk M 37 i ≠ -1)) (dNl M 37))) (fun t => (nI (cntN (fun i => decide (dRk M 37 i ≠ -1)) t), nI t)) (dNl M 37) (Nat.lt_of_le_of_lt h8 (by decide)) (fun t hlt => ?_) ?_
  · rw [show (((0 : Int32), (0 : Int32)) : Int32 × Int32) = (nI (cntN (fun i => decide (dRk M 37 i ≠ -1)) 0), nI 0) from rfl, hL, Option.bind_some, p_row1 hD, Option.bind_some, p_row2 hD (by omega), Option.bind_some]
  · show f_X0_takeIn_B4 T M 37 (nI a) (nI (cntN (fun i => decide (dRk M 37 i ≠ -1)) t)) (nI t) = some (.inr (nI (cntN (fun i => decide (dRk M 37 i ≠ -1)) (t + 1)), nI (t + 1)))
    unfold f_X0_takeIn_B4 f_X0_takeIn_27
    rw [hn1, if_neg (nI_ge hlt (by omega)), p_row1 hD, Option.bind_some, p_row2 hD (by omega), Option.bind_some, p_isLoaded, Option.bind_some, nI_1, cntN]
    by_cases hl : gi M (37 + 5 + 3 * t) 2 = -1
    · rw [if_pos hl, if_pos rfl, decide_eq_false (p := dRk M 37 t ≠ -1) (fun q => q hl)]
      rfl
    · rw [if_neg hl, if_neg (by decide), nI_1, decide_eq_true (p := dRk M 37 t ≠ -1) hl]
      rfl
  · show f_X0_takeIn_B4 T M 37 (nI a) _ (nI (dNl M 37)) = _
    unfold f_X0_takeIn_B4
    rw [hn1, if_pos (nI_le (Nat.le_refl _) (by omega))]
end PUL
