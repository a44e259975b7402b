/-! HOW MANY BINDINGS ARE OTHER ONES: both sides -/
/-- for one library; w: the bindings before -/
def vCh (W : Nat → Nat) (M : gM) (D : Nat) (w : Nat → Nat → Int32) (i n : Nat) : Nat := cntN (fun n => decide (dRk M D i ≠ -1 ∧ w i n ≠ vBd W M D i n)) n
section PCHG
variable {T : gT} {M M0 : gM} {D : Nat} {k : Nat → Nat × Nat} {m n a : Nat} {w : Nat → Nat → Int32}
theorem vCh_no {W : Nat → Nat} {i : Nat} (hl : dRk M D i = -1) : ∀ n, vCh W M D w i n = 0
  | 0 => rfl
  | n + 1 => by
    have := vCh_no (W := W) hl n
    unfold vCh at this ⊢
    rw [cntN, this, decide_eq_false (fun q => q.1 hl)]
    rfl
theorem vCh_le {W : Nat → Nat} {i n : Nat} : vCh W M D w i n ≤ n := cntN_le _ n
/-- the class: a library's bindings in 73 against those in 310 -/
theorem q_changed [gW0] (h : gCls T M k m) (hE : gEl M k m) (hw : ∀ i, i < dNl M 37 → ∀ n, n < dNn M 37 → gi M 310 (12 * i + n) = w i n) (ha : a < dNl M 37) : f_X8_changedBindings T M 0 (nI a) = some (nI (vCh (vW M 37 k m) M 37 w a (dNn M 37))) := by
  have h8 := h.2.1.2.1
  have h12 := h.2.1.2.2.1
  have hn2 := h.2.1.2.2.2.2.1
  unfold f_X8_changedBindings
  rw [r_0_4 h.1, Option.bind_some, p_row1 h.2.1.1, Option.bind_some, p_row2 h.2.1.1 (by omega), Option.bind_some, p_isLoaded, Option.bind_some]
  by_cases hl : gi M (37 + 5 + 3 * a) 2 = -1
  · rw [if_pos hl, if_neg (fun q => q rfl), vCh_no hl]
    rfl
  · rw [if_neg hl, if_pos (by decide)]
    have hL := gloop_for (B := fun x => f_X8_changedBindings_B21 T M 0 (nI a) x.1 x.2) (fu := gFU) (e := nI (vCh (vW M 37 k m) M 37 w a (dNn M 37))) (fun t => (nI (vCh (vW M 37 k m) M 37 w a t), nI t)) (dNn M 37) (Nat.lt_of_le_of_lt h12 (by decide)) (fun t hlt => ?_) ?_
    · rw [show (((0 : Int32), (0 : Int32)) : Int32 × Int32) = (nI (vCh (vW M 37 k m) M 37 w a 0), nI 0) from rfl, hL, Option.bind_some]
    · show f_X8_changedBindings_B21 T M 0 (nI a) (nI (vCh (vW M 37 k m) M 37 w a t)) (nI t) = some (.inr (nI (vCh (vW M 37 k m) M 37 w a (t + 1)), nI (t + 1)))
      unfold f_X8_changedBindings_B21 f_X8_changedBindings_62
      rw [r_0_4 h.1, Option.bind_some, hn2, if_neg (nI_ge hlt (by omega)), p_cell, Option.bind_some, r_0_5 h.1, Option.bind_some, r_66_6 h.1, Option.bind_some, ald_ok (s_73 h.1) (by omega) (by decide), Option.bind_some, r_0_8 h.1, Option.bind_some, ald_ok (s_310 h.1) (by omega) (by decide), Option.bind_some, ((hE.2 t hlt).2.2.2 a ha).2.2, hw a ha t hlt, nI_1]
      by_cases hb : w a t = vBd (vW M 37 k m) M 37 a t
      · have e : vCh (vW M 37 k m) M 37 w a (t + 1) = vCh (vW M 37 k m) M 37 w a t := by
          unfold vCh
          rw [cntN, decide_eq_false (fun q => q.2 hb)]
          rfl
        rw [if_pos hb.symm, e]
      · have e : vCh (vW M 37 k m) M 37 w a (t + 1) = vCh (vW M 37 k m) M 37 w a t + 1 := by
          unfold vCh
          rw [cntN, decide_eq_true (And.intro hl hb)]
          rfl
        rw [if_neg (fun q => hb q.symm), nI_1, e]
    · show f_X8_changedBindings_B21 T M 0 (nI a) _ (nI (dNn M 37)) = _
      unfold f_X8_changedBindings_B21
      rw [r_0_4 h.1, Option.bind_some, hn2, if_pos (nI_le (Nat.le_refl _) (by omega))]
theorem q_changedAll [gW0] (h : gCls T M k m) (hE : gEl M k m) (hw : ∀ i, i < dNl M 37 → ∀ n, n < dNn M 37 → gi M 310 (12 * i + n) = w i n) : f_X8_changedBindingsOfAll T M 0 = some (nI (sumN (fun i => vCh (vW M 37 k m) M 37 w i (dNn M 37)) (dNl M 37))) := by
  have h8 := h.2.1.2.1
  have hn1 := h.2.1.2.2.2.1
  unfold f_X8_changedBindingsOfAll
  have hL := gloop_for (B := fun x => f_X8_changedBindingsOfAll_B4 T M 0 x.1 x.2) (fu := gFU) (e := nI (sumN (fun i => vCh (vW M 37 k m) M 37 w i (dNn M 37)) (dNl M 37))) (fun t => (nI (sumN (fun i => vCh (vW M 37 k m) M 37 w i (dNn M 37)) t), nI t)) (dNl M 37) (Nat.lt_of_le_of_lt h8 (by decide)) (fun t hlt => ?_) ?_
  · rw [show (((0 : Int32), (0 : Int32)) : Int32 × Int32) = (nI (sumN (fun i => vCh (vW M 37 k m) M 37 w i (dNn M 37)) 0), nI 0) from rfl, hL, Option.bind_some]
  · show f_X8_changedBindingsOfAll_B4 T M 0 _ (nI t) = some (.inr (_, nI (t + 1)))
    unfold f_X8_changedBindingsOfAll_B4
    rw [r_0_4 h.1, Option.bind_some, hn1, if_neg (nI_ge hlt (by omega)), q_changed h hE hw hlt, Option.bind_some, nI_1, nI_add]
    rfl
  · show f_X8_changedBindingsOfAll_B4 T M 0 _ (nI (dNl M 37)) = _
    unfold f_X8_changedBindingsOfAll_B4
    rw [r_0_4 h.1, Option.bind_some, hn1, if_pos (nI_le (Nat.le_refl _) (by omega))]
end PCHG
