/-! QUERIES of the class -/
abbrev gdL (M : gM) (D : Nat) (i : Int32) : Prop := ¬ i < 0 ∧ i < nI (dNl M D)
abbrev gdN (M : gM) (D : Nat) (j : Int32) : Prop := ¬ j < 0 ∧ j < nI (dNn M D)
section PCQ
variable {T : gT} {M : gM} {k : Nat → Nat × Nat} {m n a : Nat} {i j : Int32}
theorem gdL_nI [gW0] (h : gCls T M k m) (ha : a < dNl M 37) : gdL M 37 (nI a) := by
  have := h.2.1.2.1
  exact ⟨nI_pos (by omega), nI_lt ha (by omega)⟩
theorem gdN_nI [gW0] (h : gCls T M k m) (hn : n < dNn M 37) : gdN M 37 (nI n) := by
  have := h.2.1.2.2.1
  exact ⟨nI_pos (by omega), nI_lt hn (by omega)⟩
theorem gdL_of [gW0] (h : gCls T M k m) (g : gdL M 37 i) : ∃ a, a < dNl M 37 ∧ i = nI a := nI_good (by have := h.2.1.2.1; omega) g
theorem gdN_of [gW0] (h : gCls T M k m) (g : gdN M 37 j) : ∃ a, a < dNn M 37 ∧ j = nI a := nI_good (by have := h.2.1.2.2.1; omega) g
theorem c_libY [gW0] (h : gCls T M k m) (g : gdL M 37 i) {α : Type} {X : Unit → Option (Nat ⊕ α)} : (f_X8_requireLibrary T M 0 i).bind (fun x1 => gcase x1 (fun k1 => some (.inl k1)) X) = X () := by
  rw [p_X8_reqLib (h.1.2 (0, 4, 37) (by decide +kernel)) (s_37 h.1) h.2.1.2.2.2.1, Option.bind_some, if_pos g]
  rfl
theorem c_libN [gW0] (h : gCls T M k m) (g : ¬ gdL M 37 i) {α : Type} {X : Unit → Option (Nat ⊕ α)} : (f_X8_requireLibrary T M 0 i).bind (fun x1 => gcase x1 (fun k1 => some (.inl k1)) X) = some (.inl 2) := by
  rw [p_X8_reqLib (h.1.2 (0, 4, 37) (by decide +kernel)) (s_37 h.1) h.2.1.2.2.2.1, Option.bind_some, if_neg g]
  rfl
theorem c_namY [gW0] (h : gCls T M k m) (g : gdN M 37 j) {α : Type} {X : Unit → Option (Nat ⊕ α)} : (f_X8_requireName T M 0 j).bind (fun x1 => gcase x1 (fun k1 => some (.inl k1)) X) = X () := by
  rw [p_X8_reqName (h.1.2 (0, 4, 37) (by decide +kernel)) (s_37 h.1) h.2.1.2.2.2.2.1, Option.bind_some, if_pos g]
  rfl
theorem c_namN [gW0] (h : gCls T M k m) (g : ¬ gdN M 37 j) {α : Type} {X : Unit → Option (Nat ⊕ α)} : (f_X8_requireName T M 0 j).bind (fun x1 => gcase x1 (fun k1 => some (.inl k1)) X) = some (.inl 2) := by
  rw [p_X8_reqName (h.1.2 (0, 4, 37) (by decide +kernel)) (s_37 h.1) h.2.1.2.2.2.2.1, Option.bind_some, if_neg g]
  rfl
theorem c_lnN [gW0] (h : gCls T M k m) (g : ¬ (gdL M 37 i ∧ gdN M 37 j)) {α : Type} {X : Unit → Option (Nat ⊕ α)} : (f_X8_requireLibrary T M 0 i).bind (fun x1 => gcase x1 (fun k1 => some (.inl k1)) (fun _ => (f_X8_requireName T M 0 j).bind (fun x2 => gcase x2 (fun k2 => some (.inl k2)) X))) = some (.inl 2) := by
  by_cases g1 : gdL M 37 i
  · rw [c_libY h g1, c_namN h (fun q => g ⟨g1, q⟩)]
  · rw [c_libN h g1]
theorem q_candY [gW0] (h : gCls T M k m) (hE : gEl M k m) (hn : n < dNn M 37) : f_X8_candidates T M 0 (nI n) = some (.inr (nI (cntN (fun i => decide (vCd M 37 i n)) (dNl M 37)))) := by
  have h12 := h.2.1.2.2.1
  unfold f_X8_candidates
  rw [c_namY h (gdN_nI h hn), r_0_5 h.1, Option.bind_some, r_66_1 h.1, Option.bind_some, ald_ok (s_68 h.1) (by omega) (by decide), Option.bind_some, (hE.2 n hn).1]
theorem q_candN [gW0] (h : gCls T M k m) (g : ¬ gdN M 37 j) : f_X8_candidates T M 0 j = some (.inl 2) := c_namN h g
theorem q_winY [gW0] (h : gCls T M k m) (hE : gEl M k m) (hn : n < dNn M 37) : f_X8_winner T M 0 (nI n) = some (.inr (vWin (vW M 37 k m) M 37 n)) := by
  have h12 := h.2.1.2.2.1
  unfold f_X8_winner
  rw [c_namY h (gdN_nI h hn), r_0_5 h.1, Option.bind_some, r_66_2 h.1, Option.bind_some, ald_ok (s_69 h.1) (by omega) (by decide), Option.bind_some, (hE.2 n hn).2.1]
theorem q_winN [gW0] (h : gCls T M k m) (g : ¬ gdN M 37 j) : f_X8_winner T M 0 j = some (.inl 2) := c_namN h g
theorem q_bndY [gW0] (h : gCls T M k m) (hE : gEl M k m) (ha : a < dNl M 37) (hn : n < dNn M 37) : f_X8_binding T M 0 (nI a) (nI n) = some (.inr (vBd (vW M 37 k m) M 37 a n)) := by
  have h8 := h.2.1.2.1
  have h12 := h.2.1.2.2.1
  unfold f_X8_binding
  rw [c_libY h (gdL_nI h ha), c_namY h (gdN_nI h hn), r_0_5 h.1, Option.bind_some, r_66_6 h.1, Option.bind_some, p_cell, Option.bind_some, ald_ok (s_73 h.1) (by omega) (by decide), Option.bind_some, ((hE.2 n hn).2.2.2 a ha).2.2]
theorem q_bndN [gW0] (h : gCls T M k m) (g : ¬ (gdL M 37 i ∧ gdN M 37 j)) : f_X8_binding T M 0 i j = some (.inl 2) := c_lnN h g
/-- how many loaded ones have another binding than the winner -/
def vMin (W : Nat → Nat) (M : gM) (D n t : Nat) : Nat := cntN (fun i => decide (dRk M D i ≠ -1 ∧ vBd W M D i n ≠ vWin W M D n)) t
/-- how many have the binding x -/
def vUs (W : Nat → Nat) (M : gM) (D n : Nat) (x : Int32) (t : Nat) : Nat := cntN (fun i => decide (vBd W M D i n = x)) t
theorem q_minY [gW0] (h : gCls T M k m) (hE : gEl M k m) (hn : n < dNn M 37) : f_X8_minority T M 0 (nI n) = some (.inr (nI (vMin (vW M 37 k m) M 37 n (dNl M 37)))) := by
  have h8 := h.2.1.2.1
  have h12 := h.2.1.2.2.1
  have hn1 := h.2.1.2.2.2.1
  unfold f_X8_minority
  rw [c_namY h (gdN_nI h hn), r_0_5 h.1, Option.bind_some, r_66_2 h.1, Option.bind_some, ald_ok (s_69 h.1) (by omega) (by decide), Option.bind_some, (hE.2 n hn).2.1]
  have hL := gloop_for (B := fun x => f_X8_minority_B20 T M 0 (nI n) (vWin (vW M 37 k m) M 37 n) x.1 x.2) (fu := gFU) (e := nI (vMin (vW M 37 k m) M 37 n (dNl M 37))) (fun t => (nI (vMin (vW M 37 k m) M 37 n t), nI t)) (dNl M 37) (Nat.lt_of_le_of_lt h8 (by decide)) (fun t hlt => ?_) ?_
  · rw [show (((0 : Int32), (0 : Int32)) : Int32 × Int32) = (nI (vMin (vW M 37 k m) M 37 n 0), nI 0) from rfl, hL, Option.bind_some]
  · show f_X8_minority_B20 T M 0 (nI n) (vWin (vW M 37 k m) M 37 n) (nI (vMin (vW M 37 k m) M 37 n t)) (nI t) = some (.inr (nI (vMin (vW M 37 k m) M 37 n (t + 1)), nI (t + 1)))
    unfold f_X8_minority_B20 f_X8_minority_69
    rw [r_0_4 h.1, Option.bind_some, hn1, if_neg (nI_ge hlt (by omega)), Option.bind_some, p_row1 h.2.1.1, Option.bind_some, p_row2 h.2.1.1 (by omega), Option.bind_some, p_isLoaded, Option.bind_some, nI_1]
    by_cases hl : gi M (37 + 5 + 3 * t) 2 = -1
    · rw [if_pos hl, if_pos rfl]
      have e : vMin (vW M 37 k m) M 37 n (t + 1) = vMin (vW M 37 k m) M 37 n t := by
        unfold vMin
        rw [cntN, decide_eq_false (fun q => q.1 hl)]
        rfl
      rw [e]
    · rw [if_neg hl, if_neg (by decide), r_0_5 h.1, Option.bind_some, r_66_6 h.1, Option.bind_some, p_cell, Option.bind_some, ald_ok (s_73 h.1) (by omega) (by decide), Option.bind_some, ((hE.2 n hn).2.2.2 t hlt).2.2]
      by_cases hb : vBd (vW M 37 k m) M 37 t n = vWin (vW M 37 k m) M 37 n
      · rw [if_pos hb]
        have e : vMin (vW M 37 k m) M 37 n (t + 1) = vMin (vW M 37 k m) M 37 n t := by
          unfold vMin
          rw [cntN, decide_eq_false (fun q => q.2 hb)]
          rfl
        rw [e]
      · rw [if_neg hb, nI_1]
        have e : vMin (vW M 37 k m) M 37 n (t + 1) = vMin (vW M 37 k m) M 37 n t + 1 := by
          unfold vMin
          rw [cntN, decide_eq_true (And.intro hl hb)]
          rfl
        rw [e]
  · show f_X8_minority_B20 T M 0 (nI n) (vWin (vW M 37 k m) M 37 n) (nI (vMin (vW M 37 k m) M 37 n (dNl M 37))) (nI (dNl M 37)) = _
    unfold f_X8_minority_B20
    rw [r_0_4 h.1, Option.bind_some, hn1, if_pos (nI_le (Nat.le_refl _) (by omega))]
theorem q_minN [gW0] (h : gCls T M k m) (g : ¬ gdN M 37 j) : f_X8_minority T M 0 j = some (.inl 2) := c_namN h g
theorem q_offY [gW0] (h : gCls T M k m) (ha : a < dNl M 37) (hn : n < dNn M 37) : f_X8_offer T M 0 (nI a) (nI n) = some (.inr (dOf M 37 a n)) := by
  have h8 := h.2.1.2.1
  have h12 := h.2.1.2.2.1
  rw [p_X8_offer (h.1.2 (0, 4, 37) (by decide +kernel)) h.2.1, if_pos ⟨gdL_nI h ha, gdN_nI h hn⟩, nI_clamp (by omega), nI_clamp (by omega)]
theorem q_offN [gW0] (h : gCls T M k m) (g : ¬ (gdL M 37 i ∧ gdN M 37 j)) : f_X8_offer T M 0 i j = some (.inl 2) := c_lnN h g
/-- what library tells: what 0 .. 5 -/
def vTl (M : gM) (D : Nat) (k : Nat → Nat × Nat) (m a w : Nat) : Int32 := if w = 0 then dTr M D a else if w = 1 then dKp M D a else if w = 2 then dRk M D a else if w = 3 then nI (cntN (fun n => decide (dOf M D a n ≠ -1)) 12) else if w = 4 then dPn M D a else if dRk M D a = -1 then -1 else nI (vW M D k m a)
theorem q_libY [gW0] (h : gCls T M k m) (hE : gEl M k m) (ha : a < dNl M 37) {w : Nat} (hw : w < 6) : f_X8_library T M 0 (nI a) (nI w) = some (.inr (vTl M 37 k m a w)) := by
  have h8 := h.2.1.2.1
  unfold f_X8_library vTl
  rw [c_libY h (gdL_nI h ha), r_0_4 h.1, Option.bind_some, p_row1 h.2.1.1, Option.bind_some, p_row2 h.2.1.1 (by omega), Option.bind_some]
  rcases (show w = 0 ∨ w = 1 ∨ w = 2 ∨ w = 3 ∨ w = 4 ∨ w = 5 by omega) with rfl | rfl | rfl | rfl | rfl | rfl
  · rfl
  · rw [if_neg (show ¬ (nI 1 = (0 : Int32)) by decide), if_pos (show nI 1 = (1 : Int32) from rfl)]
    rcases (h.2.1.2.2.2.2.2 a ha).2.1 with q | q
    · rw [if_pos (show gi M (37 + 5 + 3 * a) 1 = 0 from q)]
      exact congrArg (fun x => some (Sum.inr x)) q.symm
    · rw [if_neg (show ¬ gi M (37 + 5 + 3 * a) 1 = 0 from fun z => absurd (q.symm.trans z) (by decide))]
      exact congrArg (fun x => some (Sum.inr x)) q.symm
  · rfl
  · rw [if_neg (by decide), if_neg (by decide), if_neg (by decide), if_pos (by decide), p_countOffers h.2.1.1 (by omega), Option.bind_some]
    rfl
  · rfl
  · rw [if_neg (by decide), if_neg (by decide), if_neg (by decide), if_neg (by decide), if_neg (by decide), if_pos (by decide), r_0_5 h.1, Option.bind_some, r_66_0 h.1, Option.bind_some, ald_ok (s_67 h.1) (by omega) (by decide), Option.bind_some, hE.1 a ha]
    rfl
theorem q_libN [gW0] (h : gCls T M k m) (g : ¬ gdL M 37 i) : f_X8_library T M 0 i j = some (.inl 2) := c_libN h g
theorem q_libW [gW0] (h : gCls T M k m) (ha : a < dNl M 37) (g : ¬ (¬ j < 0 ∧ ¬ (5 : Int32) < j)) : f_X8_library T M 0 (nI a) j = some (.inl 1) := by
  have h8 := h.2.1.2.1
  have hne : ∀ w, w < 6 → ¬ j = nI w := fun w hw e => g (by
    subst e
    exact ⟨nI_pos (by omega), nI_nlt (a := 5) (b := w) (by omega) (by decide)⟩)
  unfold f_X8_library
  rw [c_libY h (gdL_nI h ha), r_0_4 h.1, Option.bind_some, p_row1 h.2.1.1, Option.bind_some, p_row2 h.2.1.1 (by omega), Option.bind_some, if_neg (show ¬ j = 0 from hne 0 (by omega)), if_neg (show ¬ j = 1 from hne 1 (by omega)), if_neg (show ¬ j = 2 from hne 2 (by omega)), if_neg (show ¬ j = 3 from hne 3 (by omega)), if_neg (show ¬ j = 4 from hne 4 (by omega)), if_neg (show ¬ j = 5 from hne 5 (by omega))]
end PCQ
