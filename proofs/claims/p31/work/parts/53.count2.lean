/-! THE CLASS COUNTS: winner, margin, bindings -/
section PCU
variable {T : gT} {M M0 : gM} {k : Nat → Nat × Nat} {m n : Nat} {W : Nat → Nat}
/-- the supports for the name n stand in 72 -/
def eSp (M0 M : gM) (W : Nat → Nat) (n : Nat) : Prop := ∀ i, i < dNl M0 37 → gi M 72 (12 * i + n) = vSp W M0 37 i n
theorem oI_no {o : Option Nat} (h : ∀ b, o = some b → b < 8) : oI o = -1 ↔ o = none := by
  cases o with
  | none => exact ⟨fun _ => rfl, fun _ => rfl⟩
  | some b => exact ⟨fun q => absurd q (nI_nneg (v := b) (by have := h b rfl; omega) (by decide)), fun q => by cases q⟩
theorem p_cWin [gW0] (hWl : ∀ i, W i ≤ 9999) (h : gCls T M0 k m) (hF0 : fr (fun b _ => eA b) M0 M) (hn : n < dNn M0 37) (hs : eSp M0 M W n) : ∃ N, f_X1_countWinner T M 66 37 (nI n) = some N ∧ (fr (fun b j => b = 69 ∧ j = n) M N ∧ gi N 69 n = vWin W M0 37 n) := by
  have hV := h.2.1
  have h8 := h.2.1.2.1
  have h12 := h.2.1.2.2.1
  have hn1 := h.2.1.2.2.2.1
  obtain ⟨hM, hd⟩ := gCls_fr h hF0 (fun _ _ q => q)
  unfold f_X1_countWinner
  have hL := gloop_for (B := fun x => f_X1_countWinner_B5 T M 66 37 (nI n) x.1 x.2) (fu := gFU) (e := oI (vBest W M0 37 n (dNl M0 37))) (fun t => (oI (vBest W M0 37 n t), nI t)) (dNl M0 37) (Nat.lt_of_le_of_lt h8 (by decide)) (fun t hlt => ?_) ?_
  · rw [show (((-1 : Int32), (0 : Int32)) : Int32 × Int32) = (oI (vBest W M0 37 n 0), nI 0) from rfl, hL, Option.bind_some, r_66_2 hM.1, Option.bind_some, ast_ok (s_69 hM.1) (by omega) (by decide), Option.bind_some]
    refine ⟨_, rfl, fr_si fr_refl ⟨rfl, rfl⟩, ?_⟩
    rw [gi_si, if_pos ⟨rfl, rfl⟩]
    rfl
  · show f_X1_countWinner_B5 T M 66 37 (nI n) (oI (vBest W M0 37 n t)) (nI t) = some (.inr (oI (vBest W M0 37 n (t + 1)), nI (t + 1)))
    unfold f_X1_countWinner_B5 f_X1_countWinner_44 f_X1_countWinner_41 f_X1_countWinner_44
    have hbl : ∀ b, vBest W M0 37 n t = some b → b < 8 := fun b hb => by have := vBest_lt hb; omega
    rw [show gi M 37 1 = nI (dNl M0 37) from (hd.hd (Or.inl rfl)).trans hn1, if_neg (nI_ge hlt (by omega)), p_isCandidate hM.2.1.1 (by omega) (by omega), Option.bind_some, dRk_same hd (by omega), hd.off (by omega) (by omega), nI_1]
    by_cases hcd : dRk M0 37 t = -1 ∨ dOf M0 37 t n = -1
    · rw [if_pos hcd, if_pos rfl]
      have e1 : vBest W M0 37 n (t + 1) = vBest W M0 37 n t := if_neg (fun q => q hcd)
      rw [e1]
    · rw [if_neg hcd, if_neg (by decide)]
      have e1 : vBest W M0 37 n (t + 1) = (match vBest W M0 37 n t with
        | none => some t
        | some b => if vSup W M0 37 n b (dNl M0 37) < vSup W M0 37 n t (dNl M0 37) ∨ vSup W M0 37 n t (dNl M0 37) = vSup W M0 37 n b (dNl M0 37) ∧ dRk M0 37 t < dRk M0 37 b then some t else some b) := if_pos hcd
      rw [e1]
      cases hb : vBest W M0 37 n t with
      | none =>
        rw [if_pos (show oI none = -1 from rfl)]
        rfl
      | some b =>
        have hb8 := hbl b hb
        obtain ⟨hbt, hbc⟩ := vBest_lt hb
        have i1 := vSup_le (M := M0) (D := 37) (n := n) (i := t) hWl (dNl M0 37)
        have i2 := vSup_le (M := M0) (D := 37) (n := n) (i := b) hWl (dNl M0 37)
        have i3 : 9999 * dNl M0 37 ≤ 9999 * 8 := Nat.mul_le_mul_left _ h8
        have s1 : gi M 72 (12 * t + n) = nI (vSup W M0 37 n t (dNl M0 37)) := (hs t hlt).trans (if_pos hcd)
        have s2 : gi M 72 (12 * b + n) = nI (vSup W M0 37 n b (dNl M0 37)) := (hs b (by omega)).trans (if_pos hbc)
        rw [if_neg (show ¬ oI (some b) = -1 from nI_nneg (v := b) (by omega) (by decide))]
        unfold f_X1_isAhead
        rw [r_66_5 hM.1, Option.bind_some, p_cell, Option.bind_some, ald_ok (s_72 hM.1) (by omega) (by decide), Option.bind_some, Option.bind_some, show oI (some b) = nI b from rfl, p_cell, Option.bind_some, ald_ok (s_72 hM.1) (by omega) (by decide), Option.bind_some, s1, s2]
        dsimp only
        generalize hA : vSup W M0 37 n t (dNl M0 37) = A at *
        generalize hB : vSup W M0 37 n b (dNl M0 37) = B at *
        by_cases hAB : A = B
        · rw [if_pos (by rw [hAB]), p_row1 hM.2.1.1, Option.bind_some, p_row2 hM.2.1.1 (by omega), Option.bind_some, Option.bind_some, p_row2 hM.2.1.1 hb8, Option.bind_some]
          rw [show gi M (37 + 5 + 3 * b) 2 = dRk M0 37 b from dRk_same hd hb8, show gi M (37 + 5 + 3 * t) 2 = dRk M0 37 t from dRk_same hd (by omega)]
          by_cases hr : dRk M0 37 t < dRk M0 37 b
          · rw [if_neg (Int32.not_le.mpr hr), Option.bind_some, if_neg (by decide), if_pos (Or.inr ⟨hAB, hr⟩)]
            rfl
          · rw [if_pos (Int32.not_lt.mp hr), Option.bind_some, if_pos rfl, if_neg (show ¬ (B < A ∨ A = B ∧ dRk M0 37 t < dRk M0 37 b) from fun q => q.elim (fun z => by omega) (fun z => hr z.2))]
            rfl
        · rw [if_neg (fun q => hAB ((nI_eq (by omega) (by omega)).mp q))]
          by_cases hlt2 : B < A
          · rw [if_neg (nI_ge hlt2 (by omega)), Option.bind_some, if_neg (by decide), if_pos (Or.inl hlt2)]
            rfl
          · rw [if_pos (nI_le (by omega) (by omega)), Option.bind_some, if_pos rfl, if_neg (show ¬ (B < A ∨ A = B ∧ dRk M0 37 t < dRk M0 37 b) from fun q => q.elim hlt2 (fun z => hAB z.1))]
            rfl
  · show f_X1_countWinner_B5 T M 66 37 (nI n) (oI (vBest W M0 37 n (dNl M0 37))) (nI (dNl M0 37)) = _
    unfold f_X1_countWinner_B5
    rw [show gi M 37 1 = nI (dNl M0 37) from (hd.hd (Or.inl rfl)).trans hn1, if_pos (nI_le (Nat.le_refl _) (by omega))]
theorem vMx_le (hWl : ∀ i, W i ≤ 9999) {D b : Nat} : ∀ t, vMx W M0 D n b t ≤ 9999 * dNl M0 D
  | 0 => Nat.zero_le _
  | t + 1 => by
    have := vMx_le hWl (D := D) (b := b) t
    have := vSup_le (M := M0) (D := D) (n := n) (i := t) hWl (dNl M0 D)
    unfold vMx
    split
    · omega
    · omega
theorem imax_nI {a b : Nat} (ha : a < 2 ^ 31) (hb : b < 2 ^ 31) : imax (nI a) (nI b) = nI (max a b) := by
  by_cases h : a < b
  · rw [show imax (nI a) (nI b) = nI b from if_pos (nI_lt h hb), Nat.max_eq_right (by omega)]
  · rw [show imax (nI a) (nI b) = nI a from if_neg (nI_nlt (by omega) ha), Nat.max_eq_left (by omega)]
theorem imax_m1 {a : Nat} (ha : a < 2 ^ 31) : imax (nI a) (-1) = nI a := if_neg (by
  rw [Int32.lt_iff_toInt_lt, nI_toInt ha, show (-1 : Int32).toInt = -1 from rfl]
  omega)
theorem p_cMar [gW0] (hWl : ∀ i, W i ≤ 9999) (h : gCls T M0 k m) (hF0 : fr (fun b _ => eA b) M0 M) (hn : n < dNn M0 37) (hs : eSp M0 M W n) (hw : gi M 69 n = vWin W M0 37 n) : ∃ N, f_X1_countMargin T M 66 37 (nI n) = some N ∧ (fr (fun b j => b = 70 ∧ j = n) M N ∧ gi N 70 n = vMar W M0 37 n) := by
  have hV := h.2.1
  have h8 := h.2.1.2.1
  have h12 := h.2.1.2.2.1
  have hn1 := h.2.1.2.2.2.1
  have i3 : 9999 * dNl M0 37 ≤ 9999 * 8 := Nat.mul_le_mul_left _ h8
  obtain ⟨hM, hd⟩ := gCls_fr h hF0 (fun _ _ q => q)
  unfold f_X1_countMargin vMar
  rw [r_66_2 hM.1, Option.bind_some, ald_ok (s_69 hM.1) (by omega) (by decide), Option.bind_some, hw]
  unfold vWin
  cases hb : vBest W M0 37 n (dNl M0 37) with
  | none =>
    rw [if_neg (fun q => q rfl), r_66_3 hM.1, Option.bind_some, ast_ok (s_70 hM.1) (by omega) (by decide), Option.bind_some]
    refine ⟨_, rfl, fr_si fr_refl ⟨rfl, rfl⟩, ?_⟩
    rw [gi_si, if_pos ⟨rfl, rfl⟩]
  | some b =>
    obtain ⟨hbt, hbc⟩ := vBest_lt hb
    rw [if_pos (show ¬ oI (some b) = -1 from nI_nneg (v := b) (by omega) (by decide))]
    show ∃ N, (gloop (fun x => f_X1_countMargin_B26 T M 66 37 (nI n) (nI b) x.1 x.2) gFU ((0 : Int32), (0 : Int32))).bind _ = some N ∧ _
    have hL := gloop_for (B := fun x => f_X1_countMargin_B26 T M 66 37 (nI n) (nI b) x.1 x.2) (fu := gFU) (e := nI (vMx W M0 37 n b (dNl M0 37))) (fun t => (nI (vMx W M0 37 n b t), nI t)) (dNl M0 37) (Nat.lt_of_le_of_lt h8 (by decide)) (fun t hlt => ?_) ?_
    · rw [show (((0 : Int32), (0 : Int32)) : Int32 × Int32) = (nI (vMx W M0 37 n b 0), nI 0) from rfl, hL, Option.bind_some, r_66_3 hM.1, Option.bind_some, r_66_5 hM.1, Option.bind_some, show oI (some b) = nI b from rfl, p_cell, Option.bind_some, ald_ok (s_72 hM.1) (by omega) (by decide), Option.bind_some, ast_ok (s_70 hM.1) (by omega) (by decide), Option.bind_some]
      refine ⟨_, rfl, fr_si fr_refl ⟨rfl, rfl⟩, ?_⟩
      rw [gi_si, if_pos ⟨rfl, rfl⟩, hs b hbt]
      unfold vSp
      rw [if_pos hbc]
    · show f_X1_countMargin_B26 T M 66 37 (nI n) (nI b) (nI (vMx W M0 37 n b t)) (nI t) = some (.inr (nI (vMx W M0 37 n b (t + 1)), nI (t + 1)))
      unfold f_X1_countMargin_B26 f_X1_countMargin_59
      have j1 := vMx_le (M0 := M0) (D := 37) (n := n) hWl (b := b) t
      have j2 := vSup_le (M := M0) (D := 37) (n := n) (i := t) hWl (dNl M0 37)
      rw [show gi M 37 1 = nI (dNl M0 37) from (hd.hd (Or.inl rfl)).trans hn1, if_neg (nI_ge hlt (by omega)), nI_1]
      by_cases e : t = b
      · rw [if_pos (by rw [e])]
        have e1 : vMx W M0 37 n b (t + 1) = vMx W M0 37 n b t := if_neg (fun q => q.1 e)
        rw [e1]
      · rw [if_neg (fun q => e ((nI_eq (by omega) (by omega)).mp q)), r_66_5 hM.1, Option.bind_some, p_cell, Option.bind_some, ald_ok (s_72 hM.1) (by omega) (by decide), Option.bind_some, hs t hlt]
        unfold vSp
        by_cases hc : vCd M0 37 t n
        · have e1 : vMx W M0 37 n b (t + 1) = max (vMx W M0 37 n b t) (vSup W M0 37 n t (dNl M0 37)) := if_pos ⟨e, hc⟩
          rw [if_pos hc, imax_nI (by omega) (by omega), e1]
        · have e1 : vMx W M0 37 n b (t + 1) = vMx W M0 37 n b t := if_neg (fun q => hc q.2)
          rw [if_neg hc, imax_m1 (by omega), e1]
    · show f_X1_countMargin_B26 T M 66 37 (nI n) (nI b) (nI (vMx W M0 37 n b (dNl M0 37))) (nI (dNl M0 37)) = _
      unfold f_X1_countMargin_B26
      rw [show gi M 37 1 = nI (dNl M0 37) from (hd.hd (Or.inl rfl)).trans hn1, if_pos (nI_le (Nat.le_refl _) (by omega))]
theorem p_cBd [gW0] (hWl : ∀ i, W i ≤ 9999) (h : gCls T M0 k m) (hF0 : fr (fun b _ => eA b) M0 M) (hn : n < dNn M0 37) (hs : eSp M0 M W n) (hv : ∀ i, i < dNl M0 37 → gi M 71 (12 * i + n) = vVt M0 37 i n) (hw : gi M 69 n = vWin W M0 37 n) : ∃ N, f_X1_countBindings T M 66 37 (nI n) = some N ∧ (fr (fun b j => b = 73 ∧ j % 12 = n) M N ∧ ∀ i, i < dNl M0 37 → gi N 73 (12 * i + n) = vBd W M0 37 i n) := by
  have hV := h.2.1
  have h8 := h.2.1.2.1
  have h12 := h.2.1.2.2.1
  have hn1 := h.2.1.2.2.2.1
  have i3 : 9999 * dNl M0 37 ≤ 9999 * 8 := Nat.mul_le_mul_left _ h8
  obtain ⟨hM, hd⟩ := gCls_fr h hF0 (fun _ _ q => q)
  unfold f_X1_countBindings
  have hA := gloop_for (B := fun x => f_X1_countBindings_B5 T M 66 37 (nI n) x.1 x.2) (fu := gFU) (e := nI (vTot W M0 37 n (dNl M0 37))) (fun t => (nI (sumN (fun i => if vCd M0 37 i n then vSup W M0 37 n i (dNl M0 37) else 0) t), nI t)) (dNl M0 37) (Nat.lt_of_le_of_lt h8 (by decide)) (fun t hlt => ?_) ?_
  · have hL : ∃ N, gloop (fun x => f_X1_countBindings_B41 T x.2 66 37 (nI n) (nI (vTot W M0 37 n (dNl M0 37))) x.1) gFU ((0 : Int32), M) = some N ∧ (fr (fun b j => b = 73 ∧ j % 12 = n) M N ∧ ∀ i, i < dNl M0 37 → gi N 73 (12 * i + n) = vBd W M0 37 i n) := by
      refine gloop_ex (P := fun t y => y.1 = nI t ∧ t ≤ dNl M0 37 ∧ fr (fun b j => b = 73 ∧ j % 12 = n) M y.2 ∧ ∀ i, i < t → gi y.2 73 (12 * i + n) = vBd W M0 37 i n) (fu := gFU) (dNl M0 37) (Nat.lt_of_le_of_lt h8 (by decide)) ⟨rfl, Nat.zero_le _, fr_refl, fun j hj => absurd hj (Nat.not_lt_zero j)⟩ (fun t y _ hP => ?_)
      obtain ⟨y1, N⟩ := y
      obtain ⟨rfl, ht, hF, hbd⟩ := hP
      dsimp only at hF hbd
      obtain ⟨-, hN, hdN⟩ := eC h hF0 hF (fun b j q => eA_lo (by omega))
      show (∃ e, f_X1_countBindings_B41 T N 66 37 (nI n) (nI (vTot W M0 37 n (dNl M0 37))) (nI t) = some (.inl e) ∧ _) ∨ _
      unfold f_X1_countBindings_B41 f_X1_countBindings_132 f_X1_countBindings_145
      rw [show gi N 37 1 = nI (dNl M0 37) from (hdN.hd (Or.inl rfl)).trans hn1]
      by_cases e : t = dNl M0 37
      · rw [if_pos (nI_le (by omega) (by omega))]
        subst e
        exact Or.inl ⟨N, rfl, hF, hbd⟩
      · have hlt : t < dNl M0 37 := by omega
        have key : ∀ x : Int32, x = vBd W M0 37 t n → (∃ e, some (Sum.inr (α := gM) (nI t + (1 : Int32), si N 73 (12 * t + n) x)) = some (.inl e) ∧ (fr (fun b j => b = 73 ∧ j % 12 = n) M e ∧ ∀ i, i < dNl M0 37 → gi e 73 (12 * i + n) = vBd W M0 37 i n)) ∨ (t < dNl M0 37 ∧ ∃ y', some (Sum.inr (α := gM) (nI t + (1 : Int32), si N 73 (12 * t + n) x)) = some (.inr y') ∧ (y'.1 = nI (t + 1) ∧ t + 1 ≤ dNl M0 37 ∧ fr (fun b j => b = 73 ∧ j % 12 = n) M y'.2 ∧ ∀ i, i < t + 1 → gi y'.2 73 (12 * i + n) = vBd W M0 37 i n)) := fun x hx => by
          rw [nI_1]
          refine Or.inr ⟨hlt, _, rfl, rfl, hlt, fr_si hF ⟨rfl, by omega⟩, fun j hj => ?_⟩
          show gi (si N 73 _ _) 73 _ = _
          rw [gi_si]
          by_cases ej : j = t
          · rw [if_pos ⟨rfl, by omega⟩, ej, hx]
          · rw [if_neg (by omega)]
            exact hbd j (by omega)
        have v1 : gi N 71 (12 * t + n) = vVt M0 37 t n := by rw [hF.2.2 71 _ (fun q => by omega)]; exact hv t hlt
        have v2 : gi N 69 n = vWin W M0 37 n := by rw [hF.2.2 69 _ (fun q => by omega)]; exact hw
        rw [if_neg (nI_ge hlt (by omega)), p_cell, Option.bind_some, p_row1 hN.2.1.1, Option.bind_some, p_row2 hN.2.1.1 (by omega), Option.bind_some, p_isLoaded, Option.bind_some, show gi N (37 + 5 + 3 * t) 2 = dRk M0 37 t from dRk_same hdN (by omega)]
        by_cases hl : dRk M0 37 t = -1
        · rw [if_pos hl, if_neg (fun q => q rfl), r_66_6 hN.1, Option.bind_some, ast_ok (s_73 hN.1) (by omega) (by decide), Option.bind_some]
          exact key _ (by unfold vBd; rw [if_pos hl])
        · rw [if_neg hl, if_pos (by decide), Option.bind_some, p_row2 hN.2.1.1 (by omega), Option.bind_some, show gi N (37 + 5 + 3 * t) 1 = dKp M0 37 t from dKp_same hdN (by omega)]
          by_cases hkp : dKp M0 37 t = 0
          · rw [if_pos hkp, r_66_6 hN.1, Option.bind_some, r_66_2 hN.1, Option.bind_some, ald_ok (s_69 hN.1) (by omega) (by decide), Option.bind_some, v2, ast_ok (s_73 hN.1) (by omega) (by decide), Option.bind_some]
            exact key _ (by unfold vBd; rw [if_neg hl, if_neg (fun q => by rw [hkp] at q; exact absurd q.1 (by decide))])
          · have hk1 : dKp M0 37 t = 1 := (hV.2.2.2.2.2 t hlt).2.1.resolve_left hkp
            rw [if_neg hkp, r_66_4 hN.1, Option.bind_some, ald_ok (s_71 hN.1) (by omega) (by decide), Option.bind_some, v1, show gi N 37 3 = gi M0 37 3 from hdN.hd (Or.inr (Or.inr rfl))]
            unfold f_X1_isLargeEnough f_X1_isLargeEnough_29
            by_cases hno : vVt M0 37 t n = -1
            · rw [if_pos hno, Option.bind_some, if_pos rfl, r_66_6 hN.1, Option.bind_some, r_66_2 hN.1, Option.bind_some, ald_ok (s_69 hN.1) (by omega) (by decide), Option.bind_some, v2, ast_ok (s_73 hN.1) (by omega) (by decide), Option.bind_some]
              exact key _ (by unfold vBd; rw [if_neg hl, if_neg (fun q => q.2.1 hno)])
            · obtain ⟨c, hc, e1, e2⟩ := vVt_ok hV hlt hno
              have v3 : gi N 72 (12 * c + n) = nI (vSup W M0 37 n c (dNl M0 37)) := by
                rw [hF.2.2 72 _ (fun q => by omega), hs c hc]
                exact if_pos e2
              have ecl : (vVt M0 37 t n).toNatClampNeg = c := by rw [e1]; exact nI_clamp (by omega)
              rw [if_neg hno, r_66_5 hN.1, Option.bind_some, e1, p_cell, Option.bind_some, ald_ok (s_72 hN.1) (by omega) (by decide), Option.bind_some, v3]
              by_cases hbig : (100 : Int32) * nI (vSup W M0 37 n c (dNl M0 37)) < gi M0 37 3 * nI (vTot W M0 37 n (dNl M0 37))
              · rw [if_pos hbig, Option.bind_some, if_pos rfl, r_66_6 hN.1, Option.bind_some, r_66_2 hN.1, Option.bind_some, ald_ok (s_69 hN.1) (by omega) (by decide), Option.bind_some, v2, ast_ok (s_73 hN.1) (by omega) (by decide), Option.bind_some]
                exact key _ (by unfold vBd; rw [ecl, if_neg hl, if_neg (fun q => q.2.2 hbig)])
              · rw [if_neg hbig, Option.bind_some, if_neg (by decide), r_66_6 hN.1, Option.bind_some, Option.bind_some, ald_ok (s_71 hN.1) (by omega) (by decide), Option.bind_some, v1, ast_ok (s_73 hN.1) (by omega) (by decide), Option.bind_some]
                exact key _ (by unfold vBd; rw [ecl, if_neg hl, if_pos ⟨hk1, hno, hbig⟩])
    obtain ⟨N, c1, c2⟩ := hL
    rw [show (((0 : Int32), (0 : Int32)) : Int32 × Int32) = (nI (sumN (fun i => if vCd M0 37 i n then vSup W M0 37 n i (dNl M0 37) else 0) 0), nI 0) from rfl, hA, Option.bind_some, c1, Option.bind_some]
    exact ⟨N, rfl, c2⟩
  · show f_X1_countBindings_B5 T M 66 37 (nI n) _ (nI t) = some (.inr (_, nI (t + 1)))
    unfold f_X1_countBindings_B5
    rw [show gi M 37 1 = nI (dNl M0 37) from (hd.hd (Or.inl rfl)).trans hn1, if_neg (nI_ge hlt (by omega)), nI_1, r_66_5 hM.1, Option.bind_some, p_cell, Option.bind_some, ald_ok (s_72 hM.1) (by omega) (by decide), Option.bind_some, hs t hlt]
    have j2 := vSup_le (M := M0) (D := 37) (n := n) (i := t) hWl (dNl M0 37)
    unfold vSp
    show some (Sum.inr (_ + _, _)) = some (Sum.inr (nI (sumN _ t + (if vCd M0 37 t n then vSup W M0 37 n t (dNl M0 37) else 0)), _))
    by_cases hc : vCd M0 37 t n
    · rw [if_pos hc, if_pos hc, show (0 : Int32) = nI 0 from rfl, imax_nI (by omega) (by omega), nI_add, Nat.zero_max]
    · rw [if_neg hc, if_neg hc, show (0 : Int32) = nI 0 from rfl, imax_m1 (by omega), nI_add]
  · show f_X1_countBindings_B5 T M 66 37 (nI n) _ (nI (dNl M0 37)) = _
    unfold f_X1_countBindings_B5
    rw [show gi M 37 1 = nI (dNl M0 37) from (hd.hd (Or.inl rfl)).trans hn1, if_pos (nI_le (Nat.le_refl _) (by omega)), vTot_sum hV (Nat.le_refl _)]
end PCU
