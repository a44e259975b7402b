/-! THE REFERENCE LAYS: weights and ranks; supports, winner, bindings of a name -/
section PLA
variable {T : gT} {M M0 : gM} {D : Nat} {k : Nat → Nat × Nat} {m n : Nat} {W : Nat → Nat}
theorem eA_hi {b : Nat} (h : 324 ≤ b ∧ b < 358) : eA b := Or.inl (by omega)
theorem a313_0 (h : gFx T M) : ald T M 313 (0 : Int32) = some (gi M 313 0) := p_mald (k := 0) (gMo_Fx h) (by omega)
theorem a313_1 (h : gFx T M) : ald T M 313 (1 : Int32) = some (gi M 313 1) := p_mald (k := 1) (gMo_Fx h) (by omega)
theorem a313_2 (h : gFx T M) : ald T M 313 (2 : Int32) = some (gi M 313 2) := p_mald (k := 2) (gMo_Fx h) (by omega)
theorem g313_1 (h : gRel T M D k m) : gi M 313 1 = nI (dNl M D) := h.2.2.1.2.1.trans h.2.1.2.2.2.1
theorem g313_2 (h : gRel T M D k m) : gi M 313 2 = nI (dNn M D) := h.2.2.1.2.2.1.trans h.2.1.2.2.2.2.1
def eRk (D : Nat) (M0 M : gM) : Prop := ∀ j, j < dNl M0 D → gi M 328 j = dRk M0 D j
def eWr (D : Nat) (M0 M : gM) (W : Nat → Nat) : Prop := ∀ j, j < dNl M0 D → gi M 327 j = if dRk M0 D j = -1 then -1 else nI (W j)
theorem p_rW (h : gRel T M D k m) : ∃ N, gloop (fun x => f_X9_layAll_B2 T x.2 311 x.1) gFU ((0 : Int32), M) = some N ∧ (fr (fun b _ => b = 327 ∨ b = 328) M N ∧ eWr D M N (vW M D k m) ∧ eRk D M N) := by
  have h8 := h.2.1.2.1
  refine gloop_ex (P := fun t y => y.1 = nI t ∧ t ≤ dNl M D ∧ fr (fun b _ => b = 327 ∨ b = 328) M y.2 ∧ (∀ j, j < t → gi y.2 327 j = if dRk M D j = -1 then -1 else nI (vW M D k m j)) ∧ ∀ j, j < t → gi y.2 328 j = dRk M D j) (fu := gFU) (dNl M D) (Nat.lt_of_le_of_lt h8 (by decide)) ⟨rfl, Nat.zero_le _, fr_refl, fun j hj => absurd hj (Nat.not_lt_zero j), fun j hj => absurd hj (Nat.not_lt_zero j)⟩ (fun t y _ hP => ?_)
  obtain ⟨y1, N⟩ := y
  obtain ⟨rfl, ht, hF, hw, hr⟩ := hP
  dsimp only at hF hw hr
  obtain ⟨hN, hd⟩ := gRel_fr h hF (fun b _ q => eA_hi (by omega))
  have hl := g313_1 hN
  rw [dNl_same hd] at hl
  show (∃ e, f_X9_layAll_B2 T N 311 (nI t) = some (.inl e) ∧ _) ∨ _
  unfold f_X9_layAll_B2
  rw [p_mdat (gMo_Fx hN.1), Option.bind_some, a313_1 hN.1, Option.bind_some, hl]
  by_cases e : t = dNl M D
  · rw [if_pos (nI_le (by omega) (by omega))]
    subst e
    exact Or.inl ⟨N, rfl, hF, hw, hr⟩
  · have hlt : t < dNl M D := by omega
    have htN : t < dNl N D := by rw [dNl_same hd]; exact hlt
    obtain ⟨l, c1, c2⟩ := p_X9_weightOf hN.1 hN.2.1 hN.2.2.1 htN hN.2.2.2.2.1 hN.2.2.2.2.2.1 hN.2.2.2.2.2.2.1
    rw [show wV k m (vQ N D t) = vW M D k m t from vW_same h hd t hlt, dRk_same hd (by omega)] at c1
    have hK : fr (fun b _ => b = 327 ∨ b = 328) N (N.1, l, N.2.2) := ⟨fun _ _ => rfl, c2, fun _ _ _ => rfl⟩
    have hX1 : gFx T (N.1, l, N.2.2) := hN.1
    rw [if_neg (nI_ge hlt (by omega)), r_311_19 hN.1, Option.bind_some, c1, Option.bind_some]
    dsimp only
    rw [ast_ok (s_327 hN.1) (show t < 8 by omega) (by decide), Option.bind_some]
    generalize hx : (if dRk M D t = -1 then (-1 : Int32) else nI (vW M D k m t)) = x
    have hF1 : fr (fun b _ => b = 327 ∨ b = 328) M (si (N.1, l, N.2.2) 327 t x) := fr_si (fr_trans hF hK) (Or.inl rfl)
    obtain ⟨hN1, hd1⟩ := gRel_fr h hF1 (fun b _ q => eA_hi (by omega))
    rw [r_311_20 hN1.1, Option.bind_some, p_mRank (gMo_Fx hN1.1) hN1.2.1 hN1.2.2.1 (show t < dNl _ D by rw [dNl_same hd1]; exact hlt), Option.bind_some, ast_ok (s_328 hN1.1) (show t < 8 by omega) (by decide), Option.bind_some, nI_1]
    refine Or.inr ⟨hlt, _, rfl, rfl, hlt, fr_si hF1 (Or.inr rfl), fun j hj => ?_, fun j hj => ?_⟩
    · show gi (si (si (N.1, l, N.2.2) 327 t x) 328 t _) 327 j = _
      rw [gi_si, if_neg (by omega), gi_si]
      by_cases ej : j = t
      · rw [if_pos ⟨rfl, ej⟩, ej, hx]
      · rw [if_neg (fun q => ej q.2)]
        exact hw j (by omega)
    · show gi (si (si (N.1, l, N.2.2) 327 t x) 328 t _) 328 j = _
      rw [gi_si]
      by_cases ej : j = t
      · rw [if_pos ⟨rfl, ej⟩, ej]
        exact dRk_same hd1 (by omega)
      · rw [if_neg (fun q => ej q.2), gi_si, if_neg (by omega)]
        exact hr j (by omega)
/-- the places that layName writes for the name n -/
def eR (n b j : Nat) : Prop := (331 ≤ b ∧ b < 348) ∧ j = n
theorem p_r7 (h : gRel T M0 D k m) (hF0 : fr (fun b _ => eA b) M0 M) (hn : n < dNn M0 D) : ∃ N, gloop (fun x => f_X9_layName_B7 T x.2 311 (nI n) (0 : Int32) (-1 : Int32) x.1) gFU ((0 : Int32), M) = some N ∧ (fr (fun b j => (331 ≤ b ∧ b < 339) ∧ j = n) M N ∧ ∀ i, i < dNl M0 D → gi N (331 + i) n = 0) := by
  have h8 := h.2.1.2.1
  have h12 := h.2.1.2.2.1
  refine gloop_ex (P := fun t y => y.1 = nI t ∧ t ≤ dNl M0 D ∧ fr (fun b j => (331 ≤ b ∧ b < 339) ∧ j = n) M y.2 ∧ ∀ i, i < t → gi y.2 (331 + i) n = 0) (fu := gFU) (dNl M0 D) (Nat.lt_of_le_of_lt h8 (by decide)) ⟨rfl, Nat.zero_le _, fr_refl, fun j hj => absurd hj (Nat.not_lt_zero j)⟩ (fun t y _ hP => ?_)
  obtain ⟨y1, N⟩ := y
  obtain ⟨rfl, ht, hF, hz⟩ := hP
  dsimp only at hF hz
  obtain ⟨-, hN, hd⟩ := eU h hF0 hF (fun b j q => eA_hi (by omega))
  have hl := g313_1 hN
  rw [dNl_same hd] at hl
  show (∃ e, f_X9_layName_B7 T N 311 (nI n) 0 (-1) (nI t) = some (.inl e) ∧ _) ∨ _
  unfold f_X9_layName_B7
  rw [p_mdat (gMo_Fx hN.1), Option.bind_some, a313_1 hN.1, Option.bind_some, hl]
  by_cases e : t = dNl M0 D
  · rw [if_pos (nI_le (by omega) (by omega))]
    subst e
    exact Or.inl ⟨N, rfl, hF, hz⟩
  · have hlt : t < dNl M0 D := by omega
    rw [if_neg (nI_ge hlt (by omega)), r_311_22 hN.1, Option.bind_some, w_sup hN.1 (by omega), Option.bind_some, ast_ok (s_sup hN.1 (by omega)) (by omega) (by decide), Option.bind_some, nI_1]
    refine Or.inr ⟨hlt, _, rfl, rfl, hlt, fr_si hF ⟨by omega, rfl⟩, fun j hj => ?_⟩
    show gi (si N (331 + t) n 0) (331 + j) n = 0
    rw [gi_si]
    by_cases ej : j = t
    · rw [if_pos (by omega)]
    · rw [if_neg (by omega)]
      exact hz j (by omega)
theorem p_r37 (h : gRel T M0 D k m) (hF0 : fr (fun b _ => eA b) M0 M) (hn : n < dNn M0 D) (hw : eWr D M0 M W) (hz : ∀ i, i < dNl M0 D → gi M (331 + i) n = 0) : ∃ e, gloop (fun x => f_X9_layName_B37 T x.2.2 311 (nI n) x.1 (-1 : Int32) x.2.1) gFU ((0 : Int32), (0 : Int32), M) = some e ∧ (e.1 = nI (vTot W M0 D n (dNl M0 D)) ∧ fr (fun b j => (331 ≤ b ∧ b < 339) ∧ j = n) M e.2 ∧ ∀ i, i < dNl M0 D → gi e.2 (331 + i) n = nI (vSup W M0 D n i (dNl M0 D))) := by
  have hV := h.2.1
  have h8 := h.2.1.2.1
  have h12 := h.2.1.2.2.1
  refine gloop_ex (P := fun t y => y.1 = nI (vTot W M0 D n t) ∧ y.2.1 = nI t ∧ t ≤ dNl M0 D ∧ fr (fun b j => (331 ≤ b ∧ b < 339) ∧ j = n) M y.2.2 ∧ ∀ i, i < dNl M0 D → gi y.2.2 (331 + i) n = nI (vSup W M0 D n i t)) (fu := gFU) (dNl M0 D) (Nat.lt_of_le_of_lt h8 (by decide)) ⟨rfl, rfl, Nat.zero_le _, fr_refl, hz⟩ (fun t y _ hP => ?_)
  obtain ⟨y1, y2, N⟩ := y
  obtain ⟨rfl, rfl, ht, hF, hs⟩ := hP
  dsimp only at hF hs
  obtain ⟨-, hN, hd⟩ := eU h hF0 hF (fun b j q => eA_hi (by omega))
  have hl := g313_1 hN
  rw [dNl_same hd] at hl
  show (∃ e, f_X9_layName_B37 T N 311 (nI n) (nI (vTot W M0 D n t)) (-1) (nI t) = some (.inl e) ∧ _) ∨ _
  unfold f_X9_layName_B37 f_X9_layName_95
  rw [p_mdat (gMo_Fx hN.1), Option.bind_some, a313_1 hN.1, Option.bind_some, hl]
  by_cases e : t = dNl M0 D
  · rw [if_pos (nI_le (by omega) (by omega))]
    subst e
    exact Or.inl ⟨_, rfl, rfl, hF, hs⟩
  · have hlt : t < dNl M0 D := by omega
    have et : vTot W M0 D n (t + 1) = vTot W M0 D n t + (if vVt M0 D t n = -1 then 0 else W t) := rfl
    rw [if_neg (nI_ge hlt (by omega)), p_mVote (gMo_Fx hN.1) hN.2.1 hN.2.2.1 (show t < dNl N D by rw [dNl_same hd]; exact hlt) (by omega), Option.bind_some, vVt_same hd hV hlt (by omega)]
    by_cases hno : vVt M0 D t n = -1
    · rw [if_neg (fun q => q hno), nI_1]
      refine Or.inr ⟨hlt, _, rfl, by rw [et, if_pos hno]; rfl, rfl, hlt, hF, fun j hj => ?_⟩
      have e4 : vSup W M0 D n j (t + 1) = vSup W M0 D n j t := by
        show vSup W M0 D n j t + (if vVt M0 D t n = nI j then W t else 0) = _
        rw [if_neg (fun q => nI_nneg (v := j) (by omega) (show ((-1 : Int32)).toInt < 0 by decide) (q.symm.trans hno))]
        rfl
      rw [e4]
      exact hs j hj
    · obtain ⟨c, hc, e1, e2⟩ := vVt_ok hV hlt hno
      have hldd : ¬ dRk M0 D t = -1 := fun q => hno (by unfold vVt; rw [if_pos q])
      have hXN : ∀ x, gFx T (si N (331 + c) n x) := fun x => gFx_gr hN.1 (fun _ _ => rfl)
      have w1 : gi N 327 t = nI (W t) := by
        rw [hF.2.2 327 t (fun q => by omega), hw t hlt, if_neg hldd]
      have w3 : ∀ x, gi (si N (331 + c) n x) 327 t = nI (W t) := fun x => by
        rw [gi_si, if_neg (by omega)]
        exact w1
      rw [if_pos hno, e1, r_311_22 hN.1, Option.bind_some, w_sup hN.1 (by omega), Option.bind_some, ald_ok (s_sup hN.1 (by omega)) (by omega) (by decide), Option.bind_some, r_311_19 hN.1, Option.bind_some, ald_ok (s_327 hN.1) (by omega) (by decide), Option.bind_some, w1, hs c hc, ast_ok (s_sup hN.1 (by omega)) (by omega) (by decide), Option.bind_some, r_311_19 (hXN _), Option.bind_some, ald_ok (s_327 hN.1) (by omega) (by decide), Option.bind_some, w3, nI_1, nI_add, nI_add]
      refine Or.inr ⟨hlt, _, rfl, by rw [et, if_neg hno], rfl, hlt, fr_si hF ⟨by omega, rfl⟩, fun j hj => ?_⟩
      show gi (si N (331 + c) n _) (331 + j) n = _
      have e4 : vSup W M0 D n j (t + 1) = vSup W M0 D n j t + (if vVt M0 D t n = nI j then W t else 0) := rfl
      rw [gi_si, e4, e1]
      by_cases ej : j = c
      · rw [if_pos (by omega), ej, if_pos rfl]
      · rw [if_neg (by omega), hs j hj, if_neg (show ¬ nI c = nI j from fun q => ej ((nI_eq (by omega) (by omega)).mp q).symm)]
        rfl
/-- the supports for the name n stand in 331 .. -/
def eSr (D : Nat) (M0 M : gM) (W : Nat → Nat) (n : Nat) : Prop := ∀ i, i < dNl M0 D → gi M (331 + i) n = nI (vSup W M0 D n i (dNl M0 D))
theorem p_r104 (hWl : ∀ i, W i ≤ 9999) (h : gRel T M0 D k m) (hF0 : fr (fun b _ => eA b) M0 M) (hn : n < dNn M0 D) (hs : eSr D M0 M W n) (hr : eRk D M0 M) {tt : Int32} : gloop (fun x => f_X9_layName_B104 T M 311 (nI n) tt x.1 x.2) gFU ((-1 : Int32), (0 : Int32)) = some (vWin W M0 D n) := by
  have hV := h.2.1
  have h8 := h.2.1.2.1
  have h12 := h.2.1.2.2.1
  obtain ⟨hM, hd⟩ := gRel_fr h hF0 (fun _ _ q => q)
  have hl := g313_1 hM
  rw [dNl_same hd] at hl
  refine gloop_for (B := fun x => f_X9_layName_B104 T M 311 (nI n) tt x.1 x.2) (fu := gFU) (e := vWin W M0 D n) (fun t => (oI (vBest W M0 D n t), nI t)) (dNl M0 D) (Nat.lt_of_le_of_lt h8 (by decide)) (fun t hlt => ?_) ?_
  · show f_X9_layName_B104 T M 311 (nI n) tt (oI (vBest W M0 D n t)) (nI t) = some (.inr (oI (vBest W M0 D n (t + 1)), nI (t + 1)))
    unfold f_X9_layName_B104 f_X9_layName_186
    have hbl : ∀ b, vBest W M0 D n t = some b → b < 8 := fun b hb => by have := vBest_lt hb; omega
    rw [p_mdat (gMo_Fx hM.1), Option.bind_some, a313_1 hM.1, Option.bind_some, hl, if_neg (nI_ge hlt (by omega)), p_mCand (gMo_Fx hM.1) hM.2.2.1 hM.2.1.2.1 (show t < dNl M D by rw [dNl_same hd]; exact hlt) (by omega), Option.bind_some, dRk_same hd (by omega), hd.off (by omega) (by omega), nI_1]
    by_cases hcd : dRk M0 D t = -1 ∨ dOf M0 D t n = -1
    · rw [if_pos hcd, if_neg (fun q => q rfl)]
      have e1 : vBest W M0 D n (t + 1) = vBest W M0 D n t := if_neg (fun q => q hcd)
      rw [e1]
    · rw [if_neg hcd, if_pos (by decide)]
      have e1 : vBest W M0 D n (t + 1) = (match vBest W M0 D n t with
        | none => some t
        | some b => if vSup W M0 D n b (dNl M0 D) < vSup W M0 D n t (dNl M0 D) ∨ vSup W M0 D n t (dNl M0 D) = vSup W M0 D n b (dNl M0 D) ∧ dRk M0 D t < dRk M0 D b then some t else some b) := if_pos hcd
      rw [e1]
      unfold f_X9_layName_155 f_X9_layName_183 f_X9_layName_186
      cases hb : vBest W M0 D n t with
      | none =>
        rw [if_neg (fun q => q (show oI none = -1 from rfl)), if_pos (by decide)]
        rw [nI_1]
        rfl
      | some b =>
        have hb8 := hbl b hb
        obtain ⟨hbt, hbc⟩ := vBest_lt hb
        have i1 := vSup_le (M := M0) (D := D) (n := n) (i := t) hWl (dNl M0 D)
        have i2 := vSup_le (M := M0) (D := D) (n := n) (i := b) hWl (dNl M0 D)
        have i3 : 9999 * dNl M0 D ≤ 9999 * 8 := Nat.mul_le_mul_left _ h8
        rw [if_pos (show ¬ oI (some b) = -1 from nI_nneg (v := b) (by omega) (by decide)), r_311_22 hM.1, Option.bind_some, w_sup hM.1 (by omega), Option.bind_some, ald_ok (s_sup hM.1 (by omega)) (by omega) (by decide), Option.bind_some, Option.bind_some, show oI (some b) = nI b from rfl, w_sup hM.1 hb8, Option.bind_some, ald_ok (s_sup hM.1 hb8) (by omega) (by decide), Option.bind_some, hs t hlt, hs b (by omega)]
        dsimp only
        generalize hA : vSup W M0 D n t (dNl M0 D) = A at *
        generalize hB : vSup W M0 D n b (dNl M0 D) = B at *
        have hz := pk_sub_toInt (a := A) (b := B) (by omega) (by omega)
        have hz1 : (0 : Int32) < nI A - nI B ↔ B < A := by
          rw [Int32.lt_iff_toInt_lt, hz, show (0 : Int32).toInt = 0 from rfl]
          omega
        have hz0 : nI A - nI B = 0 ↔ A = B := by
          rw [← Int32.toInt_inj, hz, show (0 : Int32).toInt = 0 from rfl]
          omega
        by_cases hlt2 : B < A
        · rw [if_pos (hz1.mpr hlt2), if_pos (Or.inl hlt2), nI_1]
          rfl
        · rw [if_neg (fun q => hlt2 (hz1.mp q))]
          by_cases hAB : A = B
          · rw [if_neg (fun q => q (hz0.mpr hAB)), r_311_20 hM.1, Option.bind_some, ald_ok (s_328 hM.1) (by omega) (by decide), Option.bind_some, Option.bind_some, ald_ok (s_328 hM.1) (by omega) (by decide), Option.bind_some, hr t hlt, hr b (by omega), nI_1]
            by_cases hrr : dRk M0 D t < dRk M0 D b
            · rw [if_neg (Int32.not_le.mpr hrr), if_pos (Or.inr ⟨hAB, hrr⟩)]
              rfl
            · rw [if_pos (Int32.not_lt.mp hrr), if_neg (show ¬ (B < A ∨ A = B ∧ dRk M0 D t < dRk M0 D b) from fun q => q.elim hlt2 (fun z => hrr z.2))]
              rfl
          · rw [if_pos (fun q => hAB (hz0.mp q)), if_neg (show ¬ (B < A ∨ A = B ∧ dRk M0 D t < dRk M0 D b) from fun q => q.elim hlt2 (fun z => hAB z.1)), nI_1]
            rfl
  · show f_X9_layName_B104 T M 311 (nI n) tt (oI (vBest W M0 D n (dNl M0 D))) (nI (dNl M0 D)) = _
    unfold f_X9_layName_B104
    rw [p_mdat (gMo_Fx hM.1), Option.bind_some, a313_1 hM.1, Option.bind_some, hl, if_pos (nI_le (Nat.le_refl _) (by omega))]
    rfl
theorem p_r202 (h : gRel T M0 D k m) (hF0 : fr (fun b _ => eA b) M0 M) (hn : n < dNn M0 D) (hs : eSr D M0 M W n) : ∃ N, gloop (fun x => f_X9_layName_B202 T x.2 311 (nI n) (nI (vTot W M0 D n (dNl M0 D))) (vWin W M0 D n) x.1) gFU ((0 : Int32), M) = some N ∧ (fr (fun b j => (340 ≤ b ∧ b < 348) ∧ j = n) M N ∧ ∀ i, i < dNl M0 D → gi N (340 + i) n = vBd W M0 D i n) := by
  have hV := h.2.1
  have h8 := h.2.1.2.1
  have h12 := h.2.1.2.2.1
  refine gloop_ex (P := fun t y => y.1 = nI t ∧ t ≤ dNl M0 D ∧ fr (fun b j => (340 ≤ b ∧ b < 348) ∧ j = n) M y.2 ∧ ∀ i, i < t → gi y.2 (340 + i) n = vBd W M0 D i n) (fu := gFU) (dNl M0 D) (Nat.lt_of_le_of_lt h8 (by decide)) ⟨rfl, Nat.zero_le _, fr_refl, fun j hj => absurd hj (Nat.not_lt_zero j)⟩ (fun t y _ hP => ?_)
  obtain ⟨y1, N⟩ := y
  obtain ⟨rfl, ht, hF, hbd⟩ := hP
  dsimp only at hF hbd
  obtain ⟨-, hN, hd⟩ := eU h hF0 hF (fun b j q => eA_hi (by omega))
  have hl := g313_1 hN
  rw [dNl_same hd] at hl
  show (∃ e, f_X9_layName_B202 T N 311 (nI n) (nI (vTot W M0 D n (dNl M0 D))) (vWin W M0 D n) (nI t) = some (.inl e) ∧ _) ∨ _
  unfold f_X9_layName_B202 f_X9_layName_271 f_X9_layName_272 f_X9_layName_306
  rw [p_mdat (gMo_Fx hN.1), Option.bind_some, a313_1 hN.1, Option.bind_some, hl]
  by_cases e : t = dNl M0 D
  · rw [if_pos (nI_le (by omega) (by omega))]
    subst e
    exact Or.inl ⟨N, rfl, hF, hbd⟩
  · have hlt : t < dNl M0 D := by omega
    have htN : t < dNl N D := by rw [dNl_same hd]; exact hlt
    have key : ∀ x : Int32, x = vBd W M0 D t n → (∃ e, (ast T N (340 + t) (nI n) x).bind (fun M1 => some (Sum.inr (α := gM) (nI t + (1 : Int32), M1))) = some (.inl e) ∧ (fr (fun b j => (340 ≤ b ∧ b < 348) ∧ j = n) M e ∧ ∀ i, i < dNl M0 D → gi e (340 + i) n = vBd W M0 D i n)) ∨ (t < dNl M0 D ∧ ∃ y', (ast T N (340 + t) (nI n) x).bind (fun M1 => some (Sum.inr (α := gM) (nI t + (1 : Int32), M1))) = some (.inr y') ∧ (y'.1 = nI (t + 1) ∧ t + 1 ≤ dNl M0 D ∧ fr (fun b j => (340 ≤ b ∧ b < 348) ∧ j = n) M y'.2 ∧ ∀ i, i < t + 1 → gi y'.2 (340 + i) n = vBd W M0 D i n)) := fun x hx => by
      rw [nI_1, ast_ok (s_bin hN.1 (by omega)) (by omega) (by decide), Option.bind_some]
      refine Or.inr ⟨hlt, _, rfl, rfl, hlt, fr_si hF ⟨by omega, rfl⟩, fun j hj => ?_⟩
      show gi (si N (340 + t) n _) (340 + j) n = _
      rw [gi_si]
      by_cases ej : j = t
      · rw [if_pos (by omega), ej, hx]
      · rw [if_neg (by omega)]
        exact hbd j (by omega)
    have eK : gi N 313 (6 + 24 * t + 1) = dKp M0 D t := (hN.2.2.1.2.2.2 t htN).2.1.trans (dKp_same hd (by omega))
    have eS : gi N 313 0 = gi M0 D 3 := hN.2.2.1.1.trans (hd.hd (Or.inr (Or.inr rfl)))
    rw [if_neg (nI_ge hlt (by omega)), p_mVote (gMo_Fx hN.1) hN.2.1 hN.2.2.1 htN (by omega), Option.bind_some, vVt_same hd hV hlt (by omega), Option.bind_some, p_at, Option.bind_some, show nI (6 + 24 * t) + (1 : Int32) = nI (6 + 24 * t + 1) from nI_1 _, p_mald (gMo_Fx hN.1) (by omega), Option.bind_some, eK, p_mLoaded (gMo_Fx hN.1) hN.2.2.1 hN.2.1.2.1 htN, dRk_same hd (by omega), r_311_23 hN.1, r_311_22 hN.1]
    simp only [Option.bind_some]
    rw [w_bin hN.1 (show t < 8 by omega)]
    simp only [Option.bind_some]
    by_cases hl2 : dRk M0 D t = -1
    · have eb : (-1 : Int32) = vBd W M0 D t n := by unfold vBd; rw [if_pos hl2]
      have hno : vVt M0 D t n = -1 := by unfold vVt; rw [if_pos hl2]
      rw [if_pos hl2, if_neg (show ¬ ¬ ((0 : Int32) = 0) from fun q => q rfl)]
      by_cases hk1 : dKp M0 D t = 1
      · rw [if_neg (fun q => q hk1), if_pos hno]
        exact key _ eb
      · rw [if_pos hk1]
        exact key _ eb
    · have z1 : ¬ ((1 : Int32) = 0) := by decide
      simp only [if_neg hl2, z1, not_false_eq_true, if_true, if_false]
      by_cases hk1 : dKp M0 D t = 1
      · rw [if_neg (fun q => q hk1)]
        by_cases hno : vVt M0 D t n = -1
        · rw [if_pos hno]
          exact key _ (by unfold vBd; rw [if_neg hl2, if_neg (fun q => q.2.1 hno)])
        · obtain ⟨c, hc, e1, e2⟩ := vVt_ok hV hlt hno
          have v3 : gi N (331 + c) n = nI (vSup W M0 D n c (dNl M0 D)) := by
            rw [hF.2.2 _ _ (fun q => by omega)]
            exact hs c hc
          have ecl : (vVt M0 D t n).toNatClampNeg = c := by rw [e1]; exact nI_clamp (by omega)
          rw [if_neg hno, e1, w_sup hN.1 (by omega), Option.bind_some, ald_ok (s_sup hN.1 (by omega)) (by omega) (by decide), Option.bind_some, a313_0 hN.1, Option.bind_some, v3, eS]
          by_cases hbig : (100 : Int32) * nI (vSup W M0 D n c (dNl M0 D)) < gi M0 D 3 * nI (vTot W M0 D n (dNl M0 D))
          · rw [if_pos hbig]
            exact key _ (by unfold vBd; rw [ecl, if_neg hl2, if_neg (fun q => q.2.2 hbig)])
          · rw [if_neg hbig]
            exact key _ (by unfold vBd; rw [ecl, if_neg hl2, if_pos ⟨hk1, hno, hbig⟩, e1])
      · rw [if_pos hk1]
        exact key _ (by unfold vBd; rw [if_neg hl2, if_neg (fun q => hk1 q.1)])
end PLA
