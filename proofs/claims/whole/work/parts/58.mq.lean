/-! QUERIES of the reference -/
/-- the places that a query may write -/
def qA (b j : Nat) : Prop := (327 ≤ b ∧ b < 348) ∨ b = 357 ∨ (b = 311 ∧ (j = 0 ∨ j = 26)) ∨ b = 74 ∨ b = 75
theorem qA_eA (b j : Nat) (h : qA b j) : eA b := Or.inl (by unfold qA at h; omega)
section PMQ
variable {T : gT} {M : gM} {D : Nat} {k : Nat → Nat × Nat} {m n a : Nat} {i j : Int32}
theorem gdL_nR (h : gRel T M D k m) (ha : a < dNl M D) : gdL M D (nI a) := by
  have := h.2.1.2.1
  exact ⟨nI_pos (by omega), nI_lt ha (by omega)⟩
theorem gdN_nR (h : gRel T M D k m) (hn : n < dNn M D) : gdN M D (nI n) := by
  have := h.2.1.2.2.1
  exact ⟨nI_pos (by omega), nI_lt hn (by omega)⟩
theorem m_st (h : gRel T M D k m) : gRel T (si M 311 0 0) D k m ∧ dSame (si M 311 0 0) D M D ∧ gi (si M 311 0 0) 311 0 = 0 ∧ fr qA M (si M 311 0 0) := by
  have f : fr qA M (si M 311 0 0) := fr_si fr_refl (Or.inr (Or.inr (Or.inl ⟨rfl, Or.inl rfl⟩)))
  obtain ⟨r, d⟩ := gRel_fr h f (fun b j q => qA_eA b j q)
  exact ⟨r, d, by rw [gi_si, if_pos ⟨rfl, rfl⟩], f⟩
theorem m_fr1 (h : fr qA M (si M 311 0 0)) {x : Int32} : fr qA M (si (si M 311 0 0) 311 0 x) := fr_si h (Or.inr (Or.inr (Or.inl ⟨rfl, Or.inl rfl⟩)))
theorem m_libY (h : gRel T M D k m) (g : gdL M D i) (ht : gi M 311 0 = 0) : f_X9_noLibrary T M 311 i = some (0, M) := by
  rw [p_X9_noLib (gMo_Fx h.1) (g313_1 h) (by have := h.2.1.2.1; omega) ht, if_pos g]
theorem m_libN (h : gRel T M D k m) (g : ¬ gdL M D i) (ht : gi M 311 0 = 0) : f_X9_noLibrary T M 311 i = some (1, si M 311 0 1) := by
  rw [p_X9_noLib (gMo_Fx h.1) (g313_1 h) (by have := h.2.1.2.1; omega) ht, if_neg g]
theorem m_namY (h : gRel T M D k m) (g : gdN M D j) (ht : gi M 311 0 = 0) : f_X9_noName T M 311 j = some (0, M) := by
  rw [p_X9_noName (gMo_Fx h.1) (g313_2 h) (by have := h.2.1.2.2.1; omega) ht, if_pos g]
theorem m_namN (h : gRel T M D k m) (g : ¬ gdN M D j) (ht : gi M 311 0 = 0) : f_X9_noName T M 311 j = some (1, si M 311 0 1) := by
  rw [p_X9_noName (gMo_Fx h.1) (g313_2 h) (by have := h.2.1.2.2.1; omega) ht, if_neg g]
theorem gdL_same {N : gM} (d : dSame N D M D) : gdL N D i ↔ gdL M D i := by
  unfold gdL
  rw [dNl_same d]
theorem gdN_same {N : gM} (d : dSame N D M D) : gdN N D j ↔ gdN M D j := by
  unfold gdN
  rw [dNn_same d]
/-- what a reference's method that is refused leaves -/
def mNo (T : gT) (M : gM) (r : Option (Int32 × gM)) : Prop := ∃ v N, r = some (v, N) ∧ fr qA M N ∧ gi N 311 0 = 1
/-- .. and one that answers v -/
def mYes (M : gM) (r : Option (Int32 × gM)) (v : Int32) : Prop := ∃ N, r = some (v, N) ∧ fr qA M N ∧ gi N 311 0 = 0
theorem m_missN (h : gRel T M D k m) (g : ¬ (gdL M D i ∧ gdN M D j)) (ht : gi M 311 0 = 0) : f_X9_isMissing T M 311 i j = some (1, si M 311 0 1) := by
  unfold f_X9_isMissing
  by_cases g1 : gdL M D i
  · rw [m_libY h g1 ht, Option.bind_some, if_neg (fun q => q rfl), m_namN h (fun q => g ⟨g1, q⟩) ht, Option.bind_some, if_neg (show ¬ ((1 : Int32) = 0) by decide)]
  · rw [m_libN h g1 ht, Option.bind_some, if_pos (show ¬ ((1 : Int32) = 0) by decide)]
theorem m_missY (h : gRel T M D k m) (g1 : gdL M D i) (g2 : gdN M D j) (ht : gi M 311 0 = 0) : ∃ N, f_X9_isMissing T M 311 i j = some (0, N) ∧ fr (fun b _ => 327 ≤ b ∧ b < 348) M N ∧ gRel T N D k m ∧ dSame N D M D ∧ ∀ n, n < dNn M D → gLyN D M N (vW M D k m) n := by
  unfold f_X9_isMissing
  obtain ⟨N, c1, c2, c3, c4, c5⟩ := p_layAll h
  rw [m_libY h g1 ht, Option.bind_some, if_neg (fun q => q rfl), m_namY h g2 ht, Option.bind_some, if_pos rfl, c1, Option.bind_some]
  exact ⟨N, rfl, c2, c3, c4, c5⟩
/-- everything behind the start of a method that lays -/
theorem m_lay0 (h : gRel T M D k m) : ∃ N, f_X9_layAll T (si M 311 0 0) 311 = some N ∧ fr qA M N ∧ gi N 311 0 = 0 ∧ gRel T N D k m ∧ dSame N D M D ∧ ∀ n, n < dNn M D → gLyN D M N (vW M D k m) n := by
  obtain ⟨r, d, ht, f⟩ := m_st h
  obtain ⟨N, c1, c2, c3, c4, c5⟩ := p_layAll r
  have f2 : fr qA M N := fr_trans f (fr_mono c2 (fun b j q => Or.inl q))
  obtain ⟨-, d2⟩ := gRel_fr h f2 (fun b j q => qA_eA b j q)
  refine ⟨N, c1, f2, by rw [c2.2.2 311 0 (fun q => by omega)]; exact ht, c3, d2, fun n hn => ?_⟩
  have h8 := h.2.1.2.1
  have h12 := h.2.1.2.2.1
  obtain ⟨e1, e2⟩ := c5 n (by rw [dNn_same d]; exact hn)
  have hW := vW_same h d
  refine ⟨by rw [e1]; exact vWin_same d h.2.1 (by omega) hW, fun i hi => ?_⟩
  obtain ⟨e3, e4⟩ := e2 i (by rw [dNl_same d]; exact hi)
  exact ⟨by rw [e3, dNl_same d]; exact congrArg nI (vSup_same d h.2.1 (by omega) hW (Nat.le_refl _)), by rw [e4]; exact vBd_same d h.2.1 hi (by omega) hW⟩
theorem m_miss0 (h : gRel T M D k m) (g1 : gdL M D i) (g2 : gdN M D j) : ∃ N, f_X9_isMissing T (si M 311 0 0) 311 i j = some (0, N) ∧ fr qA M N ∧ gi N 311 0 = 0 ∧ gRel T N D k m ∧ dSame N D M D ∧ ∀ n, n < dNn M D → gLyN D M N (vW M D k m) n := by
  obtain ⟨r, d, ht, f⟩ := m_st h
  obtain ⟨N, c1, c2⟩ := m_lay0 h
  refine ⟨N, ?_, c2⟩
  unfold f_X9_isMissing
  rw [m_libY r ((gdL_same d).mpr g1) ht, Option.bind_some, if_neg (fun q => q rfl), m_namY r ((gdN_same d).mpr g2) ht, Option.bind_some, if_pos rfl, c1, Option.bind_some]
theorem m_lnN (h : gRel T M D k m) (g : ¬ (gdL M D i ∧ gdN M D j)) {X Y Z : Int32 × gM → Option (Int32 × gM)} (hY : ∀ x, Y x = some (0, x.2)) (hZ : ∀ x, Z x = some (0, x.2)) : mNo T M ((f_X9_noLibrary T (si M 311 0 0) 311 i).bind fun x1 => if ¬ x1.1 = 0 then Y x1 else (f_X9_noName T x1.2 311 j).bind fun x3 => if x3.1 = 0 then X x3 else Z x3) := by
  obtain ⟨r, d, ht, f⟩ := m_st h
  by_cases g1 : gdL M D i
  · refine ⟨0, si (si M 311 0 0) 311 0 1, ?_, m_fr1 f, by rw [gi_si, if_pos ⟨rfl, rfl⟩]⟩
    rw [m_libY r ((gdL_same d).mpr g1) ht, Option.bind_some, if_neg (fun q => q rfl), m_namN r (fun q => g ⟨g1, (gdN_same d).mp q⟩) ht, Option.bind_some, if_neg (show ¬ ((1 : Int32) = 0) by decide), hZ]
  · refine ⟨0, si (si M 311 0 0) 311 0 1, ?_, m_fr1 f, by rw [gi_si, if_pos ⟨rfl, rfl⟩]⟩
    rw [m_libN r (fun q => g1 ((gdL_same d).mp q)) ht, Option.bind_some, if_pos (show ¬ ((1 : Int32) = 0) by decide), hY]
theorem m_nN (h : gRel T M D k m) (g : ¬ gdN M D j) {X Z : Int32 × gM → Option (Int32 × gM)} (hZ : ∀ x, Z x = some (0, x.2)) : mNo T M ((f_X9_noName T (si M 311 0 0) 311 j).bind fun x3 => if x3.1 = 0 then X x3 else Z x3) := by
  obtain ⟨r, d, ht, f⟩ := m_st h
  refine ⟨0, si (si M 311 0 0) 311 0 1, ?_, m_fr1 f, by rw [gi_si, if_pos ⟨rfl, rfl⟩]⟩
  rw [m_namN r (fun q => g ((gdN_same d).mp q)) ht, Option.bind_some, if_neg (show ¬ ((1 : Int32) = 0) by decide), hZ]
theorem m_mN (h : gRel T M D k m) (g : ¬ (gdL M D i ∧ gdN M D j)) {X Z : Int32 × gM → Option (Int32 × gM)} (hZ : ∀ x, Z x = some (0, x.2)) : mNo T M ((f_X9_isMissing T (si M 311 0 0) 311 i j).bind fun x3 => if x3.1 = 0 then X x3 else Z x3) := by
  obtain ⟨r, d, ht, f⟩ := m_st h
  refine ⟨0, si (si M 311 0 0) 311 0 1, ?_, m_fr1 f, by rw [gi_si, if_pos ⟨rfl, rfl⟩]⟩
  rw [m_missN r (fun q => g ⟨(gdL_same d).mp q.1, (gdN_same d).mp q.2⟩) ht, Option.bind_some, if_neg (show ¬ ((1 : Int32) = 0) by decide), hZ]
theorem m_offN (h : gRel T M D k m) (g : ¬ (gdL M D i ∧ gdN M D j)) : mNo T M (f_X9_offer T M 311 i j) := m_lnN h g (fun _ => rfl) (fun _ => rfl)
theorem m_votN (h : gRel T M D k m) (g : ¬ (gdL M D i ∧ gdN M D j)) : mNo T M (f_X9_vote T M 311 i j) := m_lnN h g (fun _ => rfl) (fun _ => rfl)
theorem m_candN (h : gRel T M D k m) (g : ¬ gdN M D j) : mNo T M (f_X9_candidates T M 311 j) := m_nN h g (fun _ => rfl)
theorem m_winN (h : gRel T M D k m) (g : ¬ gdN M D j) : mNo T M (f_X9_winner T M 311 j) := m_nN h g (fun _ => rfl)
theorem m_marN (h : gRel T M D k m) (g : ¬ gdN M D j) : mNo T M (f_X9_margin T M 311 j) := m_nN h g (fun _ => rfl)
theorem m_minN (h : gRel T M D k m) (g : ¬ gdN M D j) : mNo T M (f_X9_minority T M 311 j) := m_nN h g (fun _ => rfl)
theorem m_supN (h : gRel T M D k m) (g : ¬ (gdL M D i ∧ gdN M D j)) : mNo T M (f_X9_support T M 311 i j) := m_mN h g (fun _ => rfl)
theorem m_bndN (h : gRel T M D k m) (g : ¬ (gdL M D i ∧ gdN M D j)) : mNo T M (f_X9_binding T M 311 i j) := m_mN h g (fun _ => rfl)
theorem m_calN (h : gRel T M D k m) (g : ¬ (gdL M D i ∧ gdN M D j)) : mNo T M (f_X9_call T M 311 i j) := m_mN h g (fun _ => rfl)
theorem m_steN (h : gRel T M D k m) (g : ¬ (gdL M D i ∧ gdN M D j)) : mNo T M (f_X9_steps T M 311 i j) := m_mN h g (fun _ => rfl)
theorem m_useN (h : gRel T M D k m) (g : ¬ (gdL M D i ∧ gdN M D j)) : mNo T M (f_X9_users T M 311 i j) := m_mN h g (fun _ => rfl)
theorem m_offY (h : gRel T M D k m) (ha : a < dNl M D) (hn : n < dNn M D) : mYes M (f_X9_offer T M 311 (nI a) (nI n)) (dOf M D a n) := by
  have h8 := h.2.1.2.1
  have h12 := h.2.1.2.2.1
  obtain ⟨r, d, ht, f⟩ := m_st h
  refine ⟨si M 311 0 0, ?_, f, ht⟩
  unfold f_X9_offer
  rw [m_libY r ((gdL_same d).mpr (gdL_nR h ha)) ht, Option.bind_some, if_neg (fun q => q rfl), m_namY r ((gdN_same d).mpr (gdN_nR h hn)) ht, Option.bind_some, if_pos rfl, p_mdat (gMo_Fx r.1), Option.bind_some, p_at, Option.bind_some, show (12 : Int32) = nI 12 from rfl, nI_add, nI_add, p_mald (gMo_Fx r.1) (by omega), Option.bind_some, (r.2.2.1.2.2.2 a (by rw [dNl_same d]; exact ha)).2.2.2.2.1 n (by omega), d.off (by omega) (by omega)]
theorem m_votY (h : gRel T M D k m) (ha : a < dNl M D) (hn : n < dNn M D) : mYes M (f_X9_vote T M 311 (nI a) (nI n)) (vVt M D a n) := by
  have h8 := h.2.1.2.1
  have h12 := h.2.1.2.2.1
  obtain ⟨r, d, ht, f⟩ := m_st h
  refine ⟨si M 311 0 0, ?_, f, ht⟩
  unfold f_X9_vote
  rw [m_libY r ((gdL_same d).mpr (gdL_nR h ha)) ht, Option.bind_some, if_neg (fun q => q rfl), m_namY r ((gdN_same d).mpr (gdN_nR h hn)) ht, Option.bind_some, if_pos rfl, p_mVote (gMo_Fx r.1) r.2.1 r.2.2.1 (show a < dNl (si M 311 0 0) D by rw [dNl_same d]; exact ha) (by omega), Option.bind_some, vVt_same d h.2.1 ha (by omega)]
theorem m_candY (h : gRel T M D k m) (hn : n < dNn M D) : mYes M (f_X9_candidates T M 311 (nI n)) (nI (cntN (fun i => decide (vCd M D i n)) (dNl M D))) := by
  have h8 := h.2.1.2.1
  have h12 := h.2.1.2.2.1
  obtain ⟨r, d, ht, f⟩ := m_st h
  refine ⟨si M 311 0 0, ?_, f, ht⟩
  unfold f_X9_candidates
  rw [m_namY r ((gdN_same d).mpr (gdN_nR h hn)) ht, Option.bind_some, if_pos rfl]
  have hl := g313_1 r
  rw [dNl_same d] at hl
  have hL := gloop_for (B := fun x => f_X9_candidates_B19 T (si M 311 0 0) 311 (nI n) x.1 x.2) (fu := gFU) (e := nI (cntN (fun i => decide (vCd M D i n)) (dNl M D))) (fun t => (nI (cntN (fun i => decide (vCd M D i n)) t), nI t)) (dNl M D) (Nat.lt_of_le_of_lt h8 (by decide)) (fun t hlt => ?_) ?_
  · rw [show (((0 : Int32), (0 : Int32)) : Int32 × Int32) = (nI (cntN (fun i => decide (vCd M D i n)) 0), nI 0) from rfl, hL, Option.bind_some]
  · show f_X9_candidates_B19 T (si M 311 0 0) 311 (nI n) (nI (cntN (fun i => decide (vCd M D i n)) t)) (nI t) = some (.inr (nI (cntN (fun i => decide (vCd M D i n)) (t + 1)), nI (t + 1)))
    unfold f_X9_candidates_B19 f_X9_candidates_44
    rw [p_mdat (gMo_Fx r.1), Option.bind_some, a313_1 r.1, Option.bind_some, hl, if_neg (nI_ge hlt (by omega)), p_mCand (gMo_Fx r.1) r.2.2.1 r.2.1.2.1 (show t < dNl (si M 311 0 0) D by rw [dNl_same d]; exact hlt) (by omega), Option.bind_some, dRk_same d (by omega), d.off (by omega) (by omega)]
    by_cases hc : dRk M D t = -1 ∨ dOf M D t n = -1
    · rw [if_pos hc, if_pos rfl, show (0 : Int32) = nI 0 from rfl, nI_add, nI_1, cntN, decide_eq_false (p := vCd M D t n) (fun q => q hc)]
      rfl
    · rw [if_neg hc, if_neg (by decide), nI_1, nI_1, cntN, decide_eq_true (p := vCd M D t n) hc]
      rfl
  · show f_X9_candidates_B19 T (si M 311 0 0) 311 (nI n) _ (nI (dNl M D)) = _
    unfold f_X9_candidates_B19
    rw [p_mdat (gMo_Fx r.1), Option.bind_some, a313_1 r.1, Option.bind_some, hl, if_pos (nI_le (Nat.le_refl _) (by omega))]
theorem m_winY (h : gRel T M D k m) (hn : n < dNn M D) : mYes M (f_X9_winner T M 311 (nI n)) (vWin (vW M D k m) M D n) := by
  have h12 := h.2.1.2.2.1
  obtain ⟨r, d, ht, f⟩ := m_st h
  obtain ⟨N, c1, c2, c3, c4, c5, c6⟩ := m_lay0 h
  refine ⟨N, ?_, c2, c3⟩
  unfold f_X9_winner
  rw [m_namY r ((gdN_same d).mpr (gdN_nR h hn)) ht, Option.bind_some, if_pos rfl, c1, Option.bind_some, r_311_21 c4.1, Option.bind_some, ald_ok (s_329 c4.1) (by omega) (by decide), Option.bind_some, (c6 n hn).1]
theorem m_supY (h : gRel T M D k m) (ha : a < dNl M D) (hn : n < dNn M D) : mYes M (f_X9_support T M 311 (nI a) (nI n)) (vSp (vW M D k m) M D a n) := by
  have h8 := h.2.1.2.1
  have h12 := h.2.1.2.2.1
  obtain ⟨N, c1, c2, c3, c4, c5, c6⟩ := m_miss0 h (gdL_nR h ha) (gdN_nR h hn)
  refine ⟨N, ?_, c2, c3⟩
  unfold f_X9_support vSp
  rw [c1, Option.bind_some, if_pos rfl, p_mCand (gMo_Fx c4.1) c4.2.2.1 c4.2.1.2.1 (show a < dNl N D by rw [dNl_same c5]; exact ha) (by omega), Option.bind_some, dRk_same c5 (by omega), c5.off (by omega) (by omega)]
  by_cases hc : dRk M D a = -1 ∨ dOf M D a n = -1
  · rw [if_pos hc, if_pos rfl, if_neg (fun q => q hc)]
  · rw [if_neg hc, if_neg (by decide), r_311_22 c4.1, Option.bind_some, w_sup c4.1 (by omega), Option.bind_some, ald_ok (s_sup c4.1 (by omega)) (by omega) (by decide), Option.bind_some, ((c6 n hn).2 a ha).1, if_pos hc]
theorem m_bndY (h : gRel T M D k m) (ha : a < dNl M D) (hn : n < dNn M D) : mYes M (f_X9_binding T M 311 (nI a) (nI n)) (vBd (vW M D k m) M D a n) := by
  have h8 := h.2.1.2.1
  have h12 := h.2.1.2.2.1
  obtain ⟨N, c1, c2, c3, c4, c5, c6⟩ := m_miss0 h (gdL_nR h ha) (gdN_nR h hn)
  refine ⟨N, ?_, c2, c3⟩
  unfold f_X9_binding
  rw [c1, Option.bind_some, if_pos rfl, r_311_23 c4.1, Option.bind_some, w_bin c4.1 (by omega), Option.bind_some, ald_ok (s_bin c4.1 (by omega)) (by omega) (by decide), Option.bind_some, ((c6 n hn).2 a ha).2]
theorem m_marY (h : gRel T M D k m) (hn : n < dNn M D) : mYes M (f_X9_margin T M 311 (nI n)) (vMar (vW M D k m) M D n) := by
  have h8 := h.2.1.2.1
  have h12 := h.2.1.2.2.1
  have i3 : 9999 * dNl M D ≤ 9999 * 8 := Nat.mul_le_mul_left _ h8
  obtain ⟨r, d, ht, f⟩ := m_st h
  obtain ⟨N, c1, c2, c3, c4, c5, c6⟩ := m_lay0 h
  refine ⟨N, ?_, c2, c3⟩
  have hl := g313_1 c4
  rw [dNl_same c5] at hl
  unfold f_X9_margin
  rw [m_namY r ((gdN_same d).mpr (gdN_nR h hn)) ht, Option.bind_some, if_pos rfl, c1, Option.bind_some, r_311_21 c4.1, Option.bind_some, ald_ok (s_329 c4.1) (by omega) (by decide), Option.bind_some, (c6 n hn).1]
  unfold vMar vWin
  cases hb : vBest (vW M D k m) M D n (dNl M D) with
  | none => rw [if_neg (fun q => q rfl)]
  | some b =>
    obtain ⟨hbt, hbc⟩ := vBest_lt hb
    rw [if_pos (show ¬ oI (some b) = -1 from nI_nneg (v := b) (by omega) (by decide)), show oI (some b) = nI b from rfl]
    have hL := gloop_for (B := fun x => f_X9_margin_B38 T N 311 (nI n) (nI b) x.1 x.2) (fu := gFU) (e := nI (vMx (vW M D k m) M D n b (dNl M D))) (fun t => (nI (vMx (vW M D k m) M D n b t), nI t)) (dNl M D) (Nat.lt_of_le_of_lt h8 (by decide)) (fun t hlt => ?_) ?_
    · rw [show (((0 : Int32), (0 : Int32)) : Int32 × Int32) = (nI (vMx (vW M D k m) M D n b 0), nI 0) from rfl, hL, Option.bind_some, r_311_22 c4.1, Option.bind_some, w_sup c4.1 (by omega), Option.bind_some, ald_ok (s_sup c4.1 (by omega)) (by omega) (by decide), Option.bind_some, ((c6 n hn).2 b hbt).1]
    · show f_X9_margin_B38 T N 311 (nI n) (nI b) (nI (vMx (vW M D k m) M D n b t)) (nI t) = some (.inr (nI (vMx (vW M D k m) M D n b (t + 1)), nI (t + 1)))
      unfold f_X9_margin_B38 f_X9_margin_88
      have j1 := vMx_le (M0 := M) (D := D) (n := n) (W := vW M D k m) (fun i => vW_le i) (b := b) t
      have j2 := vSup_le (M := M) (D := D) (n := n) (i := t) (W := vW M D k m) (fun i => vW_le i) (dNl M D)
      rw [p_mdat (gMo_Fx c4.1), Option.bind_some, a313_1 c4.1, Option.bind_some, hl, if_neg (nI_ge hlt (by omega)), nI_1]
      by_cases e : t = b
      · rw [if_pos (by rw [e])]
        have e1 : vMx (vW M D k m) M D n b (t + 1) = vMx (vW M D k m) M D n b t := if_neg (fun q => q.1 e)
        rw [e1]
      · rw [if_neg (fun q => e ((nI_eq (by omega) (by omega)).mp q)), p_mCand (gMo_Fx c4.1) c4.2.2.1 c4.2.1.2.1 (show t < dNl N D by rw [dNl_same c5]; exact hlt) (by omega), Option.bind_some, dRk_same c5 (by omega), c5.off (by omega) (by omega)]
        by_cases hc : dRk M D t = -1 ∨ dOf M D t n = -1
        · have e1 : vMx (vW M D k m) M D n b (t + 1) = vMx (vW M D k m) M D n b t := if_neg (fun q => q.2 hc)
          rw [if_pos hc, if_pos rfl, e1]
        · have e1 : vMx (vW M D k m) M D n b (t + 1) = max (vMx (vW M D k m) M D n b t) (vSup (vW M D k m) M D n t (dNl M D)) := if_pos ⟨e, hc⟩
          rw [if_neg hc, if_neg (by decide), r_311_22 c4.1, Option.bind_some, w_sup c4.1 (by omega), Option.bind_some, ald_ok (s_sup c4.1 (by omega)) (by omega) (by decide), Option.bind_some, ((c6 n hn).2 t hlt).1, e1]
          by_cases hle : vSup (vW M D k m) M D n t (dNl M D) ≤ vMx (vW M D k m) M D n b t
          · rw [if_pos (nI_le hle (by omega)), Nat.max_eq_left hle]
          · rw [if_neg (nI_ge (by omega) (by omega)), Option.bind_some, w_sup c4.1 (by omega), Option.bind_some, ald_ok (s_sup c4.1 (by omega)) (by omega) (by decide), Option.bind_some, ((c6 n hn).2 t hlt).1, Nat.max_eq_right (by omega)]
    · show f_X9_margin_B38 T N 311 (nI n) (nI b) _ (nI (dNl M D)) = _
      unfold f_X9_margin_B38
      rw [p_mdat (gMo_Fx c4.1), Option.bind_some, a313_1 c4.1, Option.bind_some, hl, if_pos (nI_le (Nat.le_refl _) (by omega))]
theorem m_minY (h : gRel T M D k m) (hn : n < dNn M D) : mYes M (f_X9_minority T M 311 (nI n)) (nI (vMin (vW M D k m) M D n (dNl M D))) := by
  have h8 := h.2.1.2.1
  have h12 := h.2.1.2.2.1
  obtain ⟨r, d, ht, f⟩ := m_st h
  obtain ⟨N, c1, c2, c3, c4, c5, c6⟩ := m_lay0 h
  refine ⟨N, ?_, c2, c3⟩
  have hl := g313_1 c4
  rw [dNl_same c5] at hl
  unfold f_X9_minority
  rw [m_namY r ((gdN_same d).mpr (gdN_nR h hn)) ht, Option.bind_some, if_pos rfl, c1, Option.bind_some]
  have hL := gloop_for (B := fun x => f_X9_minority_B23 T N 311 (nI n) x.1 x.2) (fu := gFU) (e := nI (vMin (vW M D k m) M D n (dNl M D))) (fun t => (nI (vMin (vW M D k m) M D n t), nI t)) (dNl M D) (Nat.lt_of_le_of_lt h8 (by decide)) (fun t hlt => ?_) ?_
  · rw [show (((0 : Int32), (0 : Int32)) : Int32 × Int32) = (nI (vMin (vW M D k m) M D n 0), nI 0) from rfl, hL, Option.bind_some]
  · show f_X9_minority_B23 T N 311 (nI n) (nI (vMin (vW M D k m) M D n t)) (nI t) = some (.inr (nI (vMin (vW M D k m) M D n (t + 1)), nI (t + 1)))
    unfold f_X9_minority_B23 f_X9_minority_63 f_X9_minority_64
    rw [p_mdat (gMo_Fx c4.1), Option.bind_some, a313_1 c4.1, Option.bind_some, hl, if_neg (nI_ge hlt (by omega)), p_mLoaded (gMo_Fx c4.1) c4.2.2.1 c4.2.1.2.1 (show t < dNl N D by rw [dNl_same c5]; exact hlt), Option.bind_some, dRk_same c5 (by omega)]
    by_cases hl2 : dRk M D t = -1
    · rw [if_pos hl2, if_pos rfl, show (0 : Int32) = nI 0 from rfl, nI_add, nI_1]
      have e : vMin (vW M D k m) M D n (t + 1) = vMin (vW M D k m) M D n t := by
        unfold vMin
        rw [cntN, decide_eq_false (fun q => q.1 hl2)]
        rfl
      rw [e, Nat.add_zero]
    · rw [if_neg hl2, if_neg (by decide), r_311_23 c4.1, Option.bind_some, w_bin c4.1 (by omega), Option.bind_some, ald_ok (s_bin c4.1 (by omega)) (by omega) (by decide), Option.bind_some, r_311_21 c4.1, Option.bind_some, ald_ok (s_329 c4.1) (by omega) (by decide), Option.bind_some, ((c6 n hn).2 t hlt).2, (c6 n hn).1]
      by_cases hb : vBd (vW M D k m) M D t n = vWin (vW M D k m) M D n
      · rw [if_pos hb, show (0 : Int32) = nI 0 from rfl, nI_add, nI_1]
        have e : vMin (vW M D k m) M D n (t + 1) = vMin (vW M D k m) M D n t := by
          unfold vMin
          rw [cntN, decide_eq_false (fun q => q.2 hb)]
          rfl
        rw [e, Nat.add_zero]
      · rw [if_neg hb, nI_1, nI_1]
        have e : vMin (vW M D k m) M D n (t + 1) = vMin (vW M D k m) M D n t + 1 := by
          unfold vMin
          rw [cntN, decide_eq_true (And.intro hl2 hb)]
          rfl
        rw [e]
  · show f_X9_minority_B23 T N 311 (nI n) _ (nI (dNl M D)) = _
    unfold f_X9_minority_B23
    rw [p_mdat (gMo_Fx c4.1), Option.bind_some, a313_1 c4.1, Option.bind_some, hl, if_pos (nI_le (Nat.le_refl _) (by omega))]
theorem m_useY (h : gRel T M D k m) (ha : a < dNl M D) (hn : n < dNn M D) : mYes M (f_X9_users T M 311 (nI a) (nI n)) (nI (vUs (vW M D k m) M D n (nI a) (dNl M D))) := by
  have h8 := h.2.1.2.1
  have h12 := h.2.1.2.2.1
  obtain ⟨N, c1, c2, c3, c4, c5, c6⟩ := m_miss0 h (gdL_nR h ha) (gdN_nR h hn)
  refine ⟨N, ?_, c2, c3⟩
  have hl := g313_1 c4
  rw [dNl_same c5] at hl
  unfold f_X9_users
  rw [c1, Option.bind_some, if_pos rfl]
  have hL := gloop_for (B := fun x => f_X9_users_B21 T N 311 (nI a) (nI n) x.1 x.2) (fu := gFU) (e := nI (vUs (vW M D k m) M D n (nI a) (dNl M D))) (fun t => (nI (vUs (vW M D k m) M D n (nI a) t), nI t)) (dNl M D) (Nat.lt_of_le_of_lt h8 (by decide)) (fun t hlt => ?_) ?_
  · rw [show (((0 : Int32), (0 : Int32)) : Int32 × Int32) = (nI (vUs (vW M D k m) M D n (nI a) 0), nI 0) from rfl, hL, Option.bind_some]
  · show f_X9_users_B21 T N 311 (nI a) (nI n) (nI (vUs (vW M D k m) M D n (nI a) t)) (nI t) = some (.inr (nI (vUs (vW M D k m) M D n (nI a) (t + 1)), nI (t + 1)))
    unfold f_X9_users_B21 f_X9_users_59 f_X9_users_60
    rw [p_mdat (gMo_Fx c4.1), Option.bind_some, a313_1 c4.1, Option.bind_some, hl, if_neg (nI_ge hlt (by omega)), p_mLoaded (gMo_Fx c4.1) c4.2.2.1 c4.2.1.2.1 (show t < dNl N D by rw [dNl_same c5]; exact hlt), Option.bind_some, dRk_same c5 (by omega)]
    by_cases hl2 : dRk M D t = -1
    · rw [if_pos hl2, if_pos rfl, show (0 : Int32) = nI 0 from rfl, nI_add, nI_1]
      have e : vUs (vW M D k m) M D n (nI a) (t + 1) = vUs (vW M D k m) M D n (nI a) t := by
        unfold vUs
        rw [cntN, decide_eq_false (fun q => by
          unfold vBd at q
          rw [if_pos hl2] at q
          exact nI_nneg (v := a) (by omega) (show ((-1 : Int32)).toInt < 0 by decide) q.symm)]
        rfl
      rw [e, Nat.add_zero]
    · rw [if_neg hl2, if_neg (by decide), r_311_23 c4.1, Option.bind_some, w_bin c4.1 (by omega), Option.bind_some, ald_ok (s_bin c4.1 (by omega)) (by omega) (by decide), Option.bind_some, ((c6 n hn).2 t hlt).2]
      by_cases hb : vBd (vW M D k m) M D t n = nI a
      · rw [if_neg (fun q => q hb), nI_1, nI_1]
        have e : vUs (vW M D k m) M D n (nI a) (t + 1) = vUs (vW M D k m) M D n (nI a) t + 1 := by
          unfold vUs
          rw [cntN, decide_eq_true hb]
          rfl
        rw [e]
      · rw [if_pos hb, show (0 : Int32) = nI 0 from rfl, nI_add, nI_1]
        have e : vUs (vW M D k m) M D n (nI a) (t + 1) = vUs (vW M D k m) M D n (nI a) t := by
          unfold vUs
          rw [cntN, decide_eq_false hb]
          rfl
        rw [e, Nat.add_zero]
  · show f_X9_users_B21 T N 311 (nI a) (nI n) _ (nI (dNl M D)) = _
    unfold f_X9_users_B21
    rw [p_mdat (gMo_Fx c4.1), Option.bind_some, a313_1 c4.1, Option.bind_some, hl, if_pos (nI_le (Nat.le_refl _) (by omega))]
end PMQ
