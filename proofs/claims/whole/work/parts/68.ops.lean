/-! CALLS THAT CHANGE: what is to be shown of each, and the common pieces -/
/-- class and reference agree on a call: cd gives the reference's number for what the class throws -/
def opA (T : gT) (M : gM) (C' : Nat) (cls : Option (Nat ⊕ (Int32 × gM))) (ref : gM → Option (Int32 × gM)) (cd : Nat → Int32) : Prop :=
  (∃ v N, cls = some (.inr (v, N)) ∧ ∀ l : Nat → Nat → Int64, ∃ N', ref (N.1, l, N.2.2) = some (v, N') ∧ gi N' 311 0 = 0 ∧ gl N' 358 0 = l 358 0 ∧ ∃ k m nx sz, gInv T N' k m C' nx sz) ∨ ∃ c, cls = some (.inl c) ∧ ∀ l : Nat → Nat → Int64, ∃ v N', ref (M.1, l, M.2.2) = some (v, N') ∧ gi N' 311 0 = cd c ∧ ∃ k m nx sz, gInv T N' k m C' nx sz
section POP
variable {T : gT} {M M2 N N3 : gM} {k : Nat → Nat × Nat} {m C C' nx sz nx1 sz1 a : Nat} {i j : Int32}
theorem opA_no {cls : Option (Nat ⊕ (Int32 × gM))} {ref : gM → Option (Int32 × gM)} {cd : Nat → Int32} {c : Nat} (hI : gInv T M k m C nx sz) (hC : C ≤ C') (hc : cls = some (.inl c)) (hr : ∀ M', gRel T M' 37 k m → M'.1 = M.1 → ∃ v N', ref M' = some (v, N') ∧ fr qA M' N' ∧ gi N' 311 0 = cd c) : opA T M C' cls ref cd := by
  refine Or.inr ⟨c, hc, fun l => ?_⟩
  obtain ⟨v, N', h1, h2, h3⟩ := hr (M.1, l, M.2.2) (gInv_rel (gInv_l hI l)) rfl
  exact ⟨v, N', h1, h3, k, m, nx, sz, gInv_C' (gInv_q (gInv_l hI l) h2) hC⟩
theorem gdL_1 {M' : gM} (h : M'.1 = M.1) : gdL M' 37 i ↔ gdL M 37 i := by
  unfold gdL
  have e : dNl M' 37 = dNl M 37 := by
    show (M'.1 37 1).toNatClampNeg = (M.1 37 1).toNatClampNeg
    rw [h]
  rw [e]
theorem gdN_1 {M' : gM} (h : M'.1 = M.1) : gdN M' 37 i ↔ gdN M 37 i := by
  unfold gdN
  have e : dNn M' 37 = dNn M 37 := by
    show (M'.1 37 2).toNatClampNeg = (M.1 37 2).toNatClampNeg
    rw [h]
  rw [e]
/-- the reference's start, behind the class's change: it still has the data as they were -/
theorem m_mid (h : gMid T M M2 N k m C nx sz) : gRel T (si N 311 0 0) (78 + 29 * nx) k m ∧ gi (si N 311 0 0) 311 0 = 0 ∧ dSame (si N 311 0 0) (78 + 29 * nx) M 37 := by
  have hnx := h.2.2.2.2.2.2.2.1.1
  have hDk : gD (78 + 29 * nx) := Or.inr ⟨nx, hnx, rfl⟩
  have r : gRel T N (78 + 29 * nx) k m := gSl_rel h.1 h.2.2.2.2.2.2.1 hDk
  obtain ⟨a1, a2, a3, a4⟩ := m_st r
  refine ⟨a1, a3, fun b j hb => ?_⟩
  have hr := dIn_rng hb
  rw [gi_si, if_neg (by omega)]
  exact h.2.2.2.2.2.2.2.2.1 b j hb
theorem vCh_same {W W' : Nat → Nat} {D D' : Nat} {w : Nat → Nat → Int32} {i n : Nat} (hd : dSame N D M D') (hV : gVal T M D') (hi : i < dNl M D') (hn : n ≤ dNn M D') (hW : ∀ i, i < dNl M D' → W' i = W i) : vCh W' N D w i n = vCh W M D' w i n := cntN_ext (fun q hq => by
  have h8 := hV.2.1
  have h12 := hV.2.2.1
  rw [vBd_same hd hV hi (by omega) hW, dRk_same hd (by omega)])
theorem vW_two {D D' : Nat} (hV : gVal T M D') (hd : dSame N D M D') : ∀ i, i < dNl M D' → vW N D k m i = vW M D' k m i := fun i hi => by
  unfold vW
  rw [vQ_same hd hV hi]
/-- remember and keepBindings -/
theorem m_ch1 (h : gMid T M M2 N k m C nx sz) (hV : gVal T M 37) : ∃ N1 N2, f_X9_remember T (si N 311 0 0) 311 = some N1 ∧ f_X9_keepBindings T N1 311 = some N2 ∧ gPost T M M2 N2 k m C nx ((nx + 1) % 8) (if sz < 8 then sz + 1 else 8) ∧ (∀ i, i < dNl M 37 → ∀ n, n < dNn M 37 → gi N2 (349 + i) n = vBd (vW M 37 k m) M 37 i n) ∧ gi N2 311 0 = 0 ∧ gl N2 358 0 = gl N 358 0 := by
  obtain ⟨N1, c1, c2, c3, c4⟩ := m_rem h
  have hd := c2.2.2.2.2.2.2.2.2.1
  obtain ⟨N2, d1, d2, d3⟩ := m_keep (gPost_old c2)
  refine ⟨N1, N2, c1, d1, gPost_C c2 (fr_mono d2 (fun b j q => Or.inl (by omega))), fun i hi n hn => ?_, by rw [d2.2.2 311 0 (fun q => by omega)]; exact c3, (d2.2.1 358 0 (by omega)).trans (c4 358 0)⟩
  have h12 := hV.2.2.1
  rw [d3 i (by rw [dNl_same hd]; exact hi) n (by rw [dNn_same hd]; exact hn)]
  exact vBd_same hd hV hi (by omega) (vW_two hV hd)
/-- .. and, the data written, changedBut -/
theorem m_ch2 {but : Int32} {w : Nat → Nat → Int32} (h3 : gInv T N3 k m C' nx1 sz1) (hd : dSame N3 37 N 37) (hV : gVal T N 37) (hw : ∀ i, i < dNl N 37 → ∀ n, n < dNn N 37 → gi N3 (349 + i) n = w i n) : ∃ N4, f_X9_changedBut T N3 311 but = some (nI (sumN (fun i => if nI i = but then 0 else vCh (vW N 37 k m) N 37 w i (dNn N 37)) (dNl N 37)), N4) ∧ gInv T N4 k m C' nx1 sz1 ∧ gi N4 311 0 = gi N3 311 0 ∧ gl N4 358 0 = gl N3 358 0 := by
  obtain ⟨N4, c1, c2⟩ := m_changedBut (but := but) (w := w) (gInv_rel h3) (fun i hi n hn => hw i (by rw [← dNl_same hd]; exact hi) n (by rw [← dNn_same hd]; exact hn))
  have e : sumN (fun i => if nI i = but then 0 else vCh (vW N3 37 k m) N3 37 w i (dNn N3 37)) (dNl N3 37) = sumN (fun i => if nI i = but then 0 else vCh (vW N 37 k m) N 37 w i (dNn N 37)) (dNl N 37) := by
    rw [dNl_same hd]
    refine sumN_ext (fun i hi => ?_)
    rw [dNn_same hd, vCh_same hd hV hi (Nat.le_refl _) (vW_two hV hd)]
  rw [e] at c1
  exact ⟨N4, c1, gInv_q h3 (fr_mono c2 (fun b j q => Or.inl q)), c2.2.2 311 0 (fun q => by omega), c2.2.1 358 0 (by omega)⟩
/-- the class's bindings of before -/
theorem q_were (hI : gInv T M k m C nx sz) (h : gMid T M M2 N k m C nx sz) {a n : Nat} (ha : a < dNl M 37) (hn : n < dNn M 37) : gi N 310 (12 * a + n) = vBd (vW M 37 k m) M 37 a n := by
  have h8 := hI.1.1.2.1
  have h12 := hI.1.1.2.2.1
  rw [h.2.2.2.2.2.2.2.2.2.1 _ (by omega)]
  exact ((hI.2.2.1.2 n hn).2.2.2 a ha).2.2
/-- 311, 0 and 358 stay as they are when the reference's data are written -/
theorem si_thr {p : Nat} {y : Int32} : gi (si N 313 p y) 311 0 = gi N 311 0 ∧ gl (si N 313 p y) 358 0 = gl N 358 0 := ⟨by rw [gi_si, if_neg (by omega)], rfl⟩
theorem cd2_2 : (if (2 : Nat) = 2 then (1 : Int32) else 2) = 1 := rfl
/-- the numbers of exceptions: no such library or name, else -/
def cdx (c : Nat) : Int32 := if c = 2 then 1 else 2
theorem o_setTrust (hI : gInv T M k m C nx sz) : opA T M C (f_X8_setTrust T M 0 i j) (fun N => f_X9_setTrust T N 311 i j) cdx := by
  have hR := gInv_rel hI
  have h := hR.cl
  by_cases g : gdL M 37 i
  · obtain ⟨a, ha, rfl⟩ := gdL_of h g
    have ha8 : a < 8 := Nat.lt_of_lt_of_le ha h.2.1.2.1
    by_cases gt : ¬ j < 0 ∧ ¬ (999 : Int32) < j
    · obtain ⟨t, ht, rfl⟩ := nI_of2 (M := 999) (n := 999) rfl gt.1 (Int32.not_lt.mp gt.2)
      have hb : dIn 37 (37 + 5 + 3 * a) 0 := dIn_lib ha8 (Or.inl rfl)
      obtain ⟨M1, c1, hX1, hd1, hs1, N, c2, c3⟩ := c_put (C' := C) (x := nI t) (y := nI t) hI hb (fun q hq => by
        rw [show dKp (si M (37 + 5 + 3 * a) 0 (nI t)) 37 q = dKp M 37 q from by show gi (si M (37 + 5 + 3 * a) 0 (nI t)) (37 + 5 + 3 * q) 1 = _; rw [gi_si, if_neg (by omega)]]
        exact hI.2.2.2.2.1 37 (Or.inr (Or.inl rfl)) q hq) (upTrust ht ha8 hI.1)
      refine Or.inl ⟨dTr M 37 a, N, ?_, fun l => ?_⟩
      · unfold f_X8_setTrust
        have hXs : gFx T (si M1 (37 + 5 + 3 * a) 0 (nI t)) := gFx_gr hX1 (fun _ _ => rfl)
        rw [c_libY h g, if_neg gt.1, if_pos (Int32.not_lt.mp gt.2), c1, Option.bind_some, r_0_4 hX1, Option.bind_some, p_row1 hd1, Option.bind_some, p_row2 hd1 ha8, Option.bind_some, Option.bind_some, p_row1 hd1, Option.bind_some, p_row2 hd1 ha8, Option.bind_some, r_0_5 hXs, Option.bind_some, r_0_4 hXs, Option.bind_some, c2, Option.bind_some, show gi M1 (37 + 5 + 3 * a) 0 = dTr M 37 a from dTr_same hs1 ha8]
      · have hM := gMid_l c3 l
        obtain ⟨r0, t0, d0⟩ := m_mid hM
        obtain ⟨N1, e1, e2, e3, e4⟩ := m_rem hM
        have hro := gPost_old e2
        have hdo := e2.2.2.2.2.2.2.2.2.1
        have ev : gi N1 313 (6 + 24 * a) = dTr M 37 a := ((hro.2.2.1.2.2.2 a (by rw [dNl_same hdo]; exact ha)).1).trans (dTr_same hdo ha8)
        refine ⟨si N1 313 (6 + 24 * a) (nI t), ?_, by rw [si_thr.1]; exact e3, e4 358 0, k, m, _, _, m_put e2 hb (Nat.le_refl C) (fun K hK _ _ => upTrust ht ha8 hK)⟩
        show f_X9_setTrust T (N.1, l, N.2.2) 311 (nI a) (nI t) = _
        unfold f_X9_setTrust f_X9_setTrust_30
        rw [m_libY r0 (i := nI a) ⟨g.1, by rw [dNl_same d0]; exact g.2⟩ t0, Option.bind_some, if_neg (fun q => q rfl), p_X9_in, Option.bind_some, if_pos gt, if_pos (by decide), p_X9_fails0 t0, Option.bind_some, if_pos rfl, e1, Option.bind_some, p_mdat (gMo_Fx e2.1), Option.bind_some, p_at, Option.bind_some, show nI (6 + 24 * a) + (0 : Int32) = nI (6 + 24 * a) from nI_add _ 0, p_mald (gMo_Fx e2.1) (by omega), Option.bind_some, Option.bind_some, Option.bind_some, ev, show nI (6 + 24 * a) + (0 : Int32) = nI (6 + 24 * a) from nI_add _ 0, ast_ok (s_313 e2.1) (by omega) (by decide), Option.bind_some]
    · refine opA_no hI (Nat.le_refl C) (c := 1) ?_ (fun M' r e => ?_)
      · unfold f_X8_setTrust f_X8_setTrust_16
        rw [c_libY h g]
        by_cases g0 : j < 0
        · rw [if_pos g0]
        · rw [if_neg g0, if_neg (fun q => gt ⟨g0, Int32.not_lt.mpr q⟩)]
      · obtain ⟨r0, d0, t0, f0⟩ := m_st r
        refine ⟨0, si (si M' 311 0 0) 311 0 2, ?_, m_fr1 f0, by rw [gi_si, if_pos ⟨rfl, rfl⟩]; rfl⟩
        show f_X9_setTrust T M' 311 (nI a) j = _
        unfold f_X9_setTrust f_X9_setTrust_30
        rw [m_libY r0 ((gdL_same d0).mpr ((gdL_1 e).mpr g)) t0, Option.bind_some, if_neg (fun q => q rfl), p_X9_in, Option.bind_some, if_neg gt, if_neg (fun q => q rfl), p_X9_fails1 t0 (by decide), Option.bind_some, if_neg (show ¬ ((1 : Int32) = 0) by decide)]
  · refine opA_no hI (Nat.le_refl C) (c := 2) (c_libN h g) (fun M' r e => ?_)
    obtain ⟨r0, d0, t0, f0⟩ := m_st r
    refine ⟨0, si (si M' 311 0 0) 311 0 1, ?_, m_fr1 f0, by rw [gi_si, if_pos ⟨rfl, rfl⟩]; rfl⟩
    show f_X9_setTrust T M' 311 i j = _
    unfold f_X9_setTrust
    rw [m_libN r0 (fun q => g ((gdL_1 e).mp ((gdL_same d0).mp q))) t0, Option.bind_some, if_pos (show ¬ ((1 : Int32) = 0) by decide)]
end POP
