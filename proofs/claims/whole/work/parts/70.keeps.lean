/-! SETKEEPS: no other library's binding is another one then -/
section PKE
variable {T : gT} {M N : gM} {k : Nat → Nat × Nat} {m C nx sz a : Nat} {i x : Int32} {W : Nat → Nat}
theorem kRk {q : Nat} : dRk (si M (37 + 5 + 3 * a) 1 x) 37 q = dRk M 37 q := by
  show gi (si M (37 + 5 + 3 * a) 1 x) (37 + 5 + 3 * q) 2 = _
  rw [gi_si, if_neg (by omega)]
theorem kTr {q : Nat} : dTr (si M (37 + 5 + 3 * a) 1 x) 37 q = dTr M 37 q := by
  show gi (si M (37 + 5 + 3 * a) 1 x) (37 + 5 + 3 * q) 0 = _
  rw [gi_si, if_neg (by omega)]
theorem kPk {q : Nat} : dPk (si M (37 + 5 + 3 * a) 1 x) 37 q = dPk M 37 q := by
  show (gi (si M (37 + 5 + 3 * a) 1 x) (37 + 5 + 3 * q) 5).toNatClampNeg = _
  rw [gi_si, if_neg (by omega)]
theorem kOf {q n : Nat} : dOf (si M (37 + 5 + 3 * a) 1 x) 37 q n = dOf M 37 q n := by
  show gi (si M (37 + 5 + 3 * a) 1 x) (37 + 6 + 3 * q) n = _
  rw [gi_si, if_neg (by omega)]
theorem kPr {q n : Nat} : dPr (si M (37 + 5 + 3 * a) 1 x) 37 q n = dPr M 37 q n := by
  show gi (si M (37 + 5 + 3 * a) 1 x) (37 + 7 + 3 * q) n = _
  rw [gi_si, if_neg (by omega)]
theorem kNl : dNl (si M (37 + 5 + 3 * a) 1 x) 37 = dNl M 37 := by
  show (gi (si M (37 + 5 + 3 * a) 1 x) 37 1).toNatClampNeg = _
  rw [gi_si, if_neg (by omega)]
theorem kNn : dNn (si M (37 + 5 + 3 * a) 1 x) 37 = dNn M 37 := by
  show (gi (si M (37 + 5 + 3 * a) 1 x) 37 2).toNatClampNeg = _
  rw [gi_si, if_neg (by omega)]
theorem kKp {q : Nat} (h : q ≠ a) : dKp (si M (37 + 5 + 3 * a) 1 x) 37 q = dKp M 37 q := by
  show gi (si M (37 + 5 + 3 * a) 1 x) (37 + 5 + 3 * q) 1 = _
  rw [gi_si, if_neg (by omega)]
theorem kCd {q n : Nat} : vCd (si M (37 + 5 + 3 * a) 1 x) 37 q n = vCd M 37 q n := by
  unfold vCd
  rw [kRk, kOf]
theorem kVt {q n : Nat} : vVt (si M (37 + 5 + 3 * a) 1 x) 37 q n = vVt M 37 q n := by
  unfold vVt
  rw [kRk, kOf, kPk]
  have e : (fun k => decide (vCd (si M (37 + 5 + 3 * a) 1 x) 37 (dPr (si M (37 + 5 + 3 * a) 1 x) 37 q k).toNatClampNeg n)) = fun k => decide (vCd M 37 (dPr M 37 q k).toNatClampNeg n) := by
    funext k
    exact decide_eq_decide.mpr (by rw [kPr, kCd])
  rw [e]
  cases fstN (fun k => decide (vCd M 37 (dPr M 37 q k).toNatClampNeg n)) (dPk M 37 q) with
  | none => rfl
  | some k =>
    dsimp only
    rw [kPr]
theorem kFr {y : Int32} : vFr (si M (37 + 5 + 3 * a) 1 x) 37 y = vFr M 37 y := by
  unfold vFr
  rw [kNl]
  refine cntN_ext (fun k _ => ?_)
  rw [kRk, kPk, anyN_ext (fun j _ => by rw [kPr])]
theorem kW : vW (si M (37 + 5 + 3 * a) 1 x) 37 k m = vW M 37 k m := by
  funext q
  unfold vW
  have e : vQ (si M (37 + 5 + 3 * a) 1 x) 37 q = vQ M 37 q := by
    funext z
    unfold vQ
    rw [kTr, kRk, kFr, cntN_ext (fun n _ => by rw [kOf])]
  rw [e]
theorem kSup {n c t : Nat} : vSup W (si M (37 + 5 + 3 * a) 1 x) 37 n c t = vSup W M 37 n c t := sumN_ext (fun q _ => by rw [kVt])
theorem kTot {n t : Nat} : vTot W (si M (37 + 5 + 3 * a) 1 x) 37 n t = vTot W M 37 n t := sumN_ext (fun q _ => by rw [kVt])
theorem kBest {n : Nat} : ∀ {t : Nat}, vBest W (si M (37 + 5 + 3 * a) 1 x) 37 n t = vBest W M 37 n t
  | 0 => rfl
  | t + 1 => by
    unfold vBest
    rw [kBest (t := t)]
    simp only [kNl, kSup, kCd, kRk]
theorem kBd {n q : Nat} (h : q ≠ a) : vBd W (si M (37 + 5 + 3 * a) 1 x) 37 q n = vBd W M 37 q n := by
  unfold vBd vWin
  rw [kNl, kBest, kVt, kTot, kSup, kRk, kKp h, show gi (si M (37 + 5 + 3 * a) 1 x) 37 3 = gi M 37 3 by rw [gi_si, if_neg (by omega)]]
theorem cntN_none {c : Nat → Bool} : ∀ {n : Nat}, (∀ k, k < n → c k = false) → cntN c n = 0
  | 0, _ => rfl
  | n + 1, h => by
    unfold cntN
    rw [cntN_none (fun k hk => h k (by omega)), h n (by omega)]
    rfl
theorem o_setKeeps (hI : gInv T M k m C nx sz) (hx : x = 0 ∨ x = 1) : opA T M C (f_X8_setKeeps T M 0 i x) (fun N => f_X9_setKeeps T N 311 i x) cdx := by
  have hR := gInv_rel hI
  have h := hR.cl
  have hV := h.2.1
  by_cases g : gdL M 37 i
  · obtain ⟨a, ha, rfl⟩ := gdL_of h g
    have ha8 : a < 8 := Nat.lt_of_lt_of_le ha h.2.1.2.1
    have hb : dIn 37 (37 + 5 + 3 * a) 1 := dIn_lib ha8 (Or.inr (Or.inl rfl))
    obtain ⟨M1, c1, hX1, hd1, hs1, N, c2, c3⟩ := c_put (C' := C) (x := x) (y := x) hI hb (fun q hq => by
      by_cases e : q = a
      · rw [show dKp (si M (37 + 5 + 3 * a) 1 x) 37 q = x from by show gi (si M (37 + 5 + 3 * a) 1 x) (37 + 5 + 3 * q) 1 = _; rw [gi_si, if_pos ⟨by omega, rfl⟩]]
        exact hx
      · rw [kKp e]
        exact hI.2.2.2.2.1 37 (Or.inr (Or.inl rfl)) q hq) (upKeeps hx ha8 hI.1)
    have hCN := c3.2.2.2.2.1
    have h12N := c3.2.2.2.2.2.2.2.2.2.2.2
    have hdG : dSame (si M (37 + 5 + 3 * a) 1 x) 37 N 37 := fun b j hd => by
      have hr := dIn_rng hd
      rw [show b - 37 + 37 = b by omega, h12N b j hd]
    have e1N : dNl N 37 = dNl M 37 := (dNl_same hdG).symm.trans kNl
    have e2N : dNn N 37 = dNn M 37 := (dNn_same hdG).symm.trans kNn
    have hother : ∀ q, q < dNl N 37 → q ≠ a → vCh (vW N 37 k m) N 37 (vBd (vW M 37 k m) M 37) q (dNn N 37) = 0 := fun q hq hne => cntN_none (fun n hn => decide_eq_false (fun z => z.2 (by
      have h12 := hCN.2.1.2.2.1
      rw [← vBd_same hdG hCN.2.1 hq (by omega) (vW_two hCN.2.1 hdG), kW, kBd hne])))
    have hsum : sumN (fun i => vCh (vW N 37 k m) N 37 (vBd (vW M 37 k m) M 37) i (dNn N 37)) (dNl N 37) = vCh (vW N 37 k m) N 37 (vBd (vW M 37 k m) M 37) a (dNn N 37) := sumN_one (c := a) rfl hother (by rw [e1N]; exact ha)
    refine Or.inl ⟨nI (vCh (vW N 37 k m) N 37 (vBd (vW M 37 k m) M 37) a (dNn N 37)), N, ?_, fun l => ?_⟩
    · unfold f_X8_setKeeps
      have hXs : gFx T (si M1 (37 + 5 + 3 * a) 1 x) := gFx_gr hX1 (fun _ _ => rfl)
      rw [c_libY h g, c1, Option.bind_some, r_0_4 hX1, Option.bind_some, p_row1 hd1, Option.bind_some, p_row2 hd1 ha8, Option.bind_some, chk_ok hx, Option.bind_some, r_0_5 hXs, Option.bind_some, r_0_4 hXs, Option.bind_some, c2, Option.bind_some, q_changed hCN c3.2.2.2.2.2.1 (w := vBd (vW M 37 k m) M 37) (fun a ha n hn => q_were hI c3 (by rw [← e1N]; exact ha) (by rw [← e2N]; exact hn)) (by rw [e1N]; exact ha), Option.bind_some]
    · have hM := gMid_l c3 l
      obtain ⟨r0, t0, d0⟩ := m_mid hM
      obtain ⟨N1, N2, a1, a2, a3, a4, a5, a6⟩ := m_ch1 hM hV
      have hN3 := m_put a3 hb (Nat.le_refl C) (fun K hK _ _ => upKeeps hx ha8 hK)
      have hd3 : dSame (si N2 313 (6 + 24 * a + 1) x) 37 N 37 := fun b j hd => by
        have hr := dIn_rng hd
        rw [show b - 37 + 37 = b by omega, gi_si, if_neg (by omega), a3.2.2.2.2.2.2.2.2.2.2 b j hd, h12N b j hd]
      obtain ⟨N4, b1, b2, b3, b4⟩ := m_ch2 (but := -1) (w := vBd (vW M 37 k m) M 37) hN3 hd3 hCN.2.1 (fun q hq n hn => by
        rw [gi_si, if_neg (by omega)]
        exact a4 q (by rw [← e1N]; exact hq) n (by rw [← e2N]; exact hn))
      rw [sumN_m1 hCN.2.1.2.1, hsum] at b1
      refine ⟨N4, ?_, by rw [b3, si_thr.1]; exact a5, by rw [b4, si_thr.2]; exact a6, k, m, _, _, b2⟩
      show f_X9_setKeeps T (N.1, l, N.2.2) 311 (nI a) x = _
      unfold f_X9_setKeeps f_X9_setKeeps_42
      rw [m_libY r0 (i := nI a) ⟨g.1, by rw [dNl_same d0]; exact g.2⟩ t0, Option.bind_some, if_pos rfl, a1, Option.bind_some, a2, Option.bind_some, p_mdat (gMo_Fx a3.1), Option.bind_some, p_at, Option.bind_some, nI_1]
      rcases hx with rfl | rfl
      · rw [if_pos rfl, ast_ok (s_313 a3.1) (by omega) (by decide), Option.bind_some, b1, Option.bind_some]
      · rw [if_neg (by decide), ast_ok (s_313 a3.1) (by omega) (by decide), Option.bind_some, b1, Option.bind_some]
  · refine opA_no hI (Nat.le_refl C) (c := 2) (c_libN h g) (fun M' r e => ?_)
    obtain ⟨r0, d0, t0, f0⟩ := m_st r
    refine ⟨0, si (si M' 311 0 0) 311 0 1, ?_, m_fr1 f0, by rw [gi_si, if_pos ⟨rfl, rfl⟩]; rfl⟩
    show f_X9_setKeeps T M' 311 i x = _
    unfold f_X9_setKeeps
    rw [m_libN r0 (fun q => g ((gdL_1 e).mp ((gdL_same d0).mp q))) t0, Option.bind_some, if_neg (show ¬ ((1 : Int32) = 0) by decide)]
end PKE
