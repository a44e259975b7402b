/-! A PREFERENCE of the text on both sides -/
section PJF
variable {T U : gT} {M R M' R' : gM} {B : Nat → Nat} {n s e p nl nn i q x pn : Nat}
theorem m_prefD (hX : gFx U R) (hq : q < 8) (hn : gi R 314 (6 + 24 * q + 3) = nI pn) (h7 : pn ≤ 7) {c : Nat → Int32} (hc : ∀ k, k < pn → gi R 314 (6 + 24 * q + 4 + k) = c k) {y : Int32} : f_X9_prefers U R 311 314 (nI q) y = some (if anyN (fun k => decide (c k = y)) pn then 1 else 0) := by
  unfold f_X9_prefers
  have hLp : ∃ e, gloop (fun x => f_X9_prefers_B3 U R 314 (nI q) y x) gFU (0 : Int32) = some e ∧ e = if anyN (fun k => decide (c k = y)) pn then 1 else 0 := by
    refine gloop_ex (P := fun k z => z = nI k ∧ k ≤ pn ∧ ∀ j, j < k → ¬ c j = y) (Q := fun e => e = if anyN (fun k => decide (c k = y)) pn then 1 else 0) (fu := gFU) (x := (0 : Int32)) pn (Nat.lt_of_le_of_lt h7 (by decide)) ⟨rfl, Nat.zero_le _, fun j hj => absurd hj (Nat.not_lt_zero j)⟩ (fun k z hk hP => ?_)
    obtain ⟨rfl, hk', hno⟩ := hP
    show (∃ e, f_X9_prefers_B3 U R 314 (nI q) y (nI k) = some (.inl e) ∧ _) ∨ _
    unfold f_X9_prefers_B3
    rw [p_at, Option.bind_some, show (3 : Int32) = nI 3 from rfl, nI_add, a314 hX (by omega), Option.bind_some, hn]
    by_cases hkp : k = pn
    · rw [if_pos (nI_le (by omega) (by omega))]
      refine Or.inl ⟨0, rfl, ?_⟩
      rw [anyN_no (fun j hj => decide_eq_false (hno j (by omega)))]
      rfl
    · have hlt : k < pn := by omega
      rw [if_neg (nI_ge hlt (by omega)), Option.bind_some, show (4 : Int32) = nI 4 from rfl, nI_add, nI_add, a314 hX (by omega), Option.bind_some, hc k hlt]
      by_cases hx : c k = y
      · rw [if_neg (fun q => q hx)]
        refine Or.inl ⟨1, rfl, ?_⟩
        rw [anyN_yes (c := fun k => decide (c k = y)) (decide_eq_true hx) hlt]
        rfl
      · rw [if_pos hx]
        refine Or.inr ⟨hlt, _, rfl, ?_, by omega, fun j hj => ?_⟩
        · rw [nI_1]
        · by_cases e : j = k
          · subst e; exact hx
          · exact hno j (by omega)
  obtain ⟨e, h1, h2⟩ := hLp
  rw [h1, Option.bind_some, h2]
theorem m_pref65_bad {a b : Int32} (h : gi R 311 5 ≠ 0) : f_X9_readPreference_65 U R 311 a b = some R := by
  unfold f_X9_readPreference_65
  rw [m_bad h, Option.bind_some, if_neg (fun q => q rfl)]
theorem anyN_one {c e : Nat → Bool} {b : Bool} (hn : c pn = b) (h : ∀ k, k < pn → c k = e k) : anyN c (pn + 1) = (b || anyN e pn) := by
  rw [← anyN_ext h]
  show (anyN c pn || c pn) = (b || anyN c pn)
  rw [hn, Bool.or_comm]
/-- one preference more -/
theorem pD_pf (h : pD T M R B nl nn) (hq : q < nl) (hx : x < nl) (hne : x ≠ q) (hpn : dPn M 5 q = nI pn) (h9 : pn ≤ 7) (no : anyN (fun k => decide (dPr M 5 q k = nI x)) pn = false) (hg : ∀ b j, gr M' b j = gr M b j) (hM : ∀ b j, dIn 5 b j → ¬ (b = 5 + 5 + 3 * q ∧ j = 5) → ¬ (b = 5 + 7 + 3 * q ∧ j = pn) → gi M' b j = gi M b j) (hm1 : gi M' (5 + 5 + 3 * q) 5 = nI (pn + 1)) (hm2 : gi M' (5 + 7 + 3 * q) pn = nI x) (hR : ∀ j, j < 198 → j ≠ 6 + 24 * q + 3 → j ≠ 6 + 24 * q + 4 + pn → gi R' 314 j = gi R 314 j) (hr1 : gi R' 314 (6 + 24 * q + 3) = nI (pn + 1)) (hr2 : gi R' 314 (6 + 24 * q + 4 + pn) = nI x) (hl : ∀ b j, b = 34 ∨ b = 35 → gl M' b j = gl M b j) (hl2 : ∀ b j, b = 324 ∨ b = 325 → gl R' b j = gl R b j) : pD T M' R' B nl nn := by
  have hn := h.2.1
  have h8 : q < 8 := by omega
  obtain ⟨⟨t, t1, t2, t3⟩, ⟨k1, k2⟩, ⟨r1, r2⟩, ⟨pm, p1, p2, p3, p4, p5, p6⟩, o1⟩ := h.2.2.2.1 q hq
  have epm : pm = pn := (nI_eq (by omega) (by omega)).mp (p1.symm.trans hpn)
  subst epm
  have h6 : pm ≤ 6 := by
    by_cases e7 : pm = 7
    · subst e7
      have u1 := cntN_up (V := fun y => anyN (fun k => decide (dPr M 5 q k = nI y)) 7) (x := x) no 8
      rw [p4, if_pos (show x < 8 by omega)] at u1
      have u2 := cntN_full u1 q h8
      rw [if_neg (fun z => hne z.symm), p5] at u2
      exact absurd u2 (by decide)
    · omega
  refine pD_row h hq hg (fun b j hd hb => hM b j hd (by omega) (by omega)) ?_ (fun j hj hb => hR j hj (by omega) (by omega)) hl hl2
  have eL : ∀ j, (j = 0 ∨ j = 1 ∨ j = 2) → gi M' (5 + 5 + 3 * q) j = gi M (5 + 5 + 3 * q) j := fun j hj => hM _ _ (dIn_lib h8 (by omega)) (by omega) (by omega)
  have epr : ∀ k, k < pm → dPr M' 5 q k = dPr M 5 q k := fun k hk => hM _ _ (dIn_prf h8 (by omega)) (by omega) (by omega)
  have epn : dPr M' 5 q pm = nI x := hm2
  have hV : ∀ y, y < 8 → anyN (fun k => decide (dPr M' 5 q k = nI y)) (pm + 1) = (decide (x = y) || anyN (fun k => decide (dPr M 5 q k = nI y)) pm) := fun y hy => by
    refine anyN_one (b := decide (x = y)) ?_ (fun k hk => by rw [epr k hk])
    rw [epn]
    by_cases exy : x = y
    · rw [exy, decide_eq_true rfl, decide_eq_true rfl]
    · rw [decide_eq_false exy, decide_eq_false (fun z => exy ((nI_eq (by omega) (by omega)).mp z))]
  refine ⟨⟨t, t1, (eL 0 (by omega)).trans t2, ?_⟩, ⟨by rw [show dKp M' 5 q = dKp M 5 q from eL 1 (by omega)]; exact k1, by rw [show dKp M' 5 q = dKp M 5 q from eL 1 (by omega), hR _ (by omega) (by omega) (by omega)]; exact k2⟩, ⟨(eL 2 (by omega)).trans r1, by rw [hR _ (by omega) (by omega) (by omega)]; exact r2⟩, ⟨pm + 1, hm1, hr1, by omega, ?_, ?_, fun k hk => ?_⟩, fun y hy => ?_⟩
  · rw [hR _ (by omega) (by omega) (by omega)]
    exact t3
  · rw [cntN_ext (e := fun y => if y = x then true else anyN (fun k => decide (dPr M 5 q k = nI y)) pm) (fun y hy => ?_), cntN_up (V := fun y => anyN (fun k => decide (dPr M 5 q k = nI y)) pm) (x := x) no, if_pos (show x < 8 by omega), p4]
    show anyN _ (pm + 1) = _
    rw [hV y hy]
    by_cases exy : y = x
    · rw [if_pos exy, exy, decide_eq_true rfl]
      rfl
    · rw [if_neg exy, decide_eq_false (fun z => exy z.symm)]
      rfl
  · rw [hV q h8, decide_eq_false hne, p5]
    rfl
  · by_cases ek : k = pm
    · rw [ek]
      exact ⟨x, hx, epn, hr2⟩
    · obtain ⟨y, q1, q2, q3⟩ := p6 k (by omega)
      exact ⟨y, q1, (epr k (by omega)).trans q2, (hR _ (by omega) (by omega) (by omega)).trans q3⟩
  · rw [show dOf M' 5 q y = dOf M 5 q y from hM _ _ (dIn_off h8 hy) (by omega) (by omega), hR _ (by omega) (by omega) (by omega)]
    exact o1 y hy
theorem c_addPref (hD : gDat T M 5) (hq : q < 8) (hpn : dPn M 5 q = nI pn) (h7 : pn ≤ 7) {y : Int32} : f_X3_addPreference T M (5 + 5 + 3 * q) y = some (si (si M (5 + 7 + 3 * q) pn y) (5 + 5 + 3 * q) 5 (nI (pn + 1))) := by
  unfold f_X3_addPreference
  rw [show gi M (5 + 5 + 3 * q) 5 = nI pn from hpn, if_neg (show ¬ (8 : Int32) ≤ nI pn from nI_ge (b := 8) (by omega) (by decide)), ldr_ok (hD.2.2.2 q hq).2.2.2 (hD.2.2.2 q hq).1.2.2, Option.bind_some, ast_ok (hD.2.2.2 q hq).1.2.2 (show pn < 8 by omega) (by decide), Option.bind_some, gi_si, if_neg (by omega), show gi M (5 + 5 + 3 * q) 5 = nI pn from hpn, nI_1]
theorem j_prefer (h : pH T U M R B n s e) (hD : pD T M R B nl nn) : jO T U M R B n e (f_X5_readPrefer T M 2) (f_X9_readPreference U R 311) nl nn := by
  obtain ⟨hX, hXR, hT, hR, hp, hg, ha⟩ := h
  obtain ⟨M1, s1, e1, c1, c2, c3⟩ := j_adv hX hXR hT hR hp hg ha
  have hX1 := c2.1
  have hD1 : pD T M1 R B nl nn := pD_PE hD (cP_t c3) fz_refl
  have hnl := hD.2.1.1
  obtain ⟨M2, R2, v, d1, d2, d3, d4⟩ := j_find c2 (s_34 hX1) (s_324 hXR) hnl (by decide) hD1.2.2.2.2.2.1
  have hXR2 := gFx_fz hXR d3
  have hF2 : cP M M2 := fz_trans (cP_t c3) d2
  have hD2 : pD T M2 R2 B nl nn := pD_PE hD hF2 d3
  unfold f_X5_readPrefer f_X5_findLibrary f_X9_readPreference
  rw [r_2_0 hX, Option.bind_some, c1, Option.bind_some, r_2_2 hX1, Option.bind_some, r_2_1 hX1, Option.bind_some, hD1.2.2.1.1, r_311_15 hXR, Option.bind_some, r_311_9 hXR, Option.bind_some, show ald U R 314 (1 : Int32) = some (gi R 314 1) from a314 (j := 1) hXR (by omega), Option.bind_some, hD.2.2.1.2.2.1, d1, Option.bind_some]
  dsimp only
  rw [r_311_15 hXR2, Option.bind_some, r_311_9 hXR2, Option.bind_some, show ald U R2 314 (1 : Int32) = some (gi R2 314 1) from a314 (j := 1) hXR2 (by omega), Option.bind_some, hD2.2.2.1.2.2.1]
  rcases d4 with ⟨f1, ⟨q, f2, f3, f4⟩, f5, f6, f7, f8⟩ | ⟨f1, f2⟩
  · have hX2 := gFx_fz hX hF2
    have hq8 : q < 8 := by omega
    have hT2 : cT M2 B n s1 e1 := by rw [f4]; exact cT_2 c2.2.2.1
    have k2 : gi M2 2 8 = nI q := by rw [f4, gi_si, if_pos ⟨rfl, rfl⟩]
    have hg2 : gi R2 311 5 = 0 := by rw [f6.2.2 311 5 (fun q => by have := q.2; omega)]; exact hg
    have ha2 : gi R2 311 6 = -1 := by rw [f6.2.2 311 6 (fun q => by have := q.2; omega)]; exact ha
    obtain ⟨M3, s2, e2, i1, i2, i3⟩ := j_adv (U := U) (R := R2) hX2 hXR2 hT2 (rTx_rF hR (rP_F f6)) f7 hg2 ha2
    have hX3 := i2.1
    have hF3 : cP M M3 := fz_trans hF2 (cP_t i3)
    have hD3 : pD T M3 R2 B nl nn := pD_PE hD hF3 d3
    obtain ⟨M4, R4, v2, j1, j2, j3, j4⟩ := j_find i2 (s_34 hX3) (s_324 hXR2) hnl (by decide) hD3.2.2.2.2.2.1
    have hXR4 := gFx_fz hXR2 j3
    have hF4 : cP M M4 := fz_trans hF3 j2
    have hE4 : rE R R4 := fz_trans d3 j3
    have hD4 : pD T M4 R4 B nl nn := pD_PE hD hF4 hE4
    rw [f1, Option.bind_some, chk_ok (Or.inr rfl), Option.bind_some, Option.bind_some, if_pos (show ¬ ((1 : Int32) = 0) by decide)]
    dsimp only
    rw [r_2_0 hX2, Option.bind_some, i1, Option.bind_some, r_2_2 hX3, Option.bind_some, r_2_1 hX3, Option.bind_some, hD3.2.2.1.1, j1, Option.bind_some, f3]
    dsimp only
    have hs12 := c2.2.2.2.2.2.1.1
    have hs23 := i2.2.2.2.2.2.1.1
    rcases j4 with ⟨l1, ⟨x, l2, l3, l4⟩, l5, l6, l7, l8⟩ | ⟨l1, l2⟩
    · have hX4 := gFx_fz hX hF4
      have hx8 : x < 8 := by omega
      have hT4 : cT M4 B n s2 e2 := by rw [l4]; exact cT_2 i2.2.2.1
      have k4 : gi M4 2 8 = nI x := by rw [l4, gi_si, if_pos ⟨rfl, rfl⟩]
      have hg4 : gi R4 311 5 = 0 := by rw [l6.2.2 311 5 (fun q => by have := q.2; omega)]; exact hg2
      have ha4 : gi R4 311 6 = -1 := by rw [l6.2.2 311 6 (fun q => by have := q.2; omega)]; exact ha2
      have hR4 := rTx_rF (rTx_rF hR (rP_F f6)) (rP_F l6)
      have hge : gi (rerr R4 (-5) s2) 311 5 ≠ 0 := by
        rw [gi_si, if_neg (by omega), gi_si, if_pos ⟨rfl, rfl⟩]
        decide
      have dup : jO T U M R B n e (f_X5_readPrefer_64 T M4 2) (f_X9_readPreference_55 U R4 311 (nI q) (nI x)) nl nn := by
        unfold f_X5_readPrefer_64 f_X9_readPreference_55
        rw [c_error hX4 hT4.2.1, Option.bind_some, chk_ok (Or.inl rfl), Option.bind_some, l8, m_report hg4, Option.bind_some, m_pref65_bad hge]
        exact ⟨_, _, rfl, cP_D (fz_trans hF4 cP_err), rE_D (fz_trans d3 (rE_err l6)), Or.inr ⟨rfl, bad_mk (by decide), kP_P hD.2.2.2.2.2.2.2 (fz_trans hF4 cP_err)⟩⟩
      rw [l1, Option.bind_some, chk_ok (Or.inr rfl), Option.bind_some, Option.bind_some, if_pos (show ¬ ((1 : Int32) = 0) by decide)]
      dsimp only
      rw [k4, k2, l3, m_good hg4, Option.bind_some, if_neg (show ¬ ((1 : Int32) = 0) by decide)]
      by_cases exq : x = q
      · rw [exq, if_pos rfl, if_pos rfl, ← exq]
        rw [exq] at dup ⊢
        exact dup
      · obtain ⟨-, -, -, ⟨pn, p1, p2, p3, p4, p5, p6⟩, -⟩ := hD4.2.2.2.1 q f2
        have hpq := m_prefD (c := fun k => dPr M4 5 q k) (y := nI x) hXR4 hq8 p2 p3 (fun k hk => by
          obtain ⟨y, q1, q2, q3⟩ := p6 k hk
          exact q3.trans q2.symm)
        rw [if_neg (fun z => exq ((nI_eq (by omega) (by omega)).mp z)), if_neg (fun z => exq ((nI_eq (by omega) (by omega)).mp z).symm), r_2_1 hX4, Option.bind_some, p_row1 hD4.1, Option.bind_some, p_row2 hD4.1 hq8, Option.bind_some, p_prefers hD4.1 hq8 p1 (by omega), Option.bind_some, r_311_9 hXR4, Option.bind_some, Option.bind_some, hpq, Option.bind_some]
        cases no : anyN (fun k => decide (dPr M4 5 q k = nI x)) pn with
        | true =>
          rw [if_pos rfl, if_neg (show ¬ ((1 : Int32) = 0) by decide), if_neg (show ¬ ((1 : Int32) = 0) by decide)]
          exact dup
        | false =>
          rw [if_neg (show ¬ (false = true) by decide), if_pos rfl, if_pos rfl, p_row1 hD4.1, Option.bind_some, p_row2 hD4.1 hq8, Option.bind_some, c_addPref hD4.1 hq8 p1 p3, Option.bind_some]
          have hX5 : gFx T (si (si M4 (5 + 7 + 3 * q) pn (nI x)) (5 + 5 + 3 * q) 5 (nI (pn + 1))) := gFx_gr hX4 (fun _ _ => rfl)
          have hT5 : cT (si (si M4 (5 + 7 + 3 * q) pn (nI x)) (5 + 5 + 3 * q) 5 (nI (pn + 1))) B n s2 e2 := cT_oth hT4 (fun b j hb => by rw [gi_si, if_neg (by omega), gi_si, if_neg (by omega)]) rfl
          obtain ⟨M5, s3, e3, m1, m2, m3⟩ := j_adv (U := U) (R := R4) hX5 hXR4 hT5 hR4 l7 hg4 ha4
          have hF4' : cD M (si (si M4 (5 + 7 + 3 * q) pn (nI x)) (5 + 5 + 3 * q) 5 (nI (pn + 1))) := fz_si (fz_si (cP_D hF4) (Or.inr (Or.inl (dIn_prf hq8 (by omega))))) (Or.inr (Or.inl (dIn_lib hq8 (by omega))))
          rw [r_2_0 hX5, Option.bind_some, m1, Option.bind_some]
          unfold f_X9_readPreference_65
          have hXs : gFx U (si R4 314 (6 + 24 * q + 4 + pn) (nI x)) := gFx_gr hXR4 (fun _ _ => rfl)
          rw [m_good hg4, Option.bind_some, if_pos (show ¬ ((1 : Int32) = 0) by decide), r_311_9 hXR4, Option.bind_some, p_at, Option.bind_some, Option.bind_some, Option.bind_some, show (3 : Int32) = nI 3 from rfl, nI_add, a314 hXR4 (by omega), Option.bind_some, p2, show (4 : Int32) = nI 4 from rfl, nI_add, nI_add, t314 hXR4 (by omega), Option.bind_some, r_311_9 hXs, Option.bind_some, p_at, Option.bind_some, nI_add, a314 hXs (by omega), Option.bind_some, gi_si, if_neg (by omega), p2, nI_1, t314 hXs (by omega), Option.bind_some]
          refine ⟨M5, _, rfl, fz_trans hF4' (cP_D (cP_t m3)), fz_si (fz_si (rE_D hE4) (Or.inr ⟨rfl, by omega, by omega, by omega⟩)) (Or.inr ⟨rfl, by omega, by omega, by omega⟩), Or.inl ⟨rfl, s3, e3, e2, ?_, by omega, ?_⟩⟩
          · exact pS_fr m2 (fun _ _ => rfl) (fun _ _ _ => rfl) rfl (fun _ _ => rfl) (fz_si (fz_si fz_refl (Or.inl rfl)) (Or.inl rfl)) (by rw [gi_si, if_neg (by omega), gi_si, if_neg (by omega)]) (by rw [gi_si, if_neg (by omega), gi_si, if_neg (by omega)]) (by rw [gi_si, if_neg (by omega), gi_si, if_neg (by omega)])
          · refine pD_pf hD4 f2 l2 exq p1 p3 no (fun b j => m3.1 b j) (fun b j hd hb1 hb2 => ?_) ?_ ?_ (fun j hj hj1 hj2 => by rw [gi_si, if_neg (fun z => hj1 z.2), gi_si, if_neg (fun z => hj2 z.2)]) (by rw [gi_si, if_pos ⟨rfl, rfl⟩]) (by rw [gi_si, if_neg (by omega), gi_si, if_pos ⟨rfl, rfl⟩]) (fun b j hb => m3.2.1 b j (fun y => by unfold tL at y; omega)) (fun _ _ _ => rfl)
            · rw [m3.2.2 b j (fun y => cS0_5 hd (Or.inl y)), gi_si, if_neg hb1, gi_si, if_neg hb2]
            · rw [m3.2.2 _ _ (fun y => cS0_5 (dIn_lib hq8 (by omega)) (Or.inl y)), gi_si, if_pos ⟨rfl, rfl⟩]
            · rw [m3.2.2 _ _ (fun y => cS0_5 (dIn_prf hq8 (by omega)) (Or.inl y)), gi_si, if_neg (by omega), gi_si, if_pos ⟨rfl, rfl⟩]
    · have hge : gi R4 311 5 ≠ 0 := bad_R (R' := R4) l2
      rw [l1, Option.bind_some, chk_ok (Or.inl rfl), Option.bind_some, Option.bind_some, if_neg (fun y => y rfl), m_bad hge, Option.bind_some, if_pos rfl, m_pref65_bad hge]
      exact ⟨_, _, rfl, cP_D hF4, rE_D hE4, Or.inr ⟨rfl, l2, kP_P hD.2.2.2.2.2.2.2 hF4⟩⟩
  · have hge : gi R2 311 5 ≠ 0 := bad_R (R' := R2) f2
    rw [f1, Option.bind_some, chk_ok (Or.inl rfl), Option.bind_some, Option.bind_some, if_neg (fun y => y rfl), m_known_bad (s_324 hXR2) hnl (by decide) hge, Option.bind_some]
    dsimp only
    rw [m_bad hge, Option.bind_some, if_pos rfl, m_pref65_bad hge]
    exact ⟨_, _, rfl, cP_D hF2, rE_D d3, Or.inr ⟨rfl, f2, kP_P hD.2.2.2.2.2.2.2 hF2⟩⟩
end PJF
