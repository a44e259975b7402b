/-! THE DRAFTS of both parsers; a new word; a name -/
def lD (M R : gM) (nl nn i : Nat) : Prop := (∃ t, t ≤ 999 ∧ dTr M 5 i = nI t ∧ gi R 314 (6 + 24 * i) = nI t) ∧ ((dKp M 5 i = 0 ∨ dKp M 5 i = 1) ∧ gi R 314 (6 + 24 * i + 1) = dKp M 5 i) ∧ (dRk M 5 i = nI i ∧ gi R 314 (6 + 24 * i + 2) = nI (i + 1)) ∧ (∃ pn, dPn M 5 i = nI pn ∧ gi R 314 (6 + 24 * i + 3) = nI pn ∧ pn ≤ 7 ∧ cntN (fun q => anyN (fun k => decide (dPr M 5 i k = nI q)) pn) 8 = pn ∧ anyN (fun k => decide (dPr M 5 i k = nI i)) pn = false ∧ ∀ k, k < pn → ∃ q, q < nl ∧ dPr M 5 i k = nI q ∧ gi R 314 (6 + 24 * i + 4 + k) = nI q) ∧ ∀ n, n < 12 → (dOf M 5 i n = -1 ∨ n < nn ∧ ((∃ v, v ≤ 9999 ∧ dOf M 5 i n = nI v) ∨ ∃ k, k < nn ∧ dOf M 5 i n = -2 - nI k)) ∧ gi R 314 (6 + 24 * i + 12 + n) = dOf M 5 i n
def pD (T : gT) (M R : gM) (B : Nat → Nat) (nl nn : Nat) : Prop := gDat T M 5 ∧ (nl ≤ 8 ∧ nn ≤ 12) ∧ (gi M 5 1 = nI nl ∧ gi M 5 2 = nI nn ∧ gi R 314 1 = nI nl ∧ gi R 314 2 = nI nn ∧ gi R 314 3 = nI nl ∧ gi R 314 0 = gi M 5 3) ∧ (∀ i, i < nl → lD M R nl nn i) ∧ (∀ i, nl ≤ i → i < 8 → gi R 314 (6 + 24 * i + 3) = 0) ∧ wT M R 34 324 nl B ∧ wT M R 35 325 nn B ∧ ∀ i, i < 8 → dKp M 5 i = 0 ∨ dKp M 5 i = 1
/-- the class's places that statements without weight write, and the reference's -/
def cSd (b j : Nat) : Prop := cS0 b j ∨ dIn 5 b j ∨ False
def cLd (b j : Nat) : Prop := tL b j ∨ b = 34 ∨ b = 35
def rSd (b j : Nat) : Prop := rS0 b j ∨ (b = 314 ∧ j ≠ 4 ∧ j ≠ 5 ∧ j < 198)
abbrev cD (M M' : gM) : Prop := fz cSd cLd M M'
abbrev rD (R R' : gM) : Prop := fz rSd rL R R'
theorem cP_D {M M' : gM} (h : cP M M') : cD M M' := fz_mono h (fun _ _ q => Or.inl q) (fun _ _ q => Or.inl q)
theorem rE_D {R R' : gM} (h : rE R R') : rD R R' := fz_mono h (fun _ _ q => Or.inl q) (fun _ _ q => q.elim)
theorem rD_F {R R' : gM} (h : rD R R') : rF R R' := fz_mono h (fun b j q => q.elim (fun q => Or.inr ⟨q.1, by have := q.2; omega⟩) (fun q => Or.inl q.1)) (fun _ _ q => q)
/-- the class at the token s .. e, the reference behind it -/
def pH (T U : gT) (M R : gM) (B : Nat → Nat) (n s e : Nat) : Prop := gFx T M ∧ gFx U R ∧ cT M B n s e ∧ rTx R B n ∧ gi R 311 4 = nI e ∧ gi R 311 5 = 0 ∧ gi R 311 6 = -1
section PJD
variable {T U : gT} {M R M' R' : gM} {B : Nat → Nat} {n s e p nl nn : Nat}
theorem d5_no {b j : Nat} (h : dIn 5 b j) : b = 5 ∨ (10 ≤ b ∧ b ≤ 33) := by
  have := dIn_two h
  omega
/-- the drafts stand, but for the number of names -/
theorem pD_up (h : pD T M R B nl nn) {nn' : Nat} (hn : nn ≤ nn') (hn' : nn' ≤ 12) (hg : ∀ b j, gr M' b j = gr M b j) (hM : ∀ b j, dIn 5 b j → ¬ (b = 5 ∧ j = 2) → gi M' b j = gi M b j) (hM2 : gi M' 5 2 = nI nn') (hR : ∀ j, j < 198 → j ≠ 2 → gi R' 314 j = gi R 314 j) (hR2 : gi R' 314 2 = nI nn') (w1 : wT M' R' 34 324 nl B) (w2 : wT M' R' 35 325 nn' B) : pD T M' R' B nl nn' := by
  obtain ⟨h1, ⟨h2, h2'⟩, ⟨a1, a2, a3, a4, a5, a6⟩, h4, h5, h6, h7, h8⟩ := h
  refine ⟨gDat_gr h1 hg, ⟨h2, hn'⟩, ⟨by rw [hM _ _ (dIn_hd (Or.inl rfl)) (by omega)]; exact a1, hM2, by rw [hR _ (by omega) (by omega)]; exact a3, hR2, by rw [hR _ (by omega) (by omega)]; exact a5, by rw [hR _ (by omega) (by omega), hM _ _ (dIn_hd (Or.inr (Or.inr rfl))) (by omega)]; exact a6⟩, fun i hi => ?_, fun i hi hi8 => by rw [hR _ (by omega) (by omega)]; exact h5 i hi hi8, w1, w2, fun i hi => by rw [show dKp M' 5 i = dKp M 5 i from hM _ _ (dIn_lib hi (Or.inr (Or.inl rfl))) (by omega)]; exact h8 i hi⟩
  have hi8 : i < 8 := by omega
  obtain ⟨⟨t, t1, t2, t3⟩, ⟨k1, k2⟩, ⟨r1, r2⟩, ⟨pn, p1, p2, p3, p4, p5, p6⟩, o1⟩ := h4 i hi
  have ekp : dKp M' 5 i = dKp M 5 i := hM _ _ (dIn_lib hi8 (Or.inr (Or.inl rfl))) (by omega)
  have epr : ∀ k, k < 8 → dPr M' 5 i k = dPr M 5 i k := fun k hk => hM _ _ (dIn_prf hi8 hk) (by omega)
  refine ⟨⟨t, t1, (hM _ _ (dIn_lib hi8 (Or.inl rfl)) (by omega)).trans t2, by rw [hR _ (by omega) (by omega)]; exact t3⟩, ⟨by rw [ekp]; exact k1, by rw [hR _ (by omega) (by omega), ekp]; exact k2⟩, ⟨(hM _ _ (dIn_lib hi8 (Or.inr (Or.inr (Or.inl rfl)))) (by omega)).trans r1, by rw [hR _ (by omega) (by omega)]; exact r2⟩, ⟨pn, (hM _ _ (dIn_lib hi8 (Or.inr (Or.inr (Or.inr rfl)))) (by omega)).trans p1, by rw [hR _ (by omega) (by omega)]; exact p2, p3, ?_, ?_, fun k hk => ?_⟩, fun z hz => ?_⟩
  · rw [cntN_ext (e := fun q => anyN (fun k => decide (dPr M 5 i k = nI q)) pn) (fun q _ => anyN_ext (fun k hk => by rw [epr k (by omega)]))]
    exact p4
  · rw [anyN_ext (e := fun k => decide (dPr M 5 i k = nI i)) (fun k hk => by rw [epr k (by omega)])]
    exact p5
  · obtain ⟨q, q1, q2, q3⟩ := p6 k hk
    exact ⟨q, q1, (epr k (by omega)).trans q2, by rw [hR _ (by omega) (by omega)]; exact q3⟩
  · rw [show dOf M' 5 i z = dOf M 5 i z from hM _ _ (dIn_off hi8 hz) (by omega), hR _ (by omega) (by omega)]
    obtain ⟨o2, o3⟩ := o1 z hz
    refine ⟨o2.imp id (fun q => ⟨by omega, q.2.imp id (fun y => ?_)⟩), o3⟩
    obtain ⟨k, k3, k4⟩ := y
    exact ⟨k, by omega, k4⟩
theorem wT_fr {a b cnt : Nat} (h : wT M R a b cnt B) (h1 : ∀ i, i < cnt → gl M' a i = gl M a i) (h2 : ∀ i, i < cnt → gl R' b i = gl R b i) : wT M' R' a b cnt B := fun i hi => by
  obtain ⟨s, l, g1, g2, g3, g4, g5⟩ := h i hi
  exact ⟨s, l, g1, g2, g3, (h1 i hi).trans g4, (h2 i hi).trans g5⟩
/-- the drafts stand -/
theorem pD_fr (h : pD T M R B nl nn) (hg : ∀ b j, gr M' b j = gr M b j) (hM : ∀ b j, dIn 5 b j → gi M' b j = gi M b j) (hl : ∀ b j, b = 34 ∨ b = 35 → gl M' b j = gl M b j) (hR : ∀ j, j < 198 → gi R' 314 j = gi R 314 j) (hl2 : ∀ b j, b = 324 ∨ b = 325 → gl R' b j = gl R b j) : pD T M' R' B nl nn := pD_up h (Nat.le_refl nn) h.2.1.2 hg (fun b j q _ => hM b j q) (by rw [hM _ _ (dIn_hd (Or.inr (Or.inl rfl)))]; exact h.2.2.1.2.1) (fun j hj _ => hR j hj) (by rw [hR _ (by omega)]; exact h.2.2.1.2.2.2.1) (wT_fr h.2.2.2.2.2.1 (fun i _ => hl _ _ (Or.inl rfl)) (fun i _ => hl2 _ _ (Or.inl rfl))) (wT_fr h.2.2.2.2.2.2.1 (fun i _ => hl _ _ (Or.inr rfl)) (fun i _ => hl2 _ _ (Or.inr rfl)))
theorem cS0_5 {b j : Nat} (h : dIn 5 b j) : ¬ cS0 b j := fun q => by
  have := d5_no h
  rcases q with q | q
  · unfold tS at q; omega
  · omega
theorem pD_PE (h : pD T M R B nl nn) (hM : cP M M') (hR : rE R R') : pD T M' R' B nl nn := pD_fr h hM.1 (fun b j q => hM.2.2 b j (cS0_5 q)) (fun b j q => hM.2.1 b j (fun z => by unfold tL at z; omega)) (fun j hj => hR.2.2 314 j (fun q => by unfold rS0 at q; omega)) (fun b j _ => hR.2.1 b j (fun q => q))
theorem j_new {a b cnt n0 : Nat} (h : pS T U M R B n s e p) (haT : T[a]? = some (12, n0)) (hbT : U[b]? = some (12, n0)) (hc : cnt < n0) (hn0 : n0 ≤ 12) (ha3 : a ≠ 3) (hw : wT M R a b cnt B) : ∃ M' R' R1 w fl, f_X9_readWord U R 311 = some (w, R1) ∧ f_X9_isFresh U R1 311 b (nI cnt) w = some (fl, R') ∧ rE R R1 ∧ rE R R' ∧ ((f_X5_readNewWord T M 2 a (nI cnt) = some (1, M') ∧ fl = 1 ∧ fz cS0 (fun b j => tL b j ∨ (b = a ∧ j = cnt)) M M' ∧ (∃ l, 1 ≤ l ∧ l ≤ 8 ∧ (∀ j, j < l → isL (B (s + j))) ∧ gl M' a cnt = lN (vl 256 B s l) ∧ w = lN (vl 27 (d27 B) s l)) ∧ (∃ s' e', pS T U M' R' B n s' e' e) ∧ s < e) ∨ (f_X5_readNewWord T M 2 a (nI cnt) = some (0, M') ∧ fl = 0 ∧ cP M M' ∧ bad M' R')) := by
  obtain ⟨v0, R0, k1, k2⟩ := j_word h
  obtain ⟨hX, hXR, hT, hR, hp, hsy, hg, ha⟩ := h
  unfold f_X9_isFresh f_X5_readNewWord
  rw [r_2_0 hX, Option.bind_some]
  rcases k2 with ⟨g1, g2, g3, g4, g5, g6, g7, g8, g9⟩ | ⟨g1, g2, R1, g3, g4⟩
  · have hgR : gi R0 311 5 = 0 := by rw [g7.2.2 311 5 (fun q => by have := q.2; omega)]; exact hg
    have hs := g4.1
    have hlet : ∀ j, j < e - s → isL (B (s + j)) := fun j hj => g4.2.2.1 (s + j) (by omega) (by omega)
    have hidx := j_index (M := M) (R := R) (s := s) (l := e - s) hw (by omega) g3 hlet g5
    have hlb : ∀ i, gl R0 b i = gl R b i := fun i => g7.2.1 b i (fun q => q)
    rw [g1, if_pos rfl, c_index hX haT (by omega) hn0, Option.bind_some, k1]
    cases hf : fstN (fun i => decide (gl M a i = gl M 3 5)) cnt with
    | none =>
      have hX2 : gFx T (sl M a cnt (gl M 3 5)) := gFx_gr hX (fun _ _ => rfl)
      have hT2 : cT (sl M a cnt (gl M 3 5)) B n s e := by
        obtain ⟨q1, q2, q3, q4, q5, q6⟩ := hT
        refine ⟨q1, q2, q3, q4, q5, ?_⟩
        unfold cK at q6 ⊢
        rw [gl_sl, if_neg (fun z => ha3 z.1.symm)]
        exact q6
      obtain ⟨M', s', e', c1, c2, c3⟩ := j_adv (U := U) (R := R0) hX2 (gFx_fz hXR g7) hT2 (rTx_rF hR (rP_F g7)) g8 hgR (by rw [g7.2.2 311 6 (fun q => by have := q.2; omega)]; exact ha)
      refine ⟨M', R0, R0, v0, 1, rfl, ?_, rP_E g7, rP_E g7, Or.inl ⟨?_, rfl, fz_trans (fz_sl fz_refl (Or.inr ⟨rfl, rfl⟩)) (fz_mono c3 (fun _ _ q => Or.inl q) (fun _ _ q => Or.inl q)), ⟨e - s, by omega, g3, hlet, ?_, g6⟩, ⟨s', e', c2⟩, hs⟩⟩
      · rw [m_good hgR, Option.bind_some, if_neg (by decide), m_place hbT (by omega) hn0, Option.bind_some, g6]
        simp only [hlb]
        rw [hidx, hf, if_pos (show oI none = -1 from rfl), Option.bind_some, chk_ok (Or.inr rfl), Option.bind_some]
      · rw [if_pos (show oI none = -1 from rfl), Option.bind_some, astl_ok haT hc (by omega), Option.bind_some, r_2_0 hX2, Option.bind_some, c1, Option.bind_some]
      · rw [c3.2.1 a cnt (fun q => ha3 q.1), gl_sl, if_pos ⟨rfl, rfl⟩, g5]
    | some q =>
      have hq := fstN_lt hf
      have hno : ¬ oI (some q) = -1 := nI_nneg (v := q) (by omega) (by decide)
      have hge : gi (rerr R0 (-5) s) 311 5 ≠ 0 := by
        rw [gi_si, if_neg (by omega), gi_si, if_pos ⟨rfl, rfl⟩]
        decide
      refine ⟨si (si M 2 9 (-5)) 2 10 (nI s), rerr R0 (-5) s, R0, v0, 0, rfl, ?_, rP_E g7, rE_err g7, Or.inr ⟨?_, rfl, cP_err, bad_mk (by decide)⟩⟩
      · rw [m_good hgR, Option.bind_some, if_neg (by decide), m_place hbT (by omega) hn0, Option.bind_some, g6]
        simp only [hlb]
        rw [hidx, hf, if_neg hno, g9, m_report hgR, Option.bind_some, m_bad hge, Option.bind_some, chk_ok (Or.inl rfl), Option.bind_some]
      · rw [if_neg hno, c_error hX hT.2.1, Option.bind_some, chk_ok (Or.inl rfl), Option.bind_some]
  · have hge : gi (rerr R1 (-2) s) 311 5 ≠ 0 := by
      rw [gi_si, if_neg (by omega), gi_si, if_pos ⟨rfl, rfl⟩]
      decide
    refine ⟨si (si M 2 9 (-2)) 2 10 (nI s), rerr R1 (-2) s, rerr R1 (-2) s, v0, 0, by rw [k1, g3], ?_, rE_err g4, rE_err g4, Or.inr ⟨?_, rfl, cP_err, bad_mk (by decide)⟩⟩
    · rw [m_bad hge, Option.bind_some, if_pos rfl, Option.bind_some, chk_ok (Or.inl rfl), Option.bind_some]
    · rw [if_neg g1, c_syn hX hT.2.1, Option.bind_some, chk_ok (Or.inl rfl), Option.bind_some]
theorem a314 (h : gFx U R) {j : Nat} (hj : j < 1498) : ald U R 314 (nI j) = some (gi R 314 j) := ald_ok (s_314 h) hj (by decide)
theorem t314 (h : gFx U R) {j : Nat} (hj : j < 1498) {x : Int32} : ast U R 314 (nI j) x = some (si R 314 j x) := ast_ok (s_314 h) hj (by decide)
theorem m_fresh_bad {b : Nat} {c : Int32} {w : Int64} (h : gi R 311 5 ≠ 0) : f_X9_isFresh U R 311 b c w = some (0, R) := by
  unfold f_X9_isFresh
  rw [m_bad h, Option.bind_some, if_pos rfl, Option.bind_some, chk_ok (Or.inl rfl), Option.bind_some]
/-- the class's flags of the draft are 0 or 1 -/
def kP (M : gM) : Prop := ∀ i, i < 8 → dKp M 5 i = 0 ∨ dKp M 5 i = 1
theorem kP_S (h : kP M) (hM : ∀ b j, dIn 5 b j → gi M' b j = gi M b j) : kP M' := fun i hi => by
  rw [show dKp M' 5 i = dKp M 5 i from hM _ _ (dIn_lib hi (Or.inr (Or.inl rfl)))]
  exact h i hi
theorem kP_P (h : kP M) (hM : cP M M') : kP M' := kP_S h (fun b j q => hM.2.2 b j (cS0_5 q))
/-- what a statement's part leaves -/
def jO (T U : gT) (M R : gM) (B : Nat → Nat) (n e : Nat) (cr : Option (Int32 × gM)) (rr : Option gM) (nl nn : Nat) : Prop := ∃ M' R', rr = some R' ∧ cD M M' ∧ rD R R' ∧ ((cr = some (1, M') ∧ ∃ s' e' p', pS T U M' R' B n s' e' p' ∧ e ≤ p' ∧ pD T M' R' B nl nn) ∨ (cr = some (0, M') ∧ bad M' R' ∧ kP M'))
theorem j_name (h : pH T U M R B n s e) (hD : pD T M R B nl nn) : jO T U M R B n e (f_X5_readNewName T M 2) (f_X9_readName U R 311 (nI s)) nl (nn + 1) := by
  obtain ⟨hX, hXR, hT, hR, hp, hg, ha⟩ := h
  have hD' := hD
  obtain ⟨h1, ⟨h2, h2'⟩, ⟨a1, a2, a3, a4, a5, a6⟩, h4, h5, h6, h7, h8⟩ := hD
  unfold f_X5_readNewName f_X9_readName f_X9_readName_18
  rw [r_2_1 hX, Option.bind_some, a2, r_311_9 hXR, Option.bind_some, show (2 : Int32) = nI 2 from rfl, a314 hXR (by omega), Option.bind_some, a4]
  by_cases c12 : nn = 12
  · subst c12
    have hge : gi (rerr R (-6) s) 311 5 ≠ 0 := by
      rw [gi_si, if_neg (by omega), gi_si, if_pos ⟨rfl, rfl⟩]
      decide
    have hXb : gFx U (rerr R (-6) s) := gFx_gr hXR (fun _ _ => rfl)
    rw [if_neg (show ¬ nI 12 < (12 : Int32) by decide), if_neg (fun q => q (show nI 12 = (12 : Int32) from rfl)), m_report hg, Option.bind_some, m_readWord_bad hge, Option.bind_some]
    dsimp only
    rw [r_311_16 hXb, Option.bind_some, r_311_9 hXb, Option.bind_some, a314 hXb (by omega), Option.bind_some, m_fresh_bad hge, Option.bind_some, if_neg (fun q => q rfl), c_error hX hT.2.1, Option.bind_some, chk_ok (Or.inl rfl), Option.bind_some]
    exact ⟨_, _, rfl, cP_D cP_err, rE_D (rE_err fz_refl), Or.inr ⟨rfl, bad_mk (by decide), kP_P hD'.2.2.2.2.2.2.2 cP_err⟩⟩
  · have hlt : nn < 12 := by omega
    obtain ⟨M1, s1, e1, c1, c2, c3⟩ := j_adv hX hXR hT hR hp hg ha
    have hX1 := c2.1
    have hw1 : wT M1 R 35 325 nn B := fun i hi => by
      obtain ⟨s, l, g1, g2, g3, g4, g5⟩ := h7 i hi
      exact ⟨s, l, g1, g2, g3, (c3.2.1 35 i (fun q => by unfold tL at q; omega)).trans g4, g5⟩
    obtain ⟨M', R', R1, w, fl, d1, d2, d3, d4, d5⟩ := j_new c2 (s_35 hX1) (s_325 hXR) hlt (Nat.le_refl 12) (by decide) hw1
    have hXR1 := gFx_fz hXR d3
    have hXR' := gFx_fz hXR d4
    have e2 : gi M1 5 2 = nI nn := (c3.2.2 5 2 (fun q => by unfold tS at q; omega)).trans a2
    have e3 : gi R1 314 2 = nI nn := (d3.2.2 314 2 (fun q => by unfold rS0 at q; omega)).trans a4
    have e4 : gi R' 314 2 = nI nn := (d4.2.2 314 2 (fun q => by unfold rS0 at q; omega)).trans a4
    rw [if_pos (show nI nn < (12 : Int32) from nI_lt (b := 12) hlt (by decide)), r_2_0 hX, Option.bind_some, c1, Option.bind_some, r_2_3 hX1, Option.bind_some, r_2_1 hX1, Option.bind_some, e2, if_pos (show ¬ nI nn = (12 : Int32) from fun q => c12 ((nI_eq (b := 12) (by omega) (by decide)).mp q)), d1, Option.bind_some]
    dsimp only
    rw [r_311_16 hXR1, Option.bind_some, r_311_9 hXR1, Option.bind_some, a314 hXR1 (by omega), Option.bind_some, e3, d2, Option.bind_some]
    rcases d5 with ⟨f1, f2, f3, ⟨l, f4, f5, f6, f7, f8⟩, ⟨s', e', f9⟩, f10⟩ | ⟨f1, f2, f3, f4⟩
    · have hXm := f9.1
      have hXs : gFx U (sl R' 325 nn w) := gFx_gr hXR' (fun _ _ => rfl)
      have e5 : gi M' 5 2 = nI nn := (f3.2.2 5 2 (cS0_5 (dIn_hd (Or.inr (Or.inl rfl))))).trans e2
      rw [f1, Option.bind_some, if_pos (show ¬ ((1 : Int32) = 0) by decide), r_2_1 hXm, Option.bind_some, f2, if_pos (show ¬ ((1 : Int32) = 0) by decide), r_311_16 hXR', Option.bind_some, r_311_9 hXR', Option.bind_some, a314 hXR' (by omega), Option.bind_some, e4, astl_ok (s_325 hXR') hlt (by decide), Option.bind_some, r_311_9 hXs, Option.bind_some, a314 hXs (by omega), Option.bind_some, show gi (sl R' 325 nn w) 314 2 = nI nn from e4, t314 hXs (by omega), Option.bind_some, e5, nI_1]
      have hFM : cD M (si M' 5 2 (nI (nn + 1))) := fz_si (fz_trans (cP_D (cP_t c3)) (fz_mono f3 (fun _ _ q => Or.inl q) (fun b j q => q.elim (fun q => Or.inl q) (fun q => Or.inr (Or.inr q.1))))) (Or.inr (Or.inl (dIn_hd (Or.inr (Or.inl rfl)))))
      have hFR : rD R (si (sl R' 325 nn w) 314 2 (nI (nn + 1))) := fz_si (fz_sl (rE_D d4) (Or.inr rfl)) (Or.inr ⟨rfl, by decide, by decide, by decide⟩)
      have hFR2 : rF R' (si (sl R' 325 nn w) 314 2 (nI (nn + 1))) := fz_si (fz_sl fz_refl (Or.inr rfl)) (Or.inl rfl)
      refine ⟨_, _, rfl, hFM, hFR, Or.inl ⟨rfl, s', e', e1, ?_, by have := c2.2.2.2.2.2.1.1; omega, ?_⟩⟩
      · obtain ⟨q1, q2, q3, q4, q5, q6, q7, q8⟩ := f9
        refine ⟨gFx_gr q1 (fun _ _ => rfl), gFx_gr q2 (fun _ _ => rfl), ?_, rTx_rF q4 hFR2, by rw [gi_si, if_neg (by omega)]; exact q5, q6, by rw [gi_si, if_neg (by omega)]; exact q7, by rw [gi_si, if_neg (by omega)]; exact q8⟩
        obtain ⟨⟨w1, w2, w3⟩, w4, w5, w6, w7, w8⟩ := q3
        have hgg : ∀ b j, b = 3 ∨ b = 4 → gi (si M' 5 2 (nI (nn + 1))) b j = gi M' b j := fun b j hb => by rw [gi_si, if_neg (by omega)]
        refine ⟨⟨(hgg _ _ (Or.inl rfl)).trans w1, w2, fun j hj => ⟨(w3 j hj).1, (hgg _ _ (Or.inr rfl)).trans (w3 j hj).2⟩⟩, (hgg _ _ (Or.inl rfl)).trans w4, (hgg _ _ (Or.inl rfl)).trans w5, w6, w7, ?_⟩
        unfold cK at w8 ⊢
        rw [hgg 3 3 (Or.inl rfl), hgg 3 6 (Or.inl rfl), hgg 3 7 (Or.inl rfl)]
        exact w8
      · refine pD_up hD' (Nat.le_succ nn) hlt (fun b j => (f3.1 b j).trans (c3.1 b j)) (fun b j q hb => ?_) (by rw [gi_si, if_pos ⟨rfl, rfl⟩]) (fun j hj hj2 => ?_) (by rw [gi_si, if_pos ⟨rfl, rfl⟩]) (wT_fr h6 (fun i _ => ?_) (fun i _ => ?_)) (fun i hi => ?_)
        · rw [gi_si, if_neg hb]
          exact (f3.2.2 b j (cS0_5 q)).trans (c3.2.2 b j (fun z => cS0_5 q (Or.inl z)))
        · rw [gi_si, if_neg (fun q => hj2 q.2)]
          exact d4.2.2 314 j (fun q => by unfold rS0 at q; omega)
        · exact (f3.2.1 34 i (fun q => by unfold tL at q; omega)).trans (c3.2.1 34 i (fun q => by unfold tL at q; omega))
        · show gl (sl R' 325 nn w) 324 i = _
          rw [gl_sl, if_neg (by omega)]
          exact d4.2.1 324 i (fun q => q)
        · show ∃ s l, _ ∧ _ ∧ _ ∧ gl M' 35 i = _ ∧ gl (sl R' 325 nn w) 325 i = _
          by_cases ei : i = nn
          · subst ei
            exact ⟨s1, l, f4, f5, f6, f7, by rw [gl_sl, if_pos ⟨rfl, rfl⟩]; exact f8⟩
          · obtain ⟨s2, l2, g1, g2, g3, g4, g5⟩ := h7 i (by omega)
            refine ⟨s2, l2, g1, g2, g3, ?_, ?_⟩
            · exact ((f3.2.1 35 i (fun q => by unfold tL at q; omega)).trans (c3.2.1 35 i (fun q => by unfold tL at q; omega))).trans g4
            · rw [gl_sl, if_neg (fun q => ei q.2)]
              exact (d4.2.1 325 i (fun q => q)).trans g5
    · rw [f1, Option.bind_some, if_neg (fun q => q rfl), f2, if_neg (fun q => q rfl)]
      exact ⟨_, _, rfl, fz_trans (cP_D (cP_t c3)) (cP_D f3), rE_D d4, Or.inr ⟨rfl, f4, kP_P hD'.2.2.2.2.2.2.2 (fz_trans (cP_t c3) f3)⟩⟩
end PJD
