/-! STATEMENTS of a known text -/
/-- the law's words for libraries and names -/
def lbW (k : Nat) : List Nat := if k = 1 then [107, 101, 101, 112, 115] else [108, 105, 98, 97 + k]
def nmW (k : Nat) : List Nat := if k = 0 then [116, 111] else [110, 97 + k]
theorem lbW_ok : ∀ k, k < 5 → 1 ≤ (lbW k).length ∧ (lbW k).length ≤ 8 ∧ ∀ i, i < (lbW k).length → isL ((lbW k).getD i 0) := by decide +kernel
theorem nmW_ok : ∀ k, k < 4 → 1 ≤ (nmW k).length ∧ (nmW k).length ≤ 8 ∧ ∀ i, i < (nmW k).length → isL ((nmW k).getD i 0) := by decide +kernel
theorem lbW_ne : ∀ i, i < 5 → ∀ j, j < 5 → i ≠ j → wv (lbW i) ≠ wv (lbW j) := by decide +kernel
theorem nmW_ne : ∀ i, i < 4 → ∀ j, j < 4 → i ≠ j → wv (nmW i) ≠ wv (nmW j) := by decide +kernel
theorem str_ne : ∀ i, i < 13 → ∀ j, j < 13 → i ≠ j → gStrs.getD i [] ≠ gStrs.getD j [] := by decide +kernel
theorem str_lw {i : Nat} (hi : i < 13) : lw (gStrs.getD i []) := by
  obtain ⟨h1, h2, h3⟩ := kc_ok i hi
  exact ⟨h1, Nat.le_trans h2 (by decide), h3⟩
/-- the draft is V's -/
def dS5 (M V : gM) : Prop := ∀ b j, dIn 5 b j → gi M b j = gi V b j
/-- the class between two statements: the draft as in V; a, b: share and weight told; k, m: the code so far -/
def RU (T : gT) (M : gM) (V : gM) (nl nn a b : Nat) (k : Nat → Nat × Nat) (m : Nat) : Prop := gDat T M 5 ∧ dS5 M V ∧ (gi V 5 1 = nI nl ∧ nl ≤ 5) ∧ (gi V 5 2 = nI nn ∧ nn ≤ 4) ∧ (∀ i, i < nl → gl M 34 i = wv (lbW i)) ∧ (∀ i, i < nn → gl M 35 i = wv (nmW i)) ∧ (gi M 2 6 = nI a ∧ gi M 2 7 = nI b) ∧ gi M 2 5 = nI m ∧ ∀ t, t < m → gi M 36 t = wCls (k t)
/-- it stands at p -/
def RT (T : gT) (M : gM) (B : Nat → Nat) (n p : Nat) (V : gM) (nl nn a b : Nat) (k : Nat → Nat × Nat) (m : Nat) : Prop := aT T M B n p ∧ RU T M V nl nn a b k m
/-- a statement st makes V' of V -/
def SS (V : gM) (nl nn a b : Nat) (k : Nat → Nat × Nat) (m : Nat) (st : List Nat) (V' : gM) (nl' nn' a' b' : Nat) (k' : Nat → Nat × Nat) (m' : Nat) : Prop := ∀ (T : gT) (M : gM) (B : Nat → Nat) (n p : Nat), RT T M B n p V nl nn a b k m → bs B p st → p + st.length ≤ n → p < n ∧ isL (B p) ∧ ∃ M1 M', f_X5_readStatement T M 2 = some (1, M1) ∧ f_X5_readSign T M1 2 (59 : Int32) = some (1, M') ∧ RT T M' B n (p + st.length) V' nl' nn' a' b' k' m' ∧ fz cS11 cLd M M'
theorem sgn59 : sgn 59 := ⟨by decide, by decide, by decide⟩
theorem sp0 {B : Nat → Nat} {q : Nat} : ∀ j, j < 0 → B (q + j) = 32 := fun j hj => absurd hj (Nat.not_lt_zero j)
theorem sp1 {B : Nat → Nat} {q : Nat} (h : B q = 32) : ∀ j, j < 1 → B (q + j) = 32 := fun j hj => by
  rw [show j = 0 by omega]
  exact h
theorem bs1 {B : Nat → Nat} {q c : Nat} (h : bs B q [c]) : B q = c := by
  have := h 0 (Nat.zero_lt_one)
  exact this
theorem tS_11 {b j : Nat} (h : tS b j) : cS11 b j := Or.inr (Or.inl h.1)
theorem cS0_11 {b j : Nat} (h : cS0 b j) : cS11 b j := by
  rcases h with h | h
  · exact tS_11 h
  · exact Or.inl h.1
theorem fz_11 {M M' : gM} (h : fz tS tL M M') : fz cS11 cLd M M' := fz_mono h (fun _ _ q => tS_11 q) (fun _ _ q => Or.inl q)
theorem fz0_11 {M M' : gM} (h : fz cS0 tL M M') : fz cS11 cLd M M' := fz_mono h (fun _ _ q => cS0_11 q) (fun _ _ q => Or.inl q)
section PSS
variable {T : gT} {M M' N V : gM} {B : Nat → Nat} {n p s e v q i x nl nn a b m : Nat} {k : Nat → Nat × Nat} {st : List Nat}
/-- the class's word of a statement -/
theorem d_kw (hi : i < 13) (h : aT T M B n p) (hb : bs B p (gStrs.getD i [])) (h32 : B (p + gSl i) = 32) (hn : p + gSl i < n) : cT M B n p (p + gSl i) ∧ isL (B p) ∧ f_X6_isWord T M 3 i = some 1 ∧ ∀ j, j < 13 → j ≠ i → f_X6_isWord T M 3 j = some 0 := by
  have hl := w_first (str_lw hi) hb
  have he : ¬ isL (B (p + gSl i)) := by rw [h32]; decide
  obtain ⟨e, hT⟩ := aT_at (k := 0) h sp0 (isL_32 hl) (by omega)
  obtain ⟨w1, w2⟩ := w_isY (T := T) hi hT hb he hn
  subst w2
  exact ⟨hT, hl, w1, fun j hj hji => w_isN hj hT (str_lw hi) hb he hn (str_ne i hi j hj (fun z => hji z.symm))⟩
/-- from the end of a statement's part over its semicolon -/
theorem s_semi {M1 : gM} (h : aT T M1 B n q) (hb : B q = 59) (hn : q < n) : ∃ M', f_X5_readSign T M1 2 (59 : Int32) = some (1, M') ∧ aT T M' B n (q + 1) ∧ fz tS tL M1 M' := s_sign (c := 59) (k := 0) sgn59 h sp0 (by decide) hb hn
theorem cS0_d5 {b j : Nat} (h : dIn 5 b j) : ¬ cS0 b j := fun q => by
  have := d5_no h
  rcases q with q | q
  · unfold tS at q; omega
  · omega
theorem RU_0 (h : RU T M V nl nn a b k m) (hF : fz cS0 tL M M') : RU T M' V nl nn a b k m := by
  obtain ⟨h1, h2, h3, h4, h5, h6, ⟨h7, h7'⟩, h8, h9⟩ := h
  have f2 : ∀ j, ¬ (j = 8 ∨ j = 9 ∨ j = 10) → gi M' 2 j = gi M 2 j := fun j hj => hF.2.2 2 j (fun q => by unfold cS0 tS at q; omega)
  exact ⟨gDat_gr h1 hF.1, fun b j hd => (hF.2.2 b j (cS0_d5 hd)).trans (h2 b j hd), h3, h4, fun i hi => (hF.2.1 34 i (fun q => by unfold tL at q; omega)).trans (h5 i hi), fun i hi => (hF.2.1 35 i (fun q => by unfold tL at q; omega)).trans (h6 i hi), ⟨(f2 6 (by omega)).trans h7, (f2 7 (by omega)).trans h7'⟩, (f2 5 (by omega)).trans h8, fun t ht => (hF.2.2 36 t (fun q => by unfold cS0 tS at q; omega)).trans (h9 t ht)⟩
theorem RU_t (h : RU T M V nl nn a b k m) (hF : fz tS tL M M') : RU T M' V nl nn a b k m := RU_0 h (cP_t hF)
theorem RU_2 {j : Nat} {y : Int32} (hj : j = 8 ∨ j = 9 ∨ j = 10) (h : RU T M V nl nn a b k m) : RU T (si M 2 j y) V nl nn a b k m := RU_0 h (fz_si fz_refl (Or.inr ⟨rfl, hj⟩))
/-- a write into the draft, mirrored -/
theorem RU_w {b0 j0 : Nat} {y : Int32} (hd : dIn 5 b0 j0) (hh : ¬ (b0 = 5 ∧ (j0 = 1 ∨ j0 = 2))) (h : RU T M V nl nn a b k m) : RU T (si M b0 j0 y) (si V b0 j0 y) nl nn a b k m := by
  obtain ⟨h1, h2, h3, h4, h5, h6, h7, h8, h9⟩ := h
  have h0 := d5_no hd
  have f2 : ∀ b j, b ≠ b0 → gi (si M b0 j0 y) b j = gi M b j := fun b j hb => by rw [gi_si, if_neg (fun q => hb q.1)]
  exact ⟨gDat_gr h1 (fun _ _ => rfl), fun b j hd => by rw [gi_si, gi_si, h2 b j hd], ⟨by rw [gi_si, if_neg (fun q => hh ⟨q.1.symm, Or.inl q.2.symm⟩)]; exact h3.1, h3.2⟩, ⟨by rw [gi_si, if_neg (fun q => hh ⟨q.1.symm, Or.inr q.2.symm⟩)]; exact h4.1, h4.2⟩, h5, h6, ⟨(f2 2 6 (by omega)).trans h7.1, (f2 2 7 (by omega)).trans h7.2⟩, (f2 2 5 (by omega)).trans h8, fun t ht => (f2 36 t (by omega)).trans (h9 t ht)⟩
theorem RT_of (hA : aT T M B n p) (h : RU T M V nl nn a b k m) : RT T M B n p V nl nn a b k m := ⟨hA, h⟩
theorem aT_d {b0 j0 : Nat} {y : Int32} (hd : dIn 5 b0 j0) (h : aT T M B n p) : aT T (si M b0 j0 y) B n p := by
  have h0 := d5_no hd
  exact aT_eq h (fun _ _ => rfl) (fun j => by rw [gi_si, if_neg (by omega)]) (fun j => by rw [gi_si, if_neg (by omega)]) rfl
/-! NAMES -/
theorem SS_name (hnn : nn < 4) : SS V nl nn a b k m (gStrs.getD 14 [] ++ nmW nn ++ gStrs.getD 17 []) (si V 5 2 (nI (nn + 1))) nl (nn + 1) a b k m := by
  intro T M B n p hR hb hn
  obtain ⟨hA, hU⟩ := hR
  have g1 : (gStrs.getD 1 []).length = 4 := by decide +kernel
  have gl1 : gSl 1 = 4 := g1
  rw [show gStrs.getD 14 [] = gStrs.getD 1 [] ++ [32] by decide +kernel, show gStrs.getD 17 [] = [59] by decide +kernel] at hb hn ⊢
  have hlen : p + (gStrs.getD 1 [] ++ [32] ++ nmW nn ++ [59]).length = p + 4 + 1 + (nmW nn).length + 1 := by
    simp only [List.length_append, g1, List.length_cons, List.length_nil]
    omega
  rw [hlen] at hn ⊢
  rw [bs_app, bs_app, bs_app] at hb
  obtain ⟨⟨⟨b1, b2⟩, b3⟩, b4⟩ := hb
  simp only [List.length_append, g1, List.length_cons, List.length_nil, Nat.zero_add] at b2 b3 b4
  rw [← Nat.add_assoc] at b3
  rw [← Nat.add_assoc, ← Nat.add_assoc] at b4
  have b2 := bs1 b2
  have b4 := bs1 b4
  obtain ⟨hw1, hl, w1, -⟩ := d_kw (i := 1) (by decide) hA b1 (by rw [gl1]; exact b2) (by rw [gl1]; omega)
  rw [gl1] at hw1
  obtain ⟨M1, c1, c2, c3⟩ := s_adv hA.1 hw1
  have hU1 := RU_t hU c3
  obtain ⟨M2, d1, d2, d3, d4⟩ := s_new (w := nmW nn) (a := 35) (cnt := nn) (n0 := 12) c2 (sp1 b2) (nmW_ok nn hnn) b3 (by rw [b4]; decide) (by omega) (s_35 c2.1) (by omega) (by decide) (by decide) (fun i hi => by rw [hU1.2.2.2.2.2.1 i hi]; exact nmW_ne i (by omega) nn hnn (by omega))
  have e5 : ∀ M : gM, RU T M V nl nn a b k m → gi M 5 2 = nI nn := fun M h => (h.2.1 5 2 (dIn_hd (Or.inr (Or.inl rfl)))).trans h.2.2.2.1.1
  have e2 : gi M2 5 2 = nI nn := (d4.2.2 5 2 (fun q => by unfold tS at q; omega)).trans (e5 M1 hU1)
  have hA2 : aT T (si M2 5 2 (nI (nn + 1))) B n (p + 4 + 1 + (nmW nn).length) := aT_d (dIn_hd (Or.inr (Or.inl rfl))) d3
  obtain ⟨M', f1, f2, f3⟩ := s_semi hA2 b4 (by omega)
  refine ⟨by omega, hl, si M2 5 2 (nI (nn + 1)), M', ?_, f1, RT_of f2 (RU_t (M := si M2 5 2 (nI (nn + 1))) ?_ f3), ?_⟩
  · unfold f_X5_readStatement f_X5_readNewName
    rw [r_2_0 hA.1, Option.bind_some, w1, Option.bind_some, if_neg (by decide), r_2_1 hA.1, Option.bind_some, e5 M hU, if_pos (show nI nn < (12 : Int32) from nI_lt (b := 12) (by omega) (by decide)), Option.bind_some, c1, Option.bind_some, r_2_3 c2.1, Option.bind_some, r_2_1 c2.1, Option.bind_some, e5 M1 hU1, d1, Option.bind_some]
    dsimp only
    rw [if_pos (by decide), r_2_1 d3.1, Option.bind_some, e2, nI_1, Option.bind_some, chk_ok (Or.inr rfl), Option.bind_some]
  · obtain ⟨h1, h2, h3, h4, h5, h6, h7, h8, h9⟩ := hU1
    have q2 : ∀ b j, ¬ tS b j → b ≠ 5 → gi (si M2 5 2 (nI (nn + 1))) b j = gi M1 b j := fun b j hb hb5 => by
      rw [gi_si, if_neg (fun q => hb5 q.1)]
      exact d4.2.2 b j hb
    refine ⟨gDat_gr h1 (fun b j => d4.1 b j), fun b j hd => ?_, ⟨by rw [gi_si, if_neg (by omega)]; exact h3.1, h3.2⟩, ⟨by rw [gi_si, if_pos ⟨rfl, rfl⟩], by omega⟩, fun i hi => ?_, fun i hi => ?_, ⟨(q2 2 6 (fun q => by unfold tS at q; omega) (by decide)).trans h7.1, (q2 2 7 (fun q => by unfold tS at q; omega) (by decide)).trans h7.2⟩, (q2 2 5 (fun q => by unfold tS at q; omega) (by decide)).trans h8, fun t ht => (q2 36 t (fun q => by unfold tS at q; omega) (by decide)).trans (h9 t ht)⟩
    · rw [gi_si, gi_si, d4.2.2 b j (fun q => cS0_d5 hd (Or.inl q)), h2 b j hd]
    · show gl M2 34 i = _
      rw [d4.2.1 34 i (fun q => by unfold tL at q; omega)]
      exact h5 i hi
    · show gl M2 35 i = _
      by_cases ei : i = nn
      · rw [ei]
        exact d2
      · rw [d4.2.1 35 i (fun q => by unfold tL at q; omega)]
        exact h6 i (by omega)
  · have z4 : fz cS11 cLd M1 M2 := fz_mono d4 (fun _ _ q => tS_11 q) (fun b j q => q.elim Or.inl (fun z => Or.inr (Or.inr z.1)))
    exact fz_trans (fz_si (fz_trans (fz_11 c3) z4) (Or.inr (Or.inr (Or.inr (Or.inr (dIn_hd (Or.inr (Or.inl rfl)))))))) (fz_11 f3)
/-! A SHARE -/
theorem SS_share (hv : v ≤ 100) : SS V nl nn 0 b k m (gStrs.getD 26 [] ++ dg v ++ gStrs.getD 17 []) (si V 5 3 (nI v)) nl nn 1 b k m := by
  intro T M B n p hR hb hn
  obtain ⟨hA, hU⟩ := hR
  have g1 : (gStrs.getD 5 []).length = 5 := by decide +kernel
  have gl1 : gSl 5 = 5 := g1
  rw [show gStrs.getD 26 [] = gStrs.getD 5 [] ++ [32] by decide +kernel, show gStrs.getD 17 [] = [59] by decide +kernel] at hb hn ⊢
  have hlen : p + (gStrs.getD 5 [] ++ [32] ++ dg v ++ [59]).length = p + 5 + 1 + (dg v).length + 1 := by
    simp only [List.length_append, g1, List.length_cons, List.length_nil]
    omega
  rw [hlen] at hn ⊢
  rw [bs_app, bs_app, bs_app] at hb
  obtain ⟨⟨⟨b1, b2⟩, b3⟩, b4⟩ := hb
  simp only [List.length_append, g1, List.length_cons, List.length_nil, Nat.zero_add] at b2 b3 b4
  rw [← Nat.add_assoc] at b3
  rw [← Nat.add_assoc, ← Nat.add_assoc] at b4
  have b2 := bs1 b2
  have b4 := bs1 b4
  obtain ⟨hw1, hl, w1, wn⟩ := d_kw (i := 5) (by decide) hA b1 (by rw [gl1]; exact b2) (by rw [gl1]; omega)
  rw [gl1] at hw1
  have hX6 : gFx T (si M 2 6 1) := gFx_gr hA.1 (fun _ _ => rfl)
  obtain ⟨M1, c1, c2, c3⟩ := s_adv hX6 (cT_2 (j := 6) (x := 1) hw1)
  obtain ⟨-, -, M2, d1, d2, d3, d4⟩ := s_num (hi := 100) (v := v) (by omega) hv (by decide) c2 (sp1 b2) b3 (by rw [b4]; decide) (by omega)
  have hA2 : aT T (si M2 5 3 (nI v)) B n (p + 5 + 1 + (dg v).length) := aT_d (dIn_hd (Or.inr (Or.inr rfl))) d3
  obtain ⟨M', f1, f2, f3⟩ := s_semi hA2 b4 (by omega)
  refine ⟨by omega, hl, si M2 5 3 (nI v), M', ?_, f1, RT_of f2 (RU_t (M := si M2 5 3 (nI v)) (RU_w (dIn_hd (Or.inr (Or.inr rfl))) (by omega) (RU_0 (RU_t ?_ c3) d4)) f3), ?_⟩
  · unfold f_X5_readStatement f_X5_readShare
    rw [r_2_0 hA.1, Option.bind_some, wn 1 (by decide) (by decide), Option.bind_some, if_pos rfl, Option.bind_some, wn 2 (by decide) (by decide), Option.bind_some, if_pos rfl, Option.bind_some, wn 3 (by decide) (by decide), Option.bind_some, if_pos rfl, Option.bind_some, wn 4 (by decide) (by decide), Option.bind_some, if_pos rfl, Option.bind_some, w1, Option.bind_some, if_neg (by decide), hU.2.2.2.2.2.2.1.1, if_neg (show ¬ ¬ (nI 0 = (0 : Int32)) from fun z => z rfl), r_2_0 hX6, Option.bind_some, c1, Option.bind_some, show (100 : Int32) = nI 100 from rfl, d1, Option.bind_some]
    dsimp only
    rw [if_pos (by decide), r_2_1 d3.1, Option.bind_some, d2, Option.bind_some, chk_ok (Or.inr rfl), Option.bind_some]
  · obtain ⟨h1, h2, h3, h4, h5, h6, h7, h8, h9⟩ := hU
    have q2 : ∀ b j, ¬ (b = 2 ∧ j = 6) → gi (si M 2 6 1) b j = gi M b j := fun b j hb => by rw [gi_si, if_neg hb]
    exact ⟨gDat_gr h1 (fun _ _ => rfl), fun b j hd => (q2 b j (fun q => by have := d5_no hd; omega)).trans (h2 b j hd), h3, h4, h5, h6, ⟨by rw [gi_si, if_pos ⟨rfl, rfl⟩]; rfl, (q2 2 7 (by omega)).trans h7.2⟩, (q2 2 5 (by omega)).trans h8, fun t ht => (q2 36 t (by omega)).trans (h9 t ht)⟩
  · exact fz_trans (fz_si (fz_trans (fz_trans (fz_si fz_refl (Or.inl rfl)) (fz_11 c3)) (fz0_11 d4)) (Or.inr (Or.inr (Or.inr (Or.inr (dIn_hd (Or.inr (Or.inr rfl)))))))) (fz_11 f3)
end PSS
