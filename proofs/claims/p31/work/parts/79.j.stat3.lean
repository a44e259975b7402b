/-! STATEMENTS of a known text: offers and preferences -/
section PSO
variable {T : gT} {M M' N V : gM} {B : Nat → Nat} {n p s e v q i x nl nn a b m t kp f pn : Nat} {k : Nat → Nat × Nat} {st sp tl : List Nat}
/-- a known library or name -/
theorem s_lib (h : aT T M B n p) (hU : RU T M V nl nn a b k m) (hb : bs B (p + 1) (lbW i)) (h32 : B p = 32) (hi : i < nl) (hend : ¬ isL (B (p + 1 + (lbW i).length))) (hn : p + 1 + (lbW i).length < n) : f_X5_findLibrary T M 2 = some (1, si M 2 8 (nI i)) ∧ cT (si M 2 8 (nI i)) B n (p + 1) (p + 1 + (lbW i).length) ∧ RU T (si M 2 8 (nI i)) V nl nn a b k m ∧ gFx T (si M 2 8 (nI i)) := by
  have h5 := hU.2.2.1.2
  obtain ⟨c1, c2⟩ := s_find (i := i) (cnt := nl) (a := 34) (n0 := 8) h (sp1 h32) (lbW_ok i (by omega)) hb hend hn (s_34 h.1) (by omega) (by decide) hi (hU.2.2.2.2.1 i hi) (fun j hj => by rw [hU.2.2.2.2.1 j (by omega)]; exact lbW_ne j (by omega) i (by omega) (by omega))
  refine ⟨?_, c2, RU_2 (Or.inl rfl) hU, gFx_gr h.1 (fun _ _ => rfl)⟩
  unfold f_X5_findLibrary
  rw [r_2_2 h.1, Option.bind_some, r_2_1 h.1, Option.bind_some, (hU.2.1 5 1 (dIn_hd (Or.inl rfl))).trans hU.2.2.1.1, c1, Option.bind_some, chk_ok (Or.inr rfl), Option.bind_some]
theorem s_nam (h : aT T M B n p) (hU : RU T M V nl nn a b k m) (hb : bs B (p + 1) (nmW i)) (h32 : B p = 32) (hi : i < nn) (hend : ¬ isL (B (p + 1 + (nmW i).length))) (hn : p + 1 + (nmW i).length < n) : f_X5_findName T M 2 = some (1, si M 2 8 (nI i)) ∧ cT (si M 2 8 (nI i)) B n (p + 1) (p + 1 + (nmW i).length) ∧ RU T (si M 2 8 (nI i)) V nl nn a b k m ∧ gFx T (si M 2 8 (nI i)) := by
  have h5 := hU.2.2.2.1.2
  obtain ⟨c1, c2⟩ := s_find (i := i) (cnt := nn) (a := 35) (n0 := 12) h (sp1 h32) (nmW_ok i (by omega)) hb hend hn (s_35 h.1) (by omega) (by decide) hi (hU.2.2.2.2.2.1 i hi) (fun j hj => by rw [hU.2.2.2.2.2.1 j (by omega)]; exact nmW_ne j (by omega) i (by omega) (by omega))
  refine ⟨?_, c2, RU_2 (Or.inl rfl) hU, gFx_gr h.1 (fun _ _ => rfl)⟩
  unfold f_X5_findName
  rw [r_2_3 h.1, Option.bind_some, r_2_1 h.1, Option.bind_some, (hU.2.1 5 2 (dIn_hd (Or.inr (Or.inl rfl)))).trans hU.2.2.2.1.1, c1, Option.bind_some, chk_ok (Or.inr rfl), Option.bind_some]
theorem fz_2 {j : Nat} {y : Int32} : fz cS11 cLd M (si M 2 j y) := fz_si fz_refl (Or.inl rfl)
/-- what is offered: a number, or a name's word behind 'to' -/
def ofT (o : Int32) (tl : List Nat) (nn : Nat) : Prop := (∃ v, v ≤ 9999 ∧ o = nI v ∧ tl = dg v) ∨ ∃ f, f < nn ∧ o = -2 - nI f ∧ tl = gStrs.getD 23 [] ++ nmW f
/-- the class before the fourth word of an offer: what is read there -/
def ofF (T : gT) (M : gM) (i q : Nat) : Option (Int32 × gM) := if ¬ (gi M 3 3) = (2 : Int32) then (f_X5_readKeyword T M 2 8).bind fun x18 => if x18.1 = 0 then some ((0 : Int32), x18.2) else (f_X5_findName T x18.2 2).bind fun x20 => if ¬ x20.1 = 0 then (ldr T x20.2 (5 + 5 + 3 * i) 3 11).bind fun b22 => (ast T x20.2 b22 (nI q) ((-2 : Int32) - (gi x20.2 2 8))).bind fun M23 => (ldr T M23 2 0 6).bind fun b24 => (f_X6_advance T M23 b24).bind fun x25 => some ((1 : Int32), x25) else some ((0 : Int32), x20.2) else (f_X5_readNumber T M 2 (9999 : Int32)).bind fun x26 => if ¬ x26.1 = 0 then (ldr T x26.2 (5 + 5 + 3 * i) 3 11).bind fun b28 => (ast T x26.2 b28 (nI q) (gi x26.2 2 8)).bind fun M29 => some ((1 : Int32), M29) else some ((0 : Int32), x26.2)
theorem of_row (hU : RU T M V nl nn a b k m) (hi : i < nl) (hq : q < nn) : ldr T M (5 + 5 + 3 * i) 3 11 = some (5 + 6 + 3 * i) ∧ ∀ y, ast T M (5 + 6 + 3 * i) (nI q) y = some (si M (5 + 6 + 3 * i) q y) := by
  have h5 := hU.2.2.1.2
  have h4 := hU.2.2.2.1.2
  exact ⟨ldr_ok (hU.1.2.2.2 i (by omega)).2.2.1 (hU.1.2.2.2 i (by omega)).1.2.1, fun y => ast_ok (hU.1.2.2.2 i (by omega)).1.2.1 (by omega) (by decide)⟩
theorem of_num (hv : v ≤ 9999) (hA : aT T M B n p) (hU : RU T M V nl nn a b k m) (hi : i < nl) (hq : q < nn) (h32 : B p = 32) (hb : bs B (p + 1) (dg v)) (hend : B (p + 1 + (dg v).length) = 59) (hn : p + 1 + (dg v).length < n) : ∃ M1, ofF T M i q = some (1, M1) ∧ aT T M1 B n (p + 1 + (dg v).length) ∧ RU T M1 (si V (5 + 6 + 3 * i) q (nI v)) nl nn a b k m ∧ fz cS11 cLd M M1 := by
  have h5 := hU.2.2.1.2
  have h4 := hU.2.2.2.1.2
  have hdo : dIn 5 (5 + 6 + 3 * i) q := dIn_off (by omega) (by omega)
  obtain ⟨-, u2, M3, f1, f2, f3, f4⟩ := s_num (hi := 9999) (v := v) hv hv (by decide) hA (sp1 h32) hb (by rw [hend]; decide) hn
  have hU3 := RU_0 hU f4
  obtain ⟨r1, r2⟩ := of_row hU3 hi hq
  refine ⟨si M3 (5 + 6 + 3 * i) q (nI v), ?_, aT_d hdo f3, RU_w hdo (by omega) hU3, fz_si (fz0_11 f4) (Or.inr (Or.inr (Or.inr (Or.inr hdo))))⟩
  unfold ofF
  rw [u2, if_neg (fun z => z rfl), show f_X5_readNumber T M 2 (9999 : Int32) = some (1, M3) from f1, Option.bind_some]
  dsimp only
  rw [if_pos (by decide), r1, Option.bind_some, f2, r2, Option.bind_some]
theorem of_to (hA : aT T M B n p) (hU : RU T M V nl nn a b k m) (hi : i < nl) (hq : q < nn) (h32 : B p = 32) (hf : f < nn) {y : Int32} (hy : -2 - nI f = y) (hb : bs B (p + 1) (gStrs.getD 23 [] ++ nmW f)) (hend : B (p + 1 + (gStrs.getD 23 [] ++ nmW f).length) = 59) (hn : p + 1 + (gStrs.getD 23 [] ++ nmW f).length < n) : ∃ M1, ofF T M i q = some (1, M1) ∧ aT T M1 B n (p + 1 + (gStrs.getD 23 [] ++ nmW f).length) ∧ RU T M1 (si V (5 + 6 + 3 * i) q y) nl nn a b k m ∧ fz cS11 cLd M M1 := by
  have h5 := hU.2.2.1.2
  have h4 := hU.2.2.2.1.2
  have hdo : dIn 5 (5 + 6 + 3 * i) q := dIn_off (by omega) (by omega)
  have g8 : (gStrs.getD 8 []).length = 2 := by decide +kernel
  have gl8 : gSl 8 = 2 := g8
  have hlen : p + 1 + (gStrs.getD 23 [] ++ nmW f).length = p + 1 + 2 + 1 + (nmW f).length := by
    rw [List.length_append, show (gStrs.getD 23 []).length = 3 by decide +kernel]
    omega
  rw [hlen] at hend hn ⊢
  rw [show gStrs.getD 23 [] = gStrs.getD 8 [] ++ [32] by decide +kernel, bs_app, bs_app] at hb
  obtain ⟨⟨b1, b2⟩, b3⟩ := hb
  rw [List.length_append, g8] at b3
  rw [g8] at b2
  have b2 := bs1 b2
  have b3 : bs B (p + 1 + 2 + 1) (nmW f) := b3
  have hw8 := str_lw (i := 8) (by decide)
  generalize hg : gStrs.getD 8 [] = w8 at b1 g8 hw8
  have hnl' : ¬ isL (B (p + 1 + w8.length)) := by rw [g8, b2]; decide
  have hlt' : p + 1 + w8.length < n := by rw [g8]; omega
  obtain ⟨e, hT0⟩ := aT_at hA (sp1 h32) (isL_32 (w_first hw8 b1)) (by omega)
  have k3 := (cT_w hT0 hw8 b1 hnl' hlt').2.1
  obtain ⟨M1, c1, c2, c3⟩ := s_key (i := 8) (by decide) hA (sp1 h32) (by rw [hg]; exact b1) (by rw [gl8, b2]; decide) (by rw [gl8]; omega)
  rw [gl8] at c2
  have hU1 := RU_t hU c3
  obtain ⟨d1, d2, d3, d4⟩ := s_nam (i := f) c2 hU1 b3 b2 hf (by rw [hend]; decide) hn
  obtain ⟨r1, r2⟩ := of_row d3 hi hq
  have hdo' := RU_w (b0 := 5 + 6 + 3 * i) (j0 := q) (y := y) hdo (by omega) d3
  have hX3 : gFx T (si (si M1 2 8 (nI f)) (5 + 6 + 3 * i) q y) := gFx_gr d4 (fun _ _ => rfl)
  have hT3 : cT (si (si M1 2 8 (nI f)) (5 + 6 + 3 * i) q y) B n (p + 1 + 2 + 1) (p + 1 + 2 + 1 + (nmW f).length) := cT_eq d2 (fun j => by rw [gi_si, if_neg (by omega)]) (fun j => by rw [gi_si, if_neg (by omega)]) rfl
  obtain ⟨M5, v1, v2, v3⟩ := s_adv hX3 hT3
  refine ⟨M5, ?_, v2, RU_t hdo' v3, fz_trans (fz_si (fz_trans (fz_11 c3) fz_2) (Or.inr (Or.inr (Or.inr (Or.inr hdo))))) (fz_11 v3)⟩
  unfold ofF
  rw [k3, if_pos (by decide), c1, Option.bind_some]
  dsimp only
  rw [if_neg (by decide), d1, Option.bind_some]
  dsimp only
  rw [if_pos (by decide), r1, Option.bind_some, gi_si, if_pos ⟨rfl, rfl⟩, hy, r2, Option.bind_some, r_2_0 hX3, Option.bind_some, v1, Option.bind_some]
theorem of_end {o : Int32} (hA : aT T M B n p) (hU : RU T M V nl nn a b k m) (hi : i < nl) (hq : q < nn) (h32 : B p = 32) (ho : ofT o tl nn) (hb : bs B (p + 1) tl) (hend : B (p + 1 + tl.length) = 59) (hn : p + 1 + tl.length < n) : ∃ M1, ofF T M i q = some (1, M1) ∧ aT T M1 B n (p + 1 + tl.length) ∧ RU T M1 (si V (5 + 6 + 3 * i) q o) nl nn a b k m ∧ fz cS11 cLd M M1 := by
  rcases ho with ⟨v, hv, h1, h2⟩ | ⟨f, hf, h1, h2⟩
  · rw [h2] at hb hend hn ⊢
    rw [h1]
    exact of_num hv hA hU hi hq h32 hb hend hn
  · rw [h2] at hb hend hn ⊢
    exact of_to hA hU hi hq h32 hf h1.symm hb hend hn
theorem SS_offer {o : Int32} (hi : i < nl) (hq : q < nn) (hno : dOf V 5 i q = -1) (ho : ofT o tl nn) : SS V nl nn a b k m (gStrs.getD 22 [] ++ lbW i ++ gStrs.getD 19 [] ++ nmW q ++ gStrs.getD 19 [] ++ tl ++ gStrs.getD 17 []) (si V (5 + 6 + 3 * i) q o) nl nn a b k m := by
  intro T M B n p hR hb hn
  obtain ⟨hA, hU⟩ := hR
  have h5 := hU.2.2.1.2
  have h4 := hU.2.2.2.1.2
  have g1 : (gStrs.getD 3 []).length = 5 := by decide +kernel
  have gl1 : gSl 3 = 5 := g1
  rw [show gStrs.getD 22 [] = gStrs.getD 3 [] ++ [32] by decide +kernel, show gStrs.getD 19 [] = [32] by decide +kernel, show gStrs.getD 17 [] = [59] by decide +kernel] at hb hn ⊢
  have hlen : p + (gStrs.getD 3 [] ++ [32] ++ lbW i ++ [32] ++ nmW q ++ [32] ++ tl ++ [59]).length = p + 5 + 1 + (lbW i).length + 1 + (nmW q).length + 1 + tl.length + 1 := by
    simp only [List.length_append, g1, List.length_cons, List.length_nil]
    omega
  rw [hlen] at hn ⊢
  rw [bs_app, bs_app, bs_app, bs_app, bs_app, bs_app, bs_app] at hb
  obtain ⟨⟨⟨⟨⟨⟨⟨b1, b2⟩, b3⟩, b4⟩, b5⟩, b6⟩, b7⟩, b8⟩ := hb
  simp only [List.length_append, g1, List.length_cons, List.length_nil, Nat.zero_add] at b2 b3 b4 b5 b6 b7 b8
  rw [show p + (5 + 1) = p + 5 + 1 by omega] at b3
  rw [show p + (5 + 1 + (lbW i).length) = p + 5 + 1 + (lbW i).length by omega] at b4
  rw [show p + (5 + 1 + (lbW i).length + 1) = p + 5 + 1 + (lbW i).length + 1 by omega] at b5
  rw [show p + (5 + 1 + (lbW i).length + 1 + (nmW q).length) = p + 5 + 1 + (lbW i).length + 1 + (nmW q).length by omega] at b6
  rw [show p + (5 + 1 + (lbW i).length + 1 + (nmW q).length + 1) = p + 5 + 1 + (lbW i).length + 1 + (nmW q).length + 1 by omega] at b7
  rw [show p + (5 + 1 + (lbW i).length + 1 + (nmW q).length + 1 + tl.length) = p + 5 + 1 + (lbW i).length + 1 + (nmW q).length + 1 + tl.length by omega] at b8
  have b2 := bs1 b2
  have b4 := bs1 b4
  have b6 := bs1 b6
  have b8 := bs1 b8
  obtain ⟨hw1, hl, w1, wn⟩ := d_kw (i := 3) (by decide) hA b1 (by rw [gl1]; exact b2) (by rw [gl1]; omega)
  rw [gl1] at hw1
  obtain ⟨M1, c1, c2, c3⟩ := s_adv hA.1 hw1
  have hU1 := RU_t hU c3
  obtain ⟨d1, d2, d3, d4⟩ := s_lib (i := i) c2 hU1 b3 b2 hi (by rw [b4]; decide) (by omega)
  obtain ⟨M3, e1, e2, e3⟩ := s_adv d4 d2
  have hU3 := RU_t d3 e3
  obtain ⟨f1, f2, f3, f4⟩ := s_nam (i := q) e2 hU3 b5 b4 hq (by rw [b6]; decide) (by omega)
  obtain ⟨M5, v1, v2, v3⟩ := s_adv f4 f2
  have hU5 := RU_t f3 v3
  obtain ⟨M6, y1, y2, y3, y4⟩ := of_end v2 hU5 hi hq b6 ho b7 b8 (by omega)
  unfold ofF at y1
  obtain ⟨M', r1, r2, r3⟩ := s_semi y2 b8 (by omega)
  have hho : f_X3_hasOffer T (si M3 2 8 (nI q)) (5 + 5 + 3 * i) (nI q) = some 0 := by
    rw [p_hasOffer f3.1 (by omega) (by omega), if_pos]
    show gi (si M3 2 8 (nI q)) (5 + 6 + 3 * i) q = -1
    rw [f3.2.1 _ _ (dIn_off (by omega) (by omega))]
    exact hno
  refine ⟨by omega, hl, M6, M', ?_, r1, RT_of r2 (RU_t y3 r3), fz_trans (fz_trans (fz_trans (fz_trans (fz_trans (fz_trans (fz_11 c3) fz_2) (fz_11 e3)) fz_2) (fz_11 v3)) y4) (fz_11 r3)⟩
  unfold f_X5_readStatement f_X5_readOffer
  rw [r_2_0 hA.1, Option.bind_some, wn 1 (by decide) (by decide), Option.bind_some, if_pos rfl, Option.bind_some, wn 2 (by decide) (by decide), Option.bind_some, if_pos rfl, Option.bind_some, w1, Option.bind_some, if_neg (by decide), Option.bind_some, c1, Option.bind_some, d1, Option.bind_some]
  dsimp only
  rw [if_pos (by decide), r_2_1 d4, Option.bind_some, p_row1 d3.1, Option.bind_some, gi_si, if_pos ⟨rfl, rfl⟩, p_row2 d3.1 (show i < 8 by omega), Option.bind_some, r_2_0 d4, Option.bind_some, e1, Option.bind_some, f1, Option.bind_some]
  dsimp only
  rw [if_pos (by decide), gi_si, if_pos ⟨rfl, rfl⟩, hho, Option.bind_some, if_pos rfl, r_2_0 f4, Option.bind_some, v1, Option.bind_some, r_2_0 v2.1, Option.bind_some, y1, Option.bind_some, chk_ok (Or.inr rfl), Option.bind_some]
theorem SS_prefer (hi : i < nl) (hx : x < nl) (hne : x ≠ i) (hpn : dPn V 5 i = nI pn) (h7 : pn ≤ 7) (no : anyN (fun j => decide (dPr V 5 i j = nI x)) pn = false) : SS V nl nn a b k m (gStrs.getD 24 [] ++ lbW i ++ gStrs.getD 19 [] ++ lbW x ++ gStrs.getD 25 []) (si (si V (5 + 7 + 3 * i) pn (nI x)) (5 + 5 + 3 * i) 5 (nI (pn + 1))) nl nn a b k m := by
  intro T M B n p hR hb hn
  obtain ⟨hA, hU⟩ := hR
  have h5 := hU.2.2.1.2
  have g1 : (gStrs.getD 4 []).length = 6 := by decide +kernel
  have gl1 : gSl 4 = 6 := g1
  rw [show gStrs.getD 24 [] = gStrs.getD 4 [] ++ [32] by decide +kernel, show gStrs.getD 19 [] = [32] by decide +kernel, show gStrs.getD 25 [] = [32] ++ [59] by decide +kernel, ← List.append_assoc] at hb hn ⊢
  have hlen : p + (gStrs.getD 4 [] ++ [32] ++ lbW i ++ [32] ++ lbW x ++ [32] ++ [59]).length = p + 6 + 1 + (lbW i).length + 1 + (lbW x).length + 1 + 1 := by
    simp only [List.length_append, g1, List.length_cons, List.length_nil]
    omega
  rw [hlen] at hn ⊢
  rw [bs_app, bs_app, bs_app, bs_app, bs_app, bs_app] at hb
  obtain ⟨⟨⟨⟨⟨⟨b1, b2⟩, b3⟩, b4⟩, b5⟩, b6⟩, b7⟩ := hb
  simp only [List.length_append, g1, List.length_cons, List.length_nil, Nat.zero_add] at b2 b3 b4 b5 b6 b7
  rw [show p + (6 + 1) = p + 6 + 1 by omega] at b3
  rw [show p + (6 + 1 + (lbW i).length) = p + 6 + 1 + (lbW i).length by omega] at b4
  rw [show p + (6 + 1 + (lbW i).length + 1) = p + 6 + 1 + (lbW i).length + 1 by omega] at b5
  rw [show p + (6 + 1 + (lbW i).length + 1 + (lbW x).length) = p + 6 + 1 + (lbW i).length + 1 + (lbW x).length by omega] at b6
  rw [show p + (6 + 1 + (lbW i).length + 1 + (lbW x).length + 1) = p + 6 + 1 + (lbW i).length + 1 + (lbW x).length + 1 by omega] at b7
  have b2 := bs1 b2
  have b4 := bs1 b4
  have b6 := bs1 b6
  have b7 := bs1 b7
  obtain ⟨hw1, hl, w1, wn⟩ := d_kw (i := 4) (by decide) hA b1 (by rw [gl1]; exact b2) (by rw [gl1]; omega)
  rw [gl1] at hw1
  obtain ⟨M1, c1, c2, c3⟩ := s_adv hA.1 hw1
  have hU1 := RU_t hU c3
  obtain ⟨d1, d2, d3, d4⟩ := s_lib (i := i) c2 hU1 b3 b2 hi (by rw [b4]; decide) (by omega)
  obtain ⟨M3, e1, e2, e3⟩ := s_adv d4 d2
  have hU3 := RU_t d3 e3
  obtain ⟨f1, f2, f3, f4⟩ := s_lib (i := x) e2 hU3 b5 b4 hx (by rw [b6]; decide) (by omega)
  have dp : dIn 5 (5 + 7 + 3 * i) pn := dIn_prf (by omega) (by omega)
  have dc : dIn 5 (5 + 5 + 3 * i) 5 := dIn_lib (by omega) (Or.inr (Or.inr (Or.inr rfl)))
  have epn : dPn (si M3 2 8 (nI x)) 5 i = nI pn := (f3.2.1 _ _ dc).trans hpn
  have hpr : f_X3_prefers T (si M3 2 8 (nI x)) (5 + 5 + 3 * i) (nI x) = some 0 := by
    rw [p_prefers f3.1 (by omega) epn (by omega), anyN_ext (e := fun j => decide (dPr V 5 i j = nI x)) (fun j hj => by rw [show dPr (si M3 2 8 (nI x)) 5 i j = dPr V 5 i j from f3.2.1 _ _ (dIn_prf (by omega) (by omega))]), no]
    rfl
  have hW : RU T (si (si (si M3 2 8 (nI x)) (5 + 7 + 3 * i) pn (nI x)) (5 + 5 + 3 * i) 5 (nI (pn + 1))) (si (si V (5 + 7 + 3 * i) pn (nI x)) (5 + 5 + 3 * i) 5 (nI (pn + 1))) nl nn a b k m := RU_w dc (by omega) (RU_w dp (by omega) f3)
  have hXw : gFx T (si (si (si M3 2 8 (nI x)) (5 + 7 + 3 * i) pn (nI x)) (5 + 5 + 3 * i) 5 (nI (pn + 1))) := gFx_gr f4 (fun _ _ => rfl)
  have hTw : cT (si (si (si M3 2 8 (nI x)) (5 + 7 + 3 * i) pn (nI x)) (5 + 5 + 3 * i) 5 (nI (pn + 1))) B n (p + 6 + 1 + (lbW i).length + 1) (p + 6 + 1 + (lbW i).length + 1 + (lbW x).length) := cT_eq f2 (fun j => by rw [gi_si, if_neg (by omega), gi_si, if_neg (by omega)]) (fun j => by rw [gi_si, if_neg (by omega), gi_si, if_neg (by omega)]) rfl
  obtain ⟨M5, v1, v2, v3⟩ := s_adv hXw hTw
  obtain ⟨M', r1, r2, r3⟩ := s_sign (c := 59) (k := 1) sgn59 v2 (sp1 b6) (by decide) b7 (by omega)
  have nxi : ¬ nI x = nI i := fun z => hne ((nI_eq (by omega) (by omega)).mp z)
  refine ⟨by omega, hl, M5, M', ?_, r1, RT_of r2 (RU_t (RU_t hW v3) r3), fz_trans (fz_trans (fz_si (fz_si (fz_trans (fz_trans (fz_trans (fz_11 c3) fz_2) (fz_11 e3)) fz_2) (Or.inr (Or.inr (Or.inr (Or.inr dp))))) (Or.inr (Or.inr (Or.inr (Or.inr dc))))) (fz_11 v3)) (fz_11 r3)⟩
  unfold f_X5_readStatement f_X5_readPrefer
  rw [r_2_0 hA.1, Option.bind_some, wn 1 (by decide) (by decide), Option.bind_some, if_pos rfl, Option.bind_some, wn 2 (by decide) (by decide), Option.bind_some, if_pos rfl, Option.bind_some, wn 3 (by decide) (by decide), Option.bind_some, if_pos rfl, Option.bind_some, w1, Option.bind_some, if_neg (by decide), Option.bind_some, c1, Option.bind_some, d1, Option.bind_some]
  dsimp only
  rw [if_pos (by decide), r_2_0 d4, Option.bind_some, e1, Option.bind_some, f1, Option.bind_some]
  dsimp only
  have q1 : gi (si M3 2 8 (nI x)) 2 8 = nI x := by rw [gi_si, if_pos ⟨rfl, rfl⟩]
  have q2 : gi (si M1 2 8 (nI i)) 2 8 = nI i := by rw [gi_si, if_pos ⟨rfl, rfl⟩]
  rw [if_pos (by decide), q1, q2, if_neg nxi, r_2_1 f4, Option.bind_some, p_row1 f3.1, Option.bind_some, p_row2 f3.1 (show i < 8 by omega), Option.bind_some, hpr, Option.bind_some, if_pos rfl, Option.bind_some, p_row1 f3.1, Option.bind_some, p_row2 f3.1 (show i < 8 by omega), Option.bind_some, c_addPref f3.1 (by omega) epn h7, Option.bind_some, r_2_0 hXw, Option.bind_some, v1, Option.bind_some, Option.bind_some, chk_ok (Or.inr rfl), Option.bind_some]
end PSO
