/-! STATEMENTS of a known text: libraries, offers, preferences -/
/-- V with the library i more -/
def nlV (V : gM) (i t kp : Nat) : gM := (fun b j => if b = 5 ∧ j = 1 then nI (i + 1) else if b = 10 + 3 * i ∧ j = 0 then nI t else if b = 10 + 3 * i ∧ j = 1 then nI kp else if b = 10 + 3 * i ∧ j = 2 then nI i else if b = 10 + 3 * i ∧ j = 5 then 0 else if b = 11 + 3 * i ∧ j < 12 then -1 else V.1 b j, V.2.1, V.2.2)
theorem gi_nlV (V : gM) (i t kp b j : Nat) : gi (nlV V i t kp) b j = if b = 5 ∧ j = 1 then nI (i + 1) else if b = 10 + 3 * i ∧ j = 0 then nI t else if b = 10 + 3 * i ∧ j = 1 then nI kp else if b = 10 + 3 * i ∧ j = 2 then nI i else if b = 10 + 3 * i ∧ j = 5 then 0 else if b = 11 + 3 * i ∧ j < 12 then -1 else gi V b j := rfl
section PSL
variable {T : gT} {M M' N V : gM} {B : Nat → Nat} {n p s e v q i x nl nn a b m t kp f : Nat} {k : Nat → Nat × Nat} {st sp tl : List Nat}
theorem dg_first (hv : v ≤ 9999) (hb : bs B q (dg v)) : isD (B q) := by
  have hd := (dg_ok hv).1
  have := hb 0 (by have := hd.1; omega)
  rw [Nat.add_zero] at this
  rw [this]
  exact hd.2 0 (by have := hd.1; omega)
theorem lb_lw {i : Nat} (h : i < 5) : lw (lbW i) := lbW_ok i h
theorem nm_lw {i : Nat} (h : i < 4) : lw (nmW i) := nmW_ok i h
/-- what a library's row becomes -/
theorem RU_lib (h : RU T M V nl nn a b k m) (h5 : nl < 5) (hg : ∀ b j, gr N b j = gr M b j) (hs : ∀ b j, ¬ cS0 b j → ¬ (b = 5 ∧ j = 1) → ¬ (b = 10 + 3 * nl ∧ (j = 0 ∨ j = 1 ∨ j = 2 ∨ j = 5)) → ¬ (b = 11 + 3 * nl ∧ j < 12) → gi N b j = gi M b j) (hl : ∀ b j, ¬ tL b j → ¬ (b = 34 ∧ j = nl) → gl N b j = gl M b j) (e1 : gi N 5 1 = nI (nl + 1)) (e2 : gi N (10 + 3 * nl) 0 = nI t) (e3 : gi N (10 + 3 * nl) 1 = nI kp) (e4 : gi N (10 + 3 * nl) 2 = nI nl) (e5 : gi N (10 + 3 * nl) 5 = 0) (e6 : ∀ z, z < 12 → gi N (11 + 3 * nl) z = -1) (e7 : gl N 34 nl = wv (lbW nl)) : RU T N (nlV V nl t kp) (nl + 1) nn a b k m := by
  obtain ⟨h1, h2, h3, h4, h5', h6, h7, h8, h9⟩ := h
  have f2 : ∀ j, (j = 5 ∨ j = 6 ∨ j = 7) → gi N 2 j = gi M 2 j := fun j hj => hs 2 j (fun q => by unfold cS0 tS at q; omega) (by omega) (by omega) (by omega)
  refine ⟨gDat_gr h1 hg, fun b j hd => ?_, ⟨by rw [gi_nlV, if_pos ⟨rfl, rfl⟩], by omega⟩, ⟨?_, h4.2⟩, fun i hi => ?_, fun i hi => ?_, ⟨(f2 6 (by omega)).trans h7.1, (f2 7 (by omega)).trans h7.2⟩, (f2 5 (by omega)).trans h8, fun t ht => ?_⟩
  · rw [gi_nlV]
    by_cases c1 : b = 5 ∧ j = 1
    · rw [if_pos c1, c1.1, c1.2]; exact e1
    rw [if_neg c1]
    by_cases c2 : b = 10 + 3 * nl ∧ j = 0
    · rw [if_pos c2, c2.1, c2.2]; exact e2
    rw [if_neg c2]
    by_cases c3 : b = 10 + 3 * nl ∧ j = 1
    · rw [if_pos c3, c3.1, c3.2]; exact e3
    rw [if_neg c3]
    by_cases c4 : b = 10 + 3 * nl ∧ j = 2
    · rw [if_pos c4, c4.1, c4.2]; exact e4
    rw [if_neg c4]
    by_cases c5 : b = 10 + 3 * nl ∧ j = 5
    · rw [if_pos c5, c5.1, c5.2]; exact e5
    rw [if_neg c5]
    by_cases c6 : b = 11 + 3 * nl ∧ j < 12
    · rw [if_pos c6, c6.1]; exact e6 j c6.2
    rw [if_neg c6, hs b j (cS0_d5 hd) c1 (by omega) c6]
    exact h2 b j hd
  · rw [gi_nlV, if_neg (by omega), if_neg (by omega), if_neg (by omega), if_neg (by omega), if_neg (by omega), if_neg (by omega)]
    exact h4.1
  · by_cases ei : i = nl
    · rw [ei]; exact e7
    · rw [hl 34 i (fun q => by unfold tL at q; omega) (by omega)]
      exact h5' i (by omega)
  · rw [hl 35 i (fun q => by unfold tL at q; omega) (by omega)]
    exact h6 i hi
  · rw [hs 36 t (fun q => by unfold cS0 tS at q; omega) (by omega) (by omega) (by omega)]
    exact h9 t ht
theorem SS_lib (h5 : nl < 5) (ht : t ≤ 999) (hsp : sp = [32] ∨ sp = []) (htl : (tl = gStrs.getD 21 [] ∧ kp = 1) ∨ (tl = gStrs.getD 17 [] ∧ kp = 0)) : SS V nl nn a b k m (gStrs.getD 18 [] ++ lbW nl ++ sp ++ dg t ++ tl) (nlV V nl t kp) (nl + 1) nn a b k m := by
  intro T M B n p hR hb hn
  obtain ⟨hA, hU⟩ := hR
  have g1 : (gStrs.getD 2 []).length = 7 := by decide +kernel
  have gl1 : gSl 2 = 7 := g1
  have gl7 : gSl 7 = 5 := by decide +kernel
  rw [show gStrs.getD 18 [] = gStrs.getD 2 [] ++ [32] by decide +kernel] at hb hn ⊢
  have hlen : p + (gStrs.getD 2 [] ++ [32] ++ lbW nl ++ sp ++ dg t ++ tl).length = p + 7 + 1 + (lbW nl).length + sp.length + (dg t).length + tl.length := by
    simp only [List.length_append, g1, List.length_cons, List.length_nil]
    omega
  rw [hlen] at hn ⊢
  rw [bs_app, bs_app, bs_app, bs_app, bs_app] at hb
  obtain ⟨⟨⟨⟨⟨b1, b2⟩, b3⟩, b4⟩, b5⟩, b6⟩ := hb
  simp only [List.length_append, g1, List.length_cons, List.length_nil, Nat.zero_add] at b2 b3 b4 b5 b6
  rw [show p + (7 + 1) = p + 7 + 1 by omega] at b3
  rw [show p + (7 + 1 + (lbW nl).length) = p + 7 + 1 + (lbW nl).length by omega] at b4
  rw [show p + (7 + 1 + (lbW nl).length + sp.length) = p + 7 + 1 + (lbW nl).length + sp.length by omega] at b5
  rw [show p + (7 + 1 + (lbW nl).length + sp.length + (dg t).length) = p + 7 + 1 + (lbW nl).length + sp.length + (dg t).length by omega] at b6
  have b2 := bs1 b2
  have hsp' : ∀ j, j < sp.length → B (p + 7 + 1 + (lbW nl).length + j) = 32 := fun j hj => by
    rw [b4 j hj]
    rcases hsp with rfl | rfl
    · simp at hj
      subst hj
      rfl
    · simp at hj
  have hd0 := dg_first (by omega) b5
  have hnL : ¬ isL (B (p + 7 + 1 + (lbW nl).length)) := by
    rcases hsp with rfl | rfl
    · rw [show B (p + 7 + 1 + (lbW nl).length) = 32 from bs1 b4]
      decide
    · simp only [List.length_nil, Nat.add_zero] at hd0
      omega
  have htl0 : 1 ≤ tl.length ∧ ¬ isD (B (p + 7 + 1 + (lbW nl).length + sp.length + (dg t).length)) := by
    rcases htl with ⟨rfl, -⟩ | ⟨rfl, -⟩
    · have := b6 0 (by decide +kernel)
      rw [Nat.add_zero] at this
      rw [this]
      decide +kernel
    · have := b6 0 (by decide +kernel)
      rw [Nat.add_zero] at this
      rw [this]
      decide +kernel
  obtain ⟨hw1, hl, w1, wn⟩ := d_kw (i := 2) (by decide) hA b1 (by rw [gl1]; exact b2) (by rw [gl1]; omega)
  rw [gl1] at hw1
  obtain ⟨M1, c1, c2, c3⟩ := s_adv hA.1 hw1
  have hU1 := RU_t hU c3
  have eN : ∀ M : gM, RU T M V nl nn a b k m → gi M 5 1 = nI nl := fun M h => (h.2.1 5 1 (dIn_hd (Or.inl rfl))).trans h.2.2.1.1
  obtain ⟨M2, d1, d2, d3, d4⟩ := s_new (w := lbW nl) (a := 34) (cnt := nl) (n0 := 8) c2 (sp1 b2) (lbW_ok nl h5) b3 hnL (by omega) (s_34 c2.1) (by omega) (by decide) (by decide) (fun i hi => by rw [hU1.2.2.2.2.1 i hi]; exact lbW_ne i (by omega) nl h5 (by omega))
  obtain ⟨-, -, M3, f1, f2, f3, f4⟩ := s_num (hi := 999) (v := t) (by omega) ht (by decide) d3 hsp' b5 htl0.2 (by omega)
  have hD3 : gDat T M3 5 := gDat_gr hU1.1 (fun b j => (f4.1 b j).trans (d4.1 b j))
  have e31 : gi M3 5 1 = nI nl := (f4.2.2 5 1 (cS0_d5 (dIn_hd (Or.inl rfl)))).trans ((d4.2.2 5 1 (fun q => by unfold tS at q; omega)).trans (eN M1 hU1))
  obtain ⟨N, y1, y2, y3, y4, y5, y6, y7⟩ := c_startAs (i := nl) (t := nI t) (r := nI nl) hD3 (by omega)
  have hXN : gFx T N := gFx_fz f3.1 y2
  have eN1 : gi N 5 1 = nI nl := (y2.2.2 5 1 (fun q => by omega)).trans e31
  have hA3 : aT T (si N 5 1 (nI (nl + 1))) B n (p + 7 + 1 + (lbW nl).length + sp.length + (dg t).length) := aT_d (dIn_hd (Or.inl rfl)) (aT_eq f3 y2.1 (fun j => y2.2.2 3 j (fun q => by omega)) (fun j => y2.2.2 4 j (fun q => by omega)) (y2.2.1 3 5 (fun q => q)))
  have hXs : gFx T (si N 5 1 (nI (nl + 1))) := hA3.1
  have rd : ∀ {X : gM} {r : Int32} {M1' : gM}, f_X6_isWord T (si N 5 1 (nI (nl + 1))) 3 7 = some r → (if r = 0 then some ((1 : Int32), si N 5 1 (nI (nl + 1))) else (f_X6_advance T (si (si N 5 1 (nI (nl + 1))) (5 + 5 + 3 * nl) 1 1) 3).bind fun x22 => some ((1 : Int32), x22)) = some (1, M1') → f_X5_readStatement T M 2 = some (1, M1') := fun {X r M1'} hr hm => by
    unfold f_X5_readStatement f_X5_readNewLibrary
    rw [r_2_0 hA.1, Option.bind_some, wn 1 (by decide) (by decide), Option.bind_some, if_pos rfl, Option.bind_some, w1, Option.bind_some, if_neg (by decide), r_2_1 hA.1, Option.bind_some, eN M hU, if_pos (show nI nl < (8 : Int32) from nI_lt (b := 8) (by omega) (by decide)), Option.bind_some, c1, Option.bind_some, r_2_2 c2.1, Option.bind_some, r_2_1 c2.1, Option.bind_some, eN M1 hU1, d1, Option.bind_some]
    dsimp only
    rw [if_neg (by decide), show (999 : Int32) = nI 999 from rfl, f1, Option.bind_some]
    dsimp only
    rw [if_pos (by decide), r_2_1 f3.1, Option.bind_some, p_row1 hD3, Option.bind_some, Option.bind_some, e31, p_row2 hD3 (show nl < 8 by omega), Option.bind_some, Option.bind_some, e31, f2, y1, Option.bind_some, r_2_1 hXN, Option.bind_some, eN1, nI_1, r_2_0 hXs, Option.bind_some, hr, Option.bind_some]
    have hXk : gFx T (si (si N 5 1 (nI (nl + 1))) (5 + 5 + 3 * nl) 1 1) := gFx_gr hXs (fun _ _ => rfl)
    rw [r_2_0 hXk, Option.bind_some, hm, Option.bind_some, chk_ok (Or.inr rfl), Option.bind_some]
  have eT : gi N (10 + 3 * nl) 0 = nI t := by rw [show 10 + 3 * nl = 5 + 5 + 3 * nl by omega]; exact y3
  have eK : gi N (10 + 3 * nl) 1 = 0 := by rw [show 10 + 3 * nl = 5 + 5 + 3 * nl by omega]; exact y4
  have eR : gi N (10 + 3 * nl) 2 = nI nl := by rw [show 10 + 3 * nl = 5 + 5 + 3 * nl by omega]; exact y5
  have eP : gi N (10 + 3 * nl) 5 = 0 := by rw [show 10 + 3 * nl = 5 + 5 + 3 * nl by omega]; exact y6
  have eO : ∀ z, z < 12 → gi N (11 + 3 * nl) z = -1 := fun z hz => by rw [show 11 + 3 * nl = 5 + 6 + 3 * nl by omega]; exact y7 z hz
  have eW : gl N 34 nl = wv (lbW nl) := (y2.2.1 34 nl (fun q => q)).trans ((f4.2.1 34 nl (fun q => by unfold tL at q; omega)).trans d2)
  have gN : ∀ b j, gr N b j = gr M1 b j := fun b j => (y2.1 b j).trans ((f4.1 b j).trans (d4.1 b j))
  have sN : ∀ b j, ¬ cS0 b j → ¬ (b = 10 + 3 * nl ∧ (j = 0 ∨ j = 1 ∨ j = 2 ∨ j = 5)) → ¬ (b = 11 + 3 * nl ∧ j < 12) → gi N b j = gi M1 b j := fun b j q1 q2 q3 => (y2.2.2 b j (fun z => z.elim q2 q3)).trans ((f4.2.2 b j q1).trans (d4.2.2 b j (fun z => q1 (Or.inl z))))
  have lN' : ∀ b j, ¬ tL b j → ¬ (b = 34 ∧ j = nl) → gl N b j = gl M1 b j := fun b j q1 q2 => (y2.2.1 b j (fun q => q)).trans ((f4.2.1 b j q1).trans (d4.2.1 b j (fun z => z.elim q1 q2)))
  have z4 : fz cS11 cLd M N := fz_trans (fz_11 c3) (fz_trans (fz_mono d4 (fun _ _ q => tS_11 q) (fun b j q => q.elim Or.inl (fun z => Or.inr (Or.inl z.1)))) (fz_trans (fz0_11 f4) (fz_mono y2 (fun b j q => Or.inr (Or.inr (Or.inr (Or.inr (Or.inr ⟨nl, by omega, by unfold lIn; omega⟩))))) (fun _ _ q => q.elim))))
  have d51 : dIn 5 5 1 := dIn_hd (Or.inl rfl)
  rcases htl with ⟨rfl, rfl⟩ | ⟨rfl, rfl⟩
  · rw [show gStrs.getD 21 [] = [32] ++ gStrs.getD 7 [] ++ [59] by decide +kernel, bs_app, bs_app] at b6
    obtain ⟨⟨b7, b8⟩, b9⟩ := b6
    have b7 := bs1 b7
    have g7 : (gStrs.getD 7 []).length = 5 := by decide +kernel
    simp only [List.length_append, g7, List.length_cons, List.length_nil, Nat.zero_add] at b8 b9
    have b9 := bs1 b9
    have l21 : (gStrs.getD 21 []).length = 7 := by decide +kernel
    rw [l21] at hn ⊢
    generalize hq : p + 7 + 1 + (lbW nl).length + sp.length + (dg t).length = q at *
    obtain ⟨e, hT⟩ := aT_at (k := 1) hA3 (sp1 b7) (isL_32 (w_first (str_lw (i := 7) (by decide)) b8)) (by omega)
    obtain ⟨u1, u2⟩ := w_isY (T := T) (i := 7) (by decide) hT b8 (by rw [gl7, show q + 1 + 5 = q + (1 + 5) by omega, b9]; decide) (by omega)
    rw [gl7] at u2
    subst u2
    have d1k : dIn 5 (5 + 5 + 3 * nl) 1 := dIn_lib (by omega) (Or.inr (Or.inl rfl))
    have hTk : cT (si (si N 5 1 (nI (nl + 1))) (5 + 5 + 3 * nl) 1 1) B n (q + 1) (q + 1 + 5) := cT_eq hT (fun j => by rw [gi_si, if_neg (by omega)]) (fun j => by rw [gi_si, if_neg (by omega)]) rfl
    have hXk : gFx T (si (si N 5 1 (nI (nl + 1))) (5 + 5 + 3 * nl) 1 1) := gFx_gr hXs (fun _ _ => rfl)
    obtain ⟨M5, v1, v2, v3⟩ := s_adv hXk hTk
    obtain ⟨M', r1, r2, r3⟩ := s_semi v2 (by rw [show q + 1 + 5 = q + (1 + 5) by omega]; exact b9) (by omega)
    refine ⟨by omega, hl, M5, M', rd (X := N) u1 (by rw [if_neg (by decide), v1]; rfl), r1, RT_of (by rw [show q + 7 = q + 1 + 5 + 1 by omega]; exact r2) (RU_t (RU_t (M := si (si N 5 1 (nI (nl + 1))) (5 + 5 + 3 * nl) 1 1) (RU_lib hU1 h5 gN (fun b j q1 q2 q3 q4 => ?_) lN' ?_ ?_ ?_ ?_ ?_ (fun z hz => ?_) eW) v3) r3), ?_⟩
    · rw [gi_si, if_neg (by omega), gi_si, if_neg q2]
      exact sN b j q1 q3 q4
    · rw [gi_si, if_neg (by omega), gi_si, if_pos ⟨rfl, rfl⟩]
    · rw [gi_si, if_neg (by omega), gi_si, if_neg (by omega)]; exact eT
    · rw [gi_si, if_pos ⟨by omega, rfl⟩]; rfl
    · rw [gi_si, if_neg (by omega), gi_si, if_neg (by omega)]; exact eR
    · rw [gi_si, if_neg (by omega), gi_si, if_neg (by omega)]; exact eP
    · rw [gi_si, if_neg (by omega), gi_si, if_neg (by omega)]; exact eO z hz
    · exact fz_trans (fz_trans (fz_si (fz_si z4 (Or.inr (Or.inr (Or.inr (Or.inr d51))))) (Or.inr (Or.inr (Or.inr (Or.inr d1k))))) (fz_11 v3)) (fz_11 r3)
  · rw [show gStrs.getD 17 [] = [59] by decide +kernel] at b6 hn ⊢
    have b6 := bs1 b6
    simp only [List.length_cons, List.length_nil, Nat.zero_add] at hn ⊢
    generalize hq : p + 7 + 1 + (lbW nl).length + sp.length + (dg t).length = q at *
    obtain ⟨e, hT⟩ := aT_at (k := 0) hA3 sp0 (show B (q + 0) ≠ 32 by rw [Nat.add_zero, b6]; decide) (by omega)
    have u1 := w_isS (T := T) (i := 7) (by decide) hT (show ¬ isL (B (q + 0)) by rw [Nat.add_zero, b6]; decide)
    obtain ⟨M', r1, r2, r3⟩ := s_semi hA3 b6 (by omega)
    refine ⟨by omega, hl, si N 5 1 (nI (nl + 1)), M', rd (X := N) u1 (by rw [if_pos rfl]), r1, RT_of r2 (RU_t (M := si N 5 1 (nI (nl + 1))) (RU_lib hU1 h5 gN (fun b j q1 q2 q3 q4 => ?_) lN' ?_ ?_ ?_ ?_ ?_ (fun z hz => ?_) eW) r3), ?_⟩
    · rw [gi_si, if_neg q2]
      exact sN b j q1 q3 q4
    · rw [gi_si, if_pos ⟨rfl, rfl⟩]
    · rw [gi_si, if_neg (by omega)]; exact eT
    · rw [gi_si, if_neg (by omega)]; exact eK
    · rw [gi_si, if_neg (by omega)]; exact eR
    · rw [gi_si, if_neg (by omega)]; exact eP
    · rw [gi_si, if_neg (by omega)]; exact eO z hz
    · exact fz_trans (fz_si z4 (Or.inr (Or.inr (Or.inr (Or.inr d51))))) (fz_11 r3)
end PSL
