/-! FROM THE LOADED LINKER TO THE END OF A SEED -/
def P0 [gW0] (rr b : Nat) : Prop := 311 ≤ b ∧ b ≠ w0 + 2 ∧ b ≠ rr
def SL [gW0] (T : gT) (M : gM) (rr l A : Nat) (L R O : Nat → Nat) (nl nn : Nat) (k : Nat → Nat × Nat) (m : Nat) : Prop := FX rr T.length l L R O nl ∧ T[rr]? = some (18, 0) ∧ nn ≤ 4 ∧ ∃ (nx sz B lc : Nat) (ld : Nat → Nat), cInv T M k m nx sz 0 0 ∧ LK (P0 rr) T M l A B L R O lc ld M 37 k m ∧ lc ≤ 5 ∧ dNl M 37 = nl ∧ dNn M 37 = nn ∧ ∀ i, i < nl → O i ≠ B
section PEN
variable {T T1 T' T0 : gT} {M M1 M' N V V1 : gM} {rr a7 l A B : Nat} {L R O : Nat → Nat} {nl nn lc D : Nat} {ld : Nat → Nat} {k : Nat → Nat × Nat} {m c : Nat} {n : Nat} {f : Nat → Int32} {i2 i9 : Int32} {P P' : Nat → Prop}
theorem LK_P (hP : ∀ b x, P b → T[b]? = some x → P' b) (h : LK P T M l A B L R O lc ld V D k m) : LK P' T M l A B L R O lc ld V D k m := by
  obtain ⟨⟨a1, a2, a3⟩, ⟨b1, b2, b3⟩, ⟨c1, c2, c3⟩, hl, hd, ht⟩ := h
  refine ⟨⟨hP _ _ a1 a2, a2, a3⟩, ⟨hP _ _ b1 b3, b2, b3⟩, ⟨hP _ _ c1 c3, c2, c3⟩, fun i hi => ?_, hd, tK_P (fun b hb hk => hP b _ hb hk) ht⟩
  obtain ⟨⟨e1, e2, e3⟩, ⟨f1, f2, f3⟩, g1, g2, g3⟩ := hl i hi
  exact ⟨⟨hP _ _ e1 e3.1, e2, e3⟩, ⟨hP _ _ f1 f3.1, f2, f3⟩, hP _ _ g1 g3.1, g2, g3⟩
theorem FX_le [gW0] {x y : Nat} (hxy : x ≤ y) (h : FX rr x l L R O nl) : FX rr y l L R O nl := ⟨h.1, h.2.1, h.2.2.1, h.2.2.2.1, by have := h.2.2.2.2.1; omega, h.2.2.2.2.2⟩
theorem SL_to [gW0] (hG : gTo T M T1 M1 c) (h : SL T M rr l A L R O nl nn k m) : SL T1 M1 rr l A L R O nl nn k m := by
  obtain ⟨hX, hr, hn, nx, sz, B, lc, ld, hI, hL, h5, h1, h2, h3⟩ := h
  have hl := hG.2.2
  obtain ⟨i1, hds⟩ := cInv_ce (gCe_to hG) hI
  have hd := hds 37 (Or.inr (Or.inl rfl))
  exact ⟨FX_le (by omega) hX, gTo_sh hG hr, hn, nx, sz, B, lc, ld, i1, LK_same hI.1.2.1 hd (LK_to hG hL), h5, (dNl_same hd).trans h1, (dNn_same hd).trans h2, h3⟩
theorem SL_fr [gW0] (hF : fr (fun b _ => b = 74 ∨ b = 75) M N) (h : SL T M rr l A L R O nl nn k m) : SL T N rr l A L R O nl nn k m := by
  obtain ⟨hX, hr, hn, nx, sz, B, lc, ld, hI, hL, h5, h1, h2, h3⟩ := h
  have hd : dSame N 37 M 37 := fr_d37 hF (fun b j z => by omega) (Or.inr (Or.inl rfl))
  exact ⟨hX, hr, hn, nx, sz, B, lc, ld, cInv_fr hI hF (fun b j z => by omega) (gBf_fr hI.2.2.2.2.2 hF (fun b j z => z)), LK_same hI.1.2.1 hd (LK_ke (fun b hb x hx => ⟨hx, fun j => hF.2.2 b j (fun z => by have := hb.1; omega), fun j => hF.1 b j⟩) hL), h5, (dNl_same hd).trans h1, (dNn_same hd).trans h2, h3⟩
theorem SL_MS [gW0] (h : SL T M rr l A L R O nl nn k m) : MS (T ++ [(22, 9)]) (zr M T.length) rr T.length l A L R O nl nn k m 0 := by
  have hG : gTo T M (T ++ [(22, 9)]) (zr M T.length) 1 := gTo_new
  obtain ⟨hX, hr, hn, nx, sz, B, lc, ld, hI, hL, h5, h1, h2, h3⟩ := h
  obtain ⟨i1, hds⟩ := cInv_ce (gCe_to hG) hI
  have hd := hds 37 (Or.inr (Or.inl rfl))
  have hw := hX.2.2.2.2.1
  refine ⟨nx, sz, B, lc, ld, ⟨i1, Or.inl (Nat.zero_le _), LK_same hI.1.2.1 hd (LK_to hG (LK_P (fun b x hb hx => ⟨hb.1, hb.2.1, hb.2.2, by have := sh_lt hx; omega⟩) hL)), h5, (dNl_same hd).trans h1, (dNn_same hd).trans h2, hn, h3, gTo_sh hG hr, sh_new, by rw [len_1]; omega, fun q hq => Or.inl ?_⟩, fun q hq => absurd hq (Nat.not_lt_zero q)⟩
  rw [gr_zr, if_pos rfl]
/-- the last five questions of a seed -/
theorem t_last [gW0] {nx sz d : Nat} (hI : cInv T M k m nx sz d 0) : f_L_load T M 0 1 = some (-2000000098, T, M) ∧ f_L_setTrust T M 0 (-1) (-1) = some (-2000000097, M) ∧ f_L_call T M 0 0 12 = some (-2000000097, M) ∧ f_L_candidates T M 0 (-1) = some (-2000000097) ∧ f_L_minority T M 0 12 = some (-2000000097) := by
  have h12 := hI.1.2.1.2.2.1
  have g12 : ¬ gdN M 37 (12 : Int32) := fun z => by
    have z2 : (12 : Int32) < nI (dNn M 37) := z.2
    exact nI_nlt (a := 12) (b := dNn M 37) (by omega) (by decide) z2
  have gm : ¬ gdN M 37 (-1 : Int32) := fun z => z.1 (by decide)
  have gl : ¬ gdL M 37 (-1 : Int32) := fun z => z.1 (by decide)
  refine ⟨?_, o_trustN hI gl, wq_calN hI (fun z => g12 z.2), wq_canN hI gm, wq_minN hI g12⟩
  unfold f_L_load f_X8_load f_X8_load_12
  rw [if_neg (by decide), if_neg (show ¬ (1 : Int32) ≤ gi M 0 1 by rw [hI.2.2.2.2.2.2.1]; decide), Option.bind_some]
  rfl
theorem cs_1 {a b : Nat} (ha : a ≤ 247275) (hb : b ≤ 30592) : 1 + (a + (b + (3 + (1 + (1 + (1 + (1 + 0))))))) ≤ 277875 := by omega
theorem cs_2 {a b : Nat} (ha : a ≤ 1240925) (hb : b ≤ 180176) : 9 + (a + (b + (813 + (6 + (6 + (6 + (6 + 0))))))) ≤ 1421947 := by omega
theorem t_178 [gW0] (h : SL T M rr l A L R O nl nn k m) (hT : T.length + 277868 ≤ 900000) : ∃ c s, f_L_law_178 n f T M i2 0 rr l 1 = some (.inr (1, i2 + 1), c, s) ∧ c ≤ 277875 ∧ s ≤ 1421947 := by
  have hX := h.1
  have hS := SL_MS h
  obtain ⟨dn, T2, M2, c2, s2, e2, hdn, hS2, hl2, hc2, hs2⟩ := t_rounds (n := n) (f := f) (i2 := i2) hX hS (by rw [len_1]; omega)
  rw [len_1] at hl2
  obtain ⟨T3, M3, c3, s3, e3, ⟨nx, sz, d, hI⟩, hl3, hc3, hs3⟩ := t_undos (n := n) (f := f) (i2 := i2) hX hS2 hdn (by omega)
  obtain ⟨q1, q2, q3, q4, q5⟩ := t_last hI
  unfold f_L_law_178 f_L_law_1310
  rw [gnew_ok (by omega), Option.bind_some]
  dsimp only
  rw [e2, Option.bind_some]
  dsimp only
  rw [e3, Option.bind_some]
  dsimp only
  rw [if_neg (by decide), q1, Option.bind_some]
  dsimp only
  rw [if_neg (fun z => z rfl), q2, Option.bind_some]
  dsimp only
  rw [if_neg (fun z => z rfl), q3, Option.bind_some]
  dsimp only
  rw [if_neg (fun z => z rfl), q4, Option.bind_some, if_neg (fun z => z rfl), q5, Option.bind_some, if_neg (fun z => z rfl)]
  simp only [cadd_some]
  exact ⟨_, _, rfl, cs_1 hc2 hc3, cs_2 hs2 hs3⟩
/-- with a linker that the class was loaded from -/
theorem t_140 [gW0] {a4 c0 s0 : Nat} {M0 : gM} {T0 : gT} (e0 : f_L_randomLinker T0 M0 0 a4 rr (4 : Int32) (5 : Int32) = some ((l, T, M), c0, s0)) (h : SL T M rr l A L R O nl nn k m) (hT : T.length + 281692 ≤ 900000) : ∃ c s, f_L_law_140 n f T0 M0 i2 0 a4 rr 1 = some (.inr (1, i2 + 1), c, s) ∧ c ≤ c0 + 281699 ∧ s ≤ s0 + 1444469 := by
  have h0 := h
  obtain ⟨hX, hr, hn, nx, sz, B, lc, ld, hI, hL, h5, h1, h2, h3⟩ := h
  obtain ⟨N, T', M', c1, c, s, e1, w2, w3, w4, w5, w6⟩ := p_agrees hI hL (fun b hb => hb.1) h5 (by rw [h1]; exact hX.2.2.2.2.2.2.2.2.2) (by omega) (by omega)
  have hl := w3.2.2
  obtain ⟨c9, s9, e9, hc9, hs9⟩ := t_178 (n := n) (f := f) (i2 := i2) (SL_to w3 (SL_fr w2 h0)) (by omega)
  unfold f_L_law_140
  rw [e0, Option.bind_some]
  dsimp only
  rw [gkd_ok hL.1.2.1, Option.bind_some, if_neg (by decide), e1, Option.bind_some]
  dsimp only
  rw [if_neg (by decide), e9]
  simp only [cadd_some]
  exact ⟨_, _, rfl, by omega, by omega⟩
end PEN
