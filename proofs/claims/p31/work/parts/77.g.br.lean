/-! THE ROUNDS' CASES: offers; rows of loaded ones -/
section PBZ
variable {T T1 T' T0 : gT} {M M1 M' N V V1 : gM} {rr a7 l A : Nat} {L R O : Nat → Nat} {nl nn : Nat} {k : Nat → Nat × Nat} {m dn nx sz B lc B2 lc2 : Nat} {ld ld2 : Nat → Nat} {c b D p R0 kk q fw : Nat} {n : Nat} {f : Nat → Int32} {i2 i9 : Int32} {P : Nat → Prop}
theorem nog2 (hn1 : dNl M 37 = nl) (hn2 : dNn M 37 = nn) (h5 : nl ≤ 5) (h4 : nn ≤ 4) (hkk : kk ≤ nl) (hqq : q ≤ nn) (hp2 : ¬ (kk < nl ∧ q < nn)) : ¬ (gdL M 37 (nI kk) ∧ gdN M 37 (nI q)) := fun z => hp2 (by
  have z1 : nI kk < nI (dNl M 37) := z.1.2
  have z2 : nI q < nI (dNn M 37) := z.2.2
  rw [hn1] at z1
  rw [hn2] at z2
  exact ⟨(nI_ltI (by omega) (by omega)).mp z1, (nI_ltI (by omega) (by omega)).mp z2⟩)
theorem b_off1 [gW0] {kb : Nat} {k0 : Int32} (hk0 : k0 = 0 ∨ k0 = 1) (hX : FX rr a7 l L R O nl) (hM : MP T M rr a7 l A L R O nl nn k m dn nx sz B lc ld p R0) (hkk : kk ≤ nl) (hqq : q ≤ nn) (hfw : fw ≤ nn) (hkb : 0 < kb) (hkb2 : kb < 2 ^ 31) (hT : T.length + 5440 ≤ 900000) : RO (f_L_law_785 n f T M i2 0 rr l a7 (nI dn) i9 p (-2000000097) (nI kk) (nI q) (if kk < nl ∧ q < nn then 1 else 0) (if kk < nl then some (L kk) else none) (nI fw) k0 rr (nI kb)) i9 dn (T.length + 5440) 5440 28980 rr a7 l A L R O nl nn k m := by
  obtain ⟨v, x, hv, e⟩ := below_ok (M := M) (T := T) (rr := rr) hkb hkb2
  have hM := MP_rr (x := x) hX hM
  unfold f_L_law_785
  rw [e, Option.bind_some]
  dsimp only
  generalize si M rr 0 x = M at hM ⊢
  have hI := hM.1.1
  have hn1 := hM.1.2.2.2.2.1
  have hn2 := hM.1.2.2.2.2.2.1
  have h5 := hX.2.2.2.2.2.2.2.2.2
  have h4 := hM.1.2.2.2.2.2.2.1
  have hl0 : gi M l 0 = nI nn := by rw [LK_n hI.1.2.1 hM.1.2.2.1, hn2]
  unfold f_L_law_825 f_L_law_821 f_L_law_826 f_L_law_842 f_L_law_869 f_L_law_879 f_L_law_907 f_L_law_917
  by_cases hp2 : kk < nl ∧ q < nn
  · have hkm : kk < dNl M 37 := by rw [hn1]; exact hp2.1
    have hqm : q < dNn M 37 := by rw [hn2]; exact hp2.2
    have hL := hM.1.2.2.1.2.2.2.1 kk hkm
    rw [if_pos hp2, if_pos hp2.1]
    simp only [d1, d0, if_false, if_true]
    rcases hk0 with rfl | rfl
    · simp only [d1, d0, if_false, if_true, not_true_eq_false]
      by_cases hg : 10000 ≤ v
      · rw [if_pos (show (10000 : Int32) ≤ nI v from nI_le (a := 10000) hg (by omega)), o_valueB hI hkm hqm (fun z => z.2 (nI_lt (a := 9999) (by omega) (by omega))), Option.bind_some]
        dsimp only
        rw [if_neg (fun z => z rfl)]
        exact RO_cadd (t_no hX hM (by omega)) (by omega) (by omega) (by omega)
      · obtain ⟨T2, M2, c2, s2, w1, w2, w3, w4, hI2, m1, m2, hd2, hTP, hw⟩ := off_put hX hM hp2.1 hp2.2 (y := nI v) (Or.inr (Or.inl ⟨v, by omega, rfl⟩)) (by omega)
        obtain ⟨-, N, e1, hm⟩ := o_value hI2 (a := kk) (n0 := q) (t := v) (by rw [m1]; exact hp2.1) (by rw [m2]; exact hp2.2) (by omega)
        rw [if_neg (show ¬ (10000 : Int32) ≤ nI v from nI_ge (b := 10000) (by omega) (by omega)), gsm_some hL.1.2.2.1, Option.bind_some, LK_off hM.1.2.2.1 hkm, Option.bind_some, ast_ok hL.2.2.2.2.1 hqm (by omega), Option.bind_some, w1, Option.bind_some]
        dsimp only
        rw [e1, Option.bind_some]
        dsimp only
        rw [hw, if_neg (fun z => z rfl)]
        exact RO_cadd (RO_cadd (t_ye hX (hTP N _ hm (fun _ _ _ => rfl)) (by omega)) (C' := 3825) (S' := 22528) (len' := T.length + 5424) (by omega) (by omega) (by omega)) (by omega) (by omega) (by omega)
    · simp only [d1, d0, if_false, if_true, not_false_eq_true]
      rw [hl0]
      by_cases hg : nn ≤ fw
      · rw [if_pos (nI_le hg (by omega)), o_forwardM hI hkm hqm (nogn hn2 h4 (by omega) hfw), Option.bind_some]
        dsimp only
        rw [if_neg (fun z => z rfl)]
        exact RO_cadd (t_no hX hM (by omega)) (by omega) (by omega) (by omega)
      · obtain ⟨T2, M2, c2, s2, w1, w2, w3, w4, hI2, m1, m2, hd2, hTP, hw⟩ := off_put hX hM hp2.1 hp2.2 (y := -2 - nI fw) (Or.inr (Or.inr ⟨fw, by omega, rfl⟩)) (by omega)
        obtain ⟨-, N, e1, hm⟩ := o_forward hI2 (a := kk) (n0 := q) (t := fw) (by rw [m1]; exact hp2.1) (by rw [m2]; exact hp2.2) (by rw [m2]; omega)
        rw [if_neg (nI_ge (by omega) (by omega)), gsm_some hL.1.2.2.1, Option.bind_some, LK_off hM.1.2.2.1 hkm, Option.bind_some, ast_ok hL.2.2.2.2.1 hqm (by omega), Option.bind_some, w1, Option.bind_some]
        dsimp only
        rw [e1, Option.bind_some]
        dsimp only
        rw [hw, if_neg (fun z => z rfl)]
        exact RO_cadd (RO_cadd (t_ye hX (hTP N _ hm (fun _ _ _ => rfl)) (by omega)) (C' := 3825) (S' := 22528) (len' := T.length + 5424) (by omega) (by omega) (by omega)) (by omega) (by omega) (by omega)
  · rw [if_neg hp2]
    simp only [d1, d0, if_false, if_true]
    have hg := nog2 hn1 hn2 h5 h4 hkk hqq hp2
    rcases hk0 with rfl | rfl
    · simp only [d1, d0, if_false, if_true]
      rw [o_valueN hI hg, Option.bind_some]
      dsimp only
      rw [if_neg (fun z => z rfl)]
      exact RO_cadd (t_no hX hM (by omega)) (by omega) (by omega) (by omega)
    · simp only [d1, d0, if_false, if_true]
      rw [o_forwardN hI hg, Option.bind_some]
      dsimp only
      rw [if_neg (fun z => z rfl)]
      exact RO_cadd (t_no hX hM (by omega)) (by omega) (by omega) (by omega)
theorem b_off [gW0] {k0 : Int32} (hk0 : k0 = 0 ∨ k0 = 1) (hX : FX rr a7 l L R O nl) (hM : MP T M rr a7 l A L R O nl nn k m dn nx sz B lc ld p R0) (hkk : kk ≤ nl) (hqq : q ≤ nn) (hfw : fw ≤ nn) (hT : T.length + 5440 ≤ 900000) : RO (f_L_law_762 n f T M i2 0 rr l a7 (nI dn) i9 p (-2000000097) (nI kk) (nI q) (if kk < nl ∧ q < nn then 1 else 0) (if kk < nl then some (L kk) else none) (nI fw) k0) i9 dn (T.length + 5440) 5440 28980 rr a7 l A L R O nl nn k m := by
  obtain ⟨v, x, hv, e⟩ := below_ok (M := M) (T := T) (rr := rr) (show 0 < 9 by decide) (by decide)
  have hM := MP_rr (x := x) hX hM
  unfold f_L_law_762
  rw [show (9 : Int32) = nI 9 from rfl, e, Option.bind_some]
  dsimp only
  by_cases hz : nI v = 0
  · rw [if_neg (fun z => z hz)]
    exact b_off1 (kb := 12000) hk0 hX hM hkk hqq hfw (by decide) (by decide) hT
  · rw [if_pos hz]
    exact b_off1 (kb := 10000) hk0 hX hM hkk hqq hfw (by decide) (by decide) hT
/-- another row of loaded ones -/
theorem LK_ldd (h : LK P T M l A B L R O lc ld V 37 k m) (hB2 : P B2) (sB2 : T[B2]? = some (11, lc2)) (n1 : dNl V1 37 = dNl V 37) (n2 : dNn V1 37 = dNn V 37) (v2 : gi V1 37 2 = gi V 37 2) (v3 : gi V1 37 3 = gi V 37 3) (lib : ∀ i, i < dNl V 37 → dTr V1 37 i = dTr V 37 i ∧ dKp V1 37 i = dKp V 37 i ∧ dPk V1 37 i = dPk V 37 i ∧ (∀ j, j < dPk V 37 i → dPr V1 37 i j = dPr V 37 i j) ∧ ∀ n, n < dNn V 37 → dOf V1 37 i n = dOf V 37 i n) (hlc : lc2 ≤ 8) (row : ∀ t, t < lc2 → ld2 t < dNl V 37 ∧ gi M B2 t = nI (ld2 t) ∧ dRk V1 37 (ld2 t) = nI t) (al : ∀ i, i < dNl V 37 → dRk V1 37 i = -1 ∨ ∃ t, t < lc2 ∧ ld2 t = i) : LK P T (sr M l 3 (some B2)) l A B2 L R O lc2 ld2 V1 37 k m := by
  obtain ⟨⟨a1, a2, a3, a4⟩, ⟨b1, b2, b3⟩, ⟨c1, c2, c3⟩, hl, -, ht⟩ := h
  have ne : ∀ {b j kd p : Nat}, T[b]? = some (kd, p) → kd ≠ 16 → gr (sr M l 3 (some B2)) b j = gr M b j := fun hb hk => by rw [gr_sr, if_neg (fun z => kne hb a2 hk z.1)]
  refine ⟨⟨a1, a2, by rw [gi_sr, v2]; exact a3, by rw [gi_sr, v3]; exact a4⟩, ⟨b1, by rw [gr_sr, if_neg (by omega)]; exact b2, by rw [n1]; exact b3⟩, ⟨hB2, by rw [gr_sr, if_pos ⟨rfl, rfl⟩], sB2⟩, fun i hi => ?_, ⟨hlc, fun t ht => ?_, fun i hi => ?_⟩, ?_⟩
  · rw [n1] at hi
    obtain ⟨⟨e1, e2, e3, e4, e5⟩, ⟨f1, f2, f3, f4⟩, g1, g2, g3, g4⟩ := hl i hi
    obtain ⟨q1, q2, q3, q4, q5⟩ := lib i hi
    exact ⟨⟨e1, (ne b3 (by decide)).trans e2, e3, by rw [gi_sr, q1]; exact e4, by rw [gi_sr, q2]; exact e5⟩, ⟨f1, (ne e3 (by decide)).trans f2, by rw [q3]; exact f3, fun j hj => by rw [q3] at hj; rw [gi_sr, q4 j hj]; exact f4 j hj⟩, g1, (ne e3 (by decide)).trans g2, by rw [n2]; exact g3, fun n hn => by rw [n2] at hn; rw [gi_sr, q5 n hn]; exact g4 n hn⟩
  · obtain ⟨q1, q2, q3⟩ := row t ht
    exact ⟨by rw [n1]; exact q1, q2, q3⟩
  · rw [n1] at hi
    exact al i hi
  · rcases ht with ⟨t1, t2⟩ | ⟨e, t1, t2⟩
    · exact Or.inl ⟨by rw [gr_sr, if_neg (by omega)]; exact t1, t2⟩
    · exact Or.inr ⟨e, by rw [gr_sr, if_neg (by omega)]; exact t1, gND_17 (T := T) (T1 := T) (M := M) (M1 := sr M l 3 (some B2)) (fun b hb => ⟨hb, fun j => rfl, fun j => ne hb (by decide)⟩) t2⟩
/-- as many are loaded as the row is long -/
theorem LK_cnt (hV : gVal T0 V D) (h : LK P T M l A B L R O lc ld V D k m) : cntN (fun i => decide (dRk V D i ≠ -1)) (dNl V D) = lc := by
  have e := cnt_ld (c' := fun _ => true) hV h
  have e2 : ∀ n, cntN (fun _ => true) n = n := fun n => by
    induction n with
    | zero => rfl
    | succ n ih => unfold cntN; rw [ih, if_pos rfl]
  rw [e2] at e
  rw [e]
  exact cntN_ext (fun i _ => by rw [Bool.and_true])
end PBZ
