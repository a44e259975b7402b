/-! THE RANDOM LINKER: its preferences -/
section PPF
variable {T T1 T2 : gT} {M M0 M1 M2 N V V0 V' : gM} {c nx n i s b a j l A B nn nl m NL t r o v q f pm pn tb C S len k0 : Nat} {L R O : Nat → Nat} {tx w st : List Nat} {x y z i7 o1 : Int32} {kk : Nat → Nat × Nat} {u : Option Nat}
theorem VQ_pref (h : VQ M0 V NL nn pm) (hi : i < NL) (hN : NL ≤ 5) (hx : q < NL) (hp : dPk V 5 i = pn) (hp7 : pn ≤ 7) : VQ M0 (si (si V (5 + 7 + 3 * i) pn (nI q)) (5 + 5 + 3 * i) 5 (nI (pn + 1))) NL nn (pm + 1) := by
  obtain ⟨h1, h2, h3, h4, h5⟩ := h
  have nv : ∀ {b j : Nat}, ¬ (b = 5 + 7 + 3 * i ∧ j = pn) → ¬ (b = 5 + 5 + 3 * i ∧ j = 5) → gi (si (si V (5 + 7 + 3 * i) pn (nI q)) (5 + 5 + 3 * i) 5 (nI (pn + 1))) b j = gi V b j := fun h1 h2 => by rw [gi_si, if_neg h2, gi_si, if_neg h1]
  refine ⟨h1, (nv (by omega) (by omega)).trans h2, (nv (by omega) (by omega)).trans h3, fun i' hi' => ?_, fun i' hi' h8 => (nv (by omega) (by omega)).trans (h5 i' hi' h8)⟩
  obtain ⟨⟨g1, g2, g3, g4, g5, g6⟩, r1, r2⟩ := h4 i' hi'
  have ho : ∀ n, dOf (si (si V (5 + 7 + 3 * i) pn (nI q)) (5 + 5 + 3 * i) 5 (nI (pn + 1))) 5 i' n = dOf V 5 i' n := fun n => nv (by omega) (by omega)
  have eT : dTr (si (si V (5 + 7 + 3 * i) pn (nI q)) (5 + 5 + 3 * i) 5 (nI (pn + 1))) 5 i' = dTr V 5 i' := nv (by omega) (by omega)
  have eK : dKp (si (si V (5 + 7 + 3 * i) pn (nI q)) (5 + 5 + 3 * i) 5 (nI (pn + 1))) 5 i' = dKp V 5 i' := nv (by omega) (by omega)
  have eR : dRk (si (si V (5 + 7 + 3 * i) pn (nI q)) (5 + 5 + 3 * i) 5 (nI (pn + 1))) 5 i' = dRk V 5 i' := nv (by omega) (by omega)
  by_cases e : i' = i
  · subst e
    have en : dPn (si (si V (5 + 7 + 3 * i') pn (nI q)) (5 + 5 + 3 * i') 5 (nI (pn + 1))) 5 i' = nI (pn + 1) := by
      show gi (si (si V (5 + 7 + 3 * i') pn (nI q)) (5 + 5 + 3 * i') 5 (nI (pn + 1))) (5 + 5 + 3 * i') 5 = nI (pn + 1)
      rw [gi_si, if_pos ⟨rfl, rfl⟩]
    have ek : dPk (si (si V (5 + 7 + 3 * i') pn (nI q)) (5 + 5 + 3 * i') 5 (nI (pn + 1))) 5 i' = pn + 1 := by rw [dPk, en, nI_clamp (by omega)]
    refine ⟨⟨by rw [eT]; exact g1, by rw [eK]; exact g2, by rw [eR]; exact g3, ⟨by rw [en, ek], by rw [ek]; omega⟩, fun k hk => ?_, fun n hn => by rw [ho]; exact g6 n hn⟩, eR.trans r1, by rw [ek]; omega⟩
    rw [ek] at hk
    show ∃ y, y < NL ∧ gi (si (si V (5 + 7 + 3 * i') pn (nI q)) (5 + 5 + 3 * i') 5 (nI (pn + 1))) (5 + 7 + 3 * i') k = nI y
    rw [gi_si, if_neg (by omega), gi_si]
    by_cases ek2 : k = pn
    · rw [if_pos ⟨rfl, ek2⟩]
      exact ⟨q, hx, rfl⟩
    · rw [if_neg (fun z => ek2 z.2)]
      exact g5 k (by omega)
  · have ek : dPk (si (si V (5 + 7 + 3 * i) pn (nI q)) (5 + 5 + 3 * i) 5 (nI (pn + 1))) 5 i' = dPk V 5 i' := congrArg Int32.toNatClampNeg (nv (by omega) (by omega))
    refine ⟨⟨by rw [eT]; exact g1, by rw [eK]; exact g2, by rw [eR]; exact g3, ⟨by rw [ek]; exact (nv (by omega) (by omega)).trans g4.1, by rw [ek]; exact g4.2⟩, fun k hk => ?_, fun n hn => by rw [ho]; exact g6 n hn⟩, eR.trans r1, by rw [ek]; omega⟩
    rw [ek] at hk
    rw [show dPr (si (si V (5 + 7 + 3 * i) pn (nI q)) (5 + 5 + 3 * i) 5 (nI (pn + 1))) 5 i' k = dPr V 5 i' k from nv (by omega) (by omega)]
    exact g5 k hk
theorem b_507 [gW0] (hw : 900000 ≤ w0) (h : QS M0 V0 nx l A nn NL a b kk m pm tb T M) (hNL : NL ≤ 5) (hnn : nn ≤ 4) (hN0 : 2 ≤ NL) (hj : j < 7) (hpm : pm ≤ 7) (htb : tb + 21 ≤ 700) (hT : T.length + 13 ≤ 900000) : QR M0 V0 nx l A nn NL a b kk m (pm + 1) (tb + 20) 13 2208 T.length (nI j) (f_L_randomLinker_B507 T M 0 311 312 l (nI NL) (nI (j + 1))) := by
  obtain ⟨hl, hgn, hl3, k1, k2, k3, k4⟩ := QS_l h
  obtain ⟨i, N1, hi, c1, c2, c3⟩ := Q_low hw (by omega) h (bb := NL) (by omega) (by omega)
  obtain ⟨q, N2, hq, d1, d2, d3⟩ := Q_low hw (by omega) c2 (bb := NL) (by omega) (by omega)
  have d2' := d2
  obtain ⟨tx, B, L, R, O, V, h1, h2, h3, h4, h5, h6⟩ := d2
  have e1 : dNl V 5 = NL := by rw [dNl, h5.2.1, nI_clamp (by omega)]
  have hi' : i < dNl V 5 := by omega
  obtain ⟨⟨gL1, gL2, gL3, ⟨gp1, gp2⟩, gL5, gL6⟩, rk, pk⟩ := h5.2.2.2.1 i hi
  obtain ⟨⟨x1, x2, x3, x4, x5⟩, ⟨y1, y2, y3, y4⟩, zz⟩ := h3.2.2.2.1 i hi'
  generalize hpn : dPk V 5 i = pn at gp1 gp2 pk y3 y4
  have hm := nI_m j
  have hhas := p_has (M := N2) (x := nI q) y3 (by omega)
  have han : anyN (fun j => decide (gi N2 (R i) j = nI q)) pn = anyN (fun j => decide (dPr V 5 i j = nI q)) pn := anyN_ext (fun j hj => by rw [y4 j hj])
  rw [han] at hhas
  have nop : QR M0 V0 nx l A nn NL a b kk m (pm + 1) (tb + 20) 13 2208 T.length (nI j) (f_L_randomLinker_633 T N2 0 311 312 l (nI NL) (nI (j + 1))) := by
    unfold f_L_randomLinker_633
    rw [hm]
    exact ⟨T, N2, 0, 0, rfl, QS_le (by omega) (Nat.le_succ _) d2', by omega, by omega, rfl⟩
  unfold f_L_randomLinker_B507
  rw [k1, Option.bind_some, k2, Option.bind_some, k3, Option.bind_some, k4, Option.bind_some, if_neg (show ¬ nI (j + 1) ≤ 0 from nI_ge (a := 0) (Nat.succ_pos j) (by omega)), if_neg (show ¬ nI NL ≤ 1 from nI_ge (a := 1) (by omega) (by omega)), c1, Option.bind_some]
  dsimp only
  rw [d1, Option.bind_some]
  dsimp only
  by_cases hiq : i = q
  · rw [if_pos (by rw [hiq])]
    exact nop
  rw [if_neg (fun z => hiq ((nI_eq (by omega) (by omega)).mp z)), LK_all h3, Option.bind_some, LK_lib (by omega) h3 hi', Option.bind_some, LK_prf h3 hi', Option.bind_some, hhas, Option.bind_some]
  by_cases hany : anyN (fun j => decide (dPr V 5 i j = nI q)) pn = true
  · rw [if_pos hany, if_neg (by decide)]
    exact nop
  have hno : anyN (fun j => decide (dPr V 5 i j = nI q)) pn = false := by simpa using hany
  rw [if_neg hany, if_pos rfl, Option.bind_some, LK_lib (by omega) h3 hi', Option.bind_some, Option.bind_some, LK_lib (by omega) h3 hi', Option.bind_some, LK_prf h3 hi', Option.bind_some]
  obtain ⟨rv, T', M', cc, ss, f1, f2, f3, f4, rfl, f6, f7, f8⟩ := p_with (T := T) (M := N2) (b := R i) (x := nI q) y3 (by omega) (by omega)
  have hlen := f2.2.2
  have hTl : 313 ≤ T.length := h1.2.2.1
  rw [f1, Option.bind_some]
  dsimp only
  rw [gkd_ok f6, Option.bind_some]
  have L1 := LK_to f2 h3
  have hRold := (sh_lt y3)
  have L2 := LK5_pref (r := T.length) (pn := pn) (x := nI q) L1 hi' hTl f6 gp1 (by omega) (fun j hj => by rw [f7 j hj, gTo_gi f2 y3]) f8 (fun i j hi hj => h4.1 i j (by omega) (by omega))
  have V2 := VQ_pref (q := q) h5 hi hNL hq hpn (by omega)
  have D2 : DJ L (fun i' => if i' = i then T.length else R i') O B NL := by
    refine ⟨h4.1, h4.2.1, fun i2 j2 hi2 hj2 => ?_, h4.2.2.2⟩
    dsimp only
    by_cases e : j2 = i
    · rw [if_pos e]
      have := sh_lt (h3.2.2.2.1 i2 (by omega)).2.2.2.2.1
      omega
    · rw [if_neg e]
      exact h4.2.2.1 i2 j2 hi2 hj2
  have B2 : BS M0 T' (sr M' (L i) 2 (some T.length)) tx nx := BS_sr hw (by omega) (BS_to f2 h1) x1
  have g24 : (gStrs.getD 24 []).length = 7 := by decide +kernel
  have g19 : (gStrs.getD 19 []).length = 1 := by decide +kernel
  have g25 : (gStrs.getD 25 []).length = 2 := by decide +kernel
  have lw1 := lbW_len i (by omega)
  have lw2 := lbW_len q (by omega)
  obtain ⟨N3, c1, c2, c3⟩ := b_con (i := 24) hw (by omega) B2 (by decide) (by omega)
  obtain ⟨s4, T4, M4, cc4, sl4, N4, d1, d2, d3, d4, d5, d6, d7, d8, d9⟩ := b_lib (k := i) hw (by omega) c2 (by omega) (by rw [List.length_append]; omega)
  obtain ⟨N5, w1, w2, w3⟩ := b_con (i := 19) hw (by omega) d4 (by decide) (by rw [List.length_append, List.length_append]; omega)
  obtain ⟨s6, T6, M6, cc6, sl6, N6, k1, k2, k3, k4, k5, k6, k7, k8, k9⟩ := b_lib (k := q) hw (by omega) w2 (by omega) (by rw [List.length_append, List.length_append, List.length_append]; omega)
  obtain ⟨N7, m1, m2, m3⟩ := b_con (i := 25) hw (by omega) k4 (by decide) (by rw [List.length_append, List.length_append, List.length_append, List.length_append]; omega)
  have hK := gKe_tr (gKe_tr (gKe_tr (gKe_tr c3 d5) w3) k5) m3
  have hst : tx ++ gStrs.getD 24 [] ++ lbW i ++ gStrs.getD 19 [] ++ lbW q ++ gStrs.getD 25 [] = tx ++ (gStrs.getD 24 [] ++ lbW i ++ gStrs.getD 19 [] ++ lbW q ++ gStrs.getD 25 []) := by simp only [List.append_assoc]
  rw [hst] at m2
  have hsl : (gStrs.getD 24 [] ++ lbW i ++ gStrs.getD 19 [] ++ lbW q ++ gStrs.getD 25 []).length = 7 + (lbW i).length + 1 + (lbW q).length + 2 := by rw [List.length_append, List.length_append, List.length_append, List.length_append, g24, g19, g25]
  rw [c1, Option.bind_some, d1, Option.bind_some]
  dsimp only
  rw [d2, Option.bind_some, d3, Option.bind_some, w1, Option.bind_some, k1, Option.bind_some]
  dsimp only
  rw [k2, Option.bind_some, k3, Option.bind_some, m1, Option.bind_some]
  unfold f_L_randomLinker_633
  rw [hm, cadd_some, cadd_some, cadd_some]
  exact ⟨T6, N7, _, _, rfl, ⟨_, B, L, _, O, _, m2, RX_ext h2 (SS_prefer hi hq (fun z => hiq z.symm) gp1 (by omega) hno) (by rw [hsl]; omega) (by rw [hsl]; omega), LK_ke hK L2, D2, V2, by rw [List.length_append, hsl]; omega⟩, by omega, by omega, by omega⟩
theorem p_loop [gW0] (hw : 900000 ≤ w0) (h : QS M0 V0 nx l A nn NL a b kk m 0 tb T M) (hNL : NL ≤ 5) (hnn : nn ≤ 4) (hv : v ≤ 7) (htb : tb + 141 ≤ 700) (hT : T.length + 100 ≤ 900000) : ∃ e c s, gloopc (fun x => f_L_randomLinker_B507 x.2.1 x.2.2 0 311 312 l (nI NL) x.1) gFU (nI v, T, M) = some (e, c, s) ∧ QS M0 V0 nx l A nn NL a b kk m 7 (tb + 140) e.1 e.2 ∧ c ≤ 91 ∧ s ≤ 15456 ∧ e.1.length = T.length + c := by
  refine loopc_ex (P := fun t y c s => ∃ j, y.1 = nI j ∧ t + j = v ∧ QS M0 V0 nx l A nn NL a b kk m t (tb + 20 * t) y.2.1 y.2.2 ∧ c ≤ 13 * t ∧ s ≤ 2208 * t ∧ y.2.1.length = T.length + c) v (Nat.lt_of_le_of_lt hv (by decide)) ⟨v, rfl, by omega, by simpa using h, by omega, by omega, rfl⟩ (fun t y c s hst hP => ?_)
  obtain ⟨y1, Ta, Ma⟩ := y
  obtain ⟨j, rfl, hj, p1, p6, p7, p8⟩ := hP
  dsimp only at p1 p8
  dsimp only
  obtain ⟨hl, hgn, hl3, k1, k2, k3, k4⟩ := QS_l p1
  have out : f_L_randomLinker_B507 Ta Ma 0 311 312 l (nI NL) (nI j) = some (.inl (Ta, Ma), 0, 0) → (∃ e c1 s1, f_L_randomLinker_B507 Ta Ma 0 311 312 l (nI NL) (nI j) = some (.inl e, c1, s1) ∧ QS M0 V0 nx l A nn NL a b kk m 7 (tb + 140) e.1 e.2 ∧ c + c1 ≤ 91 ∧ s + s1 ≤ 15456 ∧ e.1.length = T.length + (c + c1)) := fun e => ⟨(Ta, Ma), 0, 0, e, QS_le (by omega) (by omega) p1, by omega, by omega, p8⟩
  rcases Nat.eq_zero_or_pos j with rfl | hj0
  · refine Or.inl (out ?_)
    unfold f_L_randomLinker_B507
    rw [k1, Option.bind_some, k2, Option.bind_some, k3, Option.bind_some, k4, Option.bind_some, if_pos (show nI 0 ≤ 0 from nI_le (a := 0) (b := 0) (Nat.le_refl 0) (by decide))]
  obtain ⟨j', rfl⟩ : ∃ j', j = j' + 1 := ⟨j - 1, by omega⟩
  rcases Nat.lt_or_ge NL 2 with hN0 | hN0
  · refine Or.inl (out ?_)
    unfold f_L_randomLinker_B507
    rw [k1, Option.bind_some, k2, Option.bind_some, k3, Option.bind_some, k4, Option.bind_some, if_neg (show ¬ nI (j' + 1) ≤ 0 from nI_ge (a := 0) (Nat.succ_pos j') (by omega)), if_pos (show nI NL ≤ 1 from nI_le (b := 1) (by omega) (by decide))]
  obtain ⟨T', M', c', s', q1, q2, q3, q4, q5⟩ := b_507 hw p1 hNL hnn hN0 (j := j') (by omega) (by omega) (by omega) (by omega)
  exact Or.inr ⟨by omega, _, c', s', q1, j', rfl, by omega, QS_le (by omega) (Nat.le_refl _) q2, by omega, by omega, by show T'.length = _; omega⟩
end PPF
