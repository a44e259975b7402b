/-! THE RANDOM LINKER: all its offers, its preferences -/
section POL
variable {T T1 T2 : gT} {M M0 M1 M2 N V V0 V' : gM} {c nx n i s b a j l A B nn nl m NL t r o v q f pm tb C S len : Nat} {L R O : Nat → Nat} {tx w st : List Nat} {x y z i7 o1 : Int32} {kk : Nat → Nat × Nat} {u : Option Nat}
theorem QS_lo [gW0] (hK : gKe P9 T M T N) (hB : ∀ tx, BS M0 T M tx nx → BS M0 T N tx nx) (h : QS M0 V0 nx l A nn NL a b kk m pm tb T M) : QS M0 V0 nx l A nn NL a b kk m pm tb T N := by
  obtain ⟨tx, B, L, R, O, V, h1, h2, h3, h4, h5, h6⟩ := h
  exact ⟨tx, B, L, R, O, V, hB tx h1, h2, LK_ke hK h3, h4, h5, h6⟩
theorem QS_le [gW0] {tb' pm' : Nat} (ht : tb ≤ tb') (hp : pm ≤ pm') (h : QS M0 V0 nx l A nn NL a b kk m pm tb T M) : QS M0 V0 nx l A nn NL a b kk m pm' tb' T M := by
  obtain ⟨tx, B, L, R, O, V, h1, h2, h3, h4, ⟨v1, v2, v3, v4, v5⟩, h6⟩ := h
  exact ⟨tx, B, L, R, O, V, h1, h2, h3, h4, ⟨v1, v2, v3, fun i hi => ⟨(v4 i hi).1, (v4 i hi).2.1, by have := (v4 i hi).2.2; omega⟩, v5⟩, by omega⟩
/-- a number below a bound -/
theorem Q_low [gW0] (hw : 900000 ≤ w0) (hT : T.length ≤ 900000) (h : QS M0 V0 nx l A nn NL a b kk m pm tb T M) {bb : Nat} (hb : 0 < bb) (hb2 : bb < 2 ^ 31) : ∃ v N, v < bb ∧ f_X12_below T M 312 (nI bb) = some (nI v, N) ∧ QS M0 V0 nx l A nn NL a b kk m pm tb T N ∧ gKe P9 T M T N := by
  obtain ⟨tx, B, L, R, O, V, h1, h2, h3, h4, h5, h6⟩ := h
  obtain ⟨v, x, g1, g2, g3, g4⟩ := b_low hw hT h1 hb hb2
  exact ⟨v, _, g1, g2, ⟨tx, B, L, R, O, V, g3, h2, LK_ke g4 h3, h4, h5, h6⟩, g4⟩
theorem QS_l [gW0] (h : QS M0 V0 nx l A nn NL a b kk m pm tb T M) : T[l]? = some (16, 0) ∧ gi M l 0 = nI nn ∧ 313 ≤ l ∧ gkd T 0 8 = some () ∧ gkd T 311 11 = some () ∧ gkd T 312 18 = some () ∧ gkd T l 16 = some () := by
  obtain ⟨tx, B, L, R, O, V, h1, h2, h3, h4, h5, h6⟩ := h
  exact ⟨h3.1.2.1, h3.1.2.2.1.trans h5.2.2.1, h3.1.1, BS_kd h1 h3.1.2.1⟩
theorem b_301 [gW0] (hw : 900000 ≤ w0) (h : QS M0 V0 nx l A nn NL a b kk m pm tb T M) (hNL : NL ≤ 5) (hnn : nn ≤ 4) (hN0 : 0 < NL) (hn0 : 0 < nn) (hj : j < 8) (htb : tb + 22 ≤ 700) (hT : T.length + 18 ≤ 900000) : QR M0 V0 nx l A nn NL a b kk m pm (tb + 21) 18 3300 T.length (nI j) (f_L_randomLinker_B301 T M 0 311 312 l (nI NL) (nI (j + 1))) := by
  obtain ⟨hl, hgn, hl3, k1, k2, k3, k4⟩ := QS_l h
  obtain ⟨i, N1, hi, c1, c2, c3⟩ := Q_low hw (by omega) h hN0 (by omega)
  obtain ⟨q, N2, hq, d1, d2, d3⟩ := Q_low hw (by omega) c2 hn0 (by omega)
  have g1 : gi N1 l 0 = nI nn := (QS_l c2).2.1
  have d2' := d2
  obtain ⟨tx, B, L, R, O, V, h1, h2, h3, h4, h5, h6⟩ := d2
  have e1 : dNl V 5 = NL := by rw [dNl, h5.2.1, nI_clamp (by omega)]
  have e2 : dNn V 5 = nn := by rw [dNn, h5.2.2.1, nI_clamp (by omega)]
  have hi' : i < dNl V 5 := by omega
  have hO := (h3.2.2.2.1 i hi').2.2
  rw [e2] at hO
  have hald : ald T N2 (O i) (nI q) = some (dOf V 5 i q) := by rw [ald_ok hO.2.2.1 hq (by omega), hO.2.2.2 q hq]
  have pre : f_L_randomLinker_B301 T M 0 311 312 l (nI NL) (nI (j + 1)) = if dOf V 5 i q = -1 then (f_X12_below T N2 312 (2 : Int32)).bind fun x133 => if ¬ x133.1 = 0 then (f_X12_below T x133.2 312 (gi x133.2 l 0)).bind fun x135 => f_L_randomLinker_389 T x135.2 0 311 312 l (nI NL) (nI (j + 1)) (nI i) (nI q) ((-2 : Int32) - x135.1) else (f_X12_below T x133.2 312 (10000 : Int32)).bind fun x136 => f_L_randomLinker_389 T x136.2 0 311 312 l (nI NL) (nI (j + 1)) (nI i) (nI q) x136.1 else f_L_randomLinker_493 T N2 0 311 312 l (nI NL) (nI (j + 1)) := by
    unfold f_L_randomLinker_B301
    rw [k1, Option.bind_some, k2, Option.bind_some, k3, Option.bind_some, k4, Option.bind_some, if_neg (show ¬ nI (j + 1) ≤ 0 from nI_ge (a := 0) (Nat.succ_pos j) (by omega)), if_neg (show ¬ nI NL ≤ 0 from nI_ge (a := 0) hN0 (by omega)), hgn, if_neg (show ¬ nI nn ≤ 0 from nI_ge (a := 0) hn0 (by omega)), c1, Option.bind_some]
    dsimp only
    rw [g1, d1, Option.bind_some]
    dsimp only
    rw [LK_all h3, Option.bind_some, LK_lib (by omega) h3 hi', Option.bind_some, LK_off h3 hi', Option.bind_some, hald, Option.bind_some]
  have hm := nI_m j
  rw [pre]
  by_cases ho : dOf V 5 i q = -1
  · rw [if_pos ho]
    obtain ⟨u, x, y1, y2, y3, y4⟩ := b_low hw (by omega) h1 (b := 2) (by decide) (by decide)
    rw [show f_X12_below T N2 312 (2 : Int32) = _ from y2, Option.bind_some]
    dsimp only
    have L3 := LK_ke y4 h3
    by_cases hu : u = 0
    · rw [if_neg (show ¬ ¬ nI u = 0 from fun z => z (by rw [hu]; rfl))]
      obtain ⟨v, x2, z1, z2, z3, z4⟩ := b_low hw (by omega) y3 (b := 10000) (by decide) (by decide)
      rw [show f_X12_below T (si N2 312 0 x) 312 (10000 : Int32) = _ from z2, Option.bind_some]
      have hr := b_389 (i7 := nI (j + 1)) (o1 := nI v) hw z3 (LK_ke z4 L3) h4 h5 h2 hNL hnn hi hq ho (Or.inl ⟨v, by omega, rfl⟩) (by omega) hT
      rw [hm] at hr
      obtain ⟨T', M', cc, ss, r1, r2, r3, r4, r5⟩ := hr
      exact ⟨T', M', cc, ss, r1, QS_le (by omega) (Nat.le_refl _) r2, r3, r4, r5⟩
    · rw [if_pos (show ¬ nI u = 0 from fun z => hu ((nI_eq (b := 0) (by omega) (by decide)).mp z))]
      obtain ⟨v, x2, z1, z2, z3, z4⟩ := b_low hw (by omega) y3 (b := nn) hn0 (by omega)
      have g3 : gi (si N2 312 0 x) l 0 = nI nn := by rw [L3.1.2.2.1]; exact h5.2.2.1
      rw [g3, z2, Option.bind_some]
      have hr := b_389 (i7 := nI (j + 1)) (o1 := -2 - nI v) hw z3 (LK_ke z4 L3) h4 h5 h2 hNL hnn hi hq ho (Or.inr ⟨v, z1, rfl⟩) (by omega) hT
      rw [hm] at hr
      obtain ⟨T', M', cc, ss, r1, r2, r3, r4, r5⟩ := hr
      exact ⟨T', M', cc, ss, r1, QS_le (by omega) (Nat.le_refl _) r2, r3, r4, r5⟩
  · rw [if_neg ho]
    unfold f_L_randomLinker_493
    rw [hm]
    exact ⟨T, N2, 0, 0, rfl, QS_le (by omega) (Nat.le_refl _) d2', by omega, by omega, rfl⟩
theorem o_loop [gW0] (hw : 900000 ≤ w0) (h : QS M0 V0 nx l A nn NL a b kk m pm tb T M) (hNL : NL ≤ 5) (hnn : nn ≤ 4) (hv : v ≤ 8) (htb : tb + 170 ≤ 700) (hT : T.length + 150 ≤ 900000) : ∃ e c s, gloopc (fun x => f_L_randomLinker_B301 x.2.1 x.2.2 0 311 312 l (nI NL) x.1) gFU (nI v, T, M) = some (e, c, s) ∧ QS M0 V0 nx l A nn NL a b kk m pm (tb + 168) e.1 e.2 ∧ c ≤ 144 ∧ s ≤ 26400 ∧ e.1.length = T.length + c := by
  refine loopc_ex (P := fun t y c s => ∃ j, y.1 = nI j ∧ t + j = v ∧ QS M0 V0 nx l A nn NL a b kk m pm (tb + 21 * t) y.2.1 y.2.2 ∧ c ≤ 18 * t ∧ s ≤ 3300 * t ∧ y.2.1.length = T.length + c) v (Nat.lt_of_le_of_lt hv (by decide)) ⟨v, rfl, by omega, by simpa using h, by omega, by omega, rfl⟩ (fun t y c s hst hP => ?_)
  obtain ⟨y1, Ta, Ma⟩ := y
  obtain ⟨j, rfl, hj, p1, p6, p7, p8⟩ := hP
  dsimp only at p1 p8
  dsimp only
  obtain ⟨hl, hgn, hl3, k1, k2, k3, k4⟩ := QS_l p1
  have out : f_L_randomLinker_B301 Ta Ma 0 311 312 l (nI NL) (nI j) = some (.inl (Ta, Ma), 0, 0) → (∃ e c1 s1, f_L_randomLinker_B301 Ta Ma 0 311 312 l (nI NL) (nI j) = some (.inl e, c1, s1) ∧ QS M0 V0 nx l A nn NL a b kk m pm (tb + 168) e.1 e.2 ∧ c + c1 ≤ 144 ∧ s + s1 ≤ 26400 ∧ e.1.length = T.length + (c + c1)) := fun e => ⟨(Ta, Ma), 0, 0, e, QS_le (by omega) (Nat.le_refl _) p1, by omega, by omega, p8⟩
  rcases Nat.eq_zero_or_pos j with rfl | hj0
  · refine Or.inl (out ?_)
    unfold f_L_randomLinker_B301
    rw [k1, Option.bind_some, k2, Option.bind_some, k3, Option.bind_some, k4, Option.bind_some, if_pos (show nI 0 ≤ 0 from nI_le (a := 0) (b := 0) (Nat.le_refl 0) (by decide))]
  obtain ⟨j', rfl⟩ : ∃ j', j = j' + 1 := ⟨j - 1, by omega⟩
  rcases Nat.eq_zero_or_pos NL with rfl | hN0
  · refine Or.inl (out ?_)
    unfold f_L_randomLinker_B301
    rw [k1, Option.bind_some, k2, Option.bind_some, k3, Option.bind_some, k4, Option.bind_some, if_neg (show ¬ nI (j' + 1) ≤ 0 from nI_ge (a := 0) (Nat.succ_pos j') (by omega)), if_pos (show nI 0 ≤ 0 from nI_le (a := 0) (b := 0) (Nat.le_refl 0) (by decide))]
  rcases Nat.eq_zero_or_pos nn with rfl | hn0
  · refine Or.inl (out ?_)
    unfold f_L_randomLinker_B301
    rw [k1, Option.bind_some, k2, Option.bind_some, k3, Option.bind_some, k4, Option.bind_some, if_neg (show ¬ nI (j' + 1) ≤ 0 from nI_ge (a := 0) (Nat.succ_pos j') (by omega)), if_neg (show ¬ nI NL ≤ 0 from nI_ge (a := 0) hN0 (by omega)), hgn, if_pos (show nI 0 ≤ 0 from nI_le (a := 0) (b := 0) (Nat.le_refl 0) (by decide))]
  obtain ⟨T', M', c', s', q1, q2, q3, q4, q5⟩ := b_301 hw p1 hNL hnn hN0 hn0 (j := j') (by omega) (by omega) (by omega)
  exact Or.inr ⟨by omega, _, c', s', q1, j', rfl, by omega, QS_le (by omega) (Nat.le_refl _) q2, by omega, by omega, by show T'.length = _; omega⟩
end POL
