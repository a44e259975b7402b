/-! A LINKER THAT IS BUILT: its data are a draft -/
section PL5
variable {P : Nat → Prop} {T T1 : gT} {M M1 V V1 : gM} {l A B : Nat} {L R O : Nat → Nat} {lc : Nat} {ld : Nat → Nat} {k k' : Nat → Nat × Nat} {m m' a n0 r pn y e c : Nat} {x : Int32}
theorem LK5_put (h : LK P T M l A B L R O lc ld V 5 k m) (hgr : ∀ b j, gr M1 b j = gr M b j) (e0 : gi M1 l 0 = gi V1 5 2) (e1 : gi M1 l 1 = gi V1 5 3) (n1 : dNl V1 5 = dNl V 5) (n2 : dNn V1 5 = dNn V 5) (lib : ∀ i, i < dNl V 5 → gi M1 (L i) 0 = dTr V1 5 i ∧ gi M1 (L i) 1 = dKp V1 5 i ∧ dPk V1 5 i = dPk V 5 i ∧ (∀ j, j < dPk V 5 i → gi M1 (R i) j = dPr V1 5 i j) ∧ ∀ n, n < dNn V 5 → gi M1 (O i) n = dOf V1 5 i n) (row : ∀ t, t < lc → gi M1 B t = gi M B t) (rk : ∀ i, i < dNl V 5 → dRk V1 5 i = dRk V 5 i) (nd : ∀ b, T[b]? = some (17, 0) → ∀ j, gi M1 b j = gi M b j) : LK P T M1 l A B L R O lc ld V1 5 k m := by
  obtain ⟨⟨a1, a2, a3, a4⟩, ⟨b1, b2, b3⟩, ⟨c1, c2, c3⟩, hl, ⟨d1, d2, d3⟩, ht⟩ := h
  refine ⟨⟨a1, a2, e0, e1⟩, ⟨b1, (hgr _ _).trans b2, by rw [n1]; exact b3⟩, ⟨c1, (hgr _ _).trans c2, c3⟩, fun i hi => ?_, ⟨d1, fun t ht => ?_, fun i hi => ?_⟩, ?_⟩
  · rw [n1] at hi
    obtain ⟨⟨e1, e2, e3, e4, e5⟩, ⟨f1, f2, f3, f4⟩, g1, g2, g3, g4⟩ := hl i hi
    obtain ⟨q1, q2, q3, q4, q5⟩ := lib i hi
    exact ⟨⟨e1, (hgr _ _).trans e2, e3, q1, q2⟩, ⟨f1, (hgr _ _).trans f2, by rw [q3]; exact f3, fun j hj => q4 j (by rw [← q3]; exact hj)⟩, g1, (hgr _ _).trans g2, by rw [n2]; exact g3, fun n hn => q5 n (by rw [← n2]; exact hn)⟩
  · obtain ⟨q1, q2, q3⟩ := d2 t ht
    exact ⟨by rw [n1]; exact q1, (row t ht).trans q2, by rw [rk _ q1]; exact q3⟩
  · rw [n1] at hi
    rw [rk i hi]
    exact d3 i hi
  · rcases ht with ⟨t1, t2⟩ | ⟨e, t1, t2⟩
    · exact Or.inl ⟨(hgr _ _).trans t1, t2⟩
    · exact Or.inr ⟨e, (hgr _ _).trans t1, gND_17 (fun b hb => ⟨hb, nd b hb, fun j => hgr b j⟩) t2⟩
theorem LK5_share (h : LK P T M l A B L R O lc ld V 5 k m) : LK P T (si M l 1 x) l A B L R O lc ld (si V 5 3 x) 5 k m := by
  have ne : ∀ {b j kd p : Nat}, T[b]? = some (kd, p) → kd ≠ 16 → gi (si M l 1 x) b j = gi M b j := fun hb hk => by rw [gi_si, if_neg (fun q => kne hb h.1.2.1 hk q.1)]
  have nv : ∀ {b j : Nat}, ¬ (b = 5 ∧ j = 3) → gi (si V 5 3 x) b j = gi V b j := fun hn => by rw [gi_si, if_neg hn]
  refine LK5_put h (fun _ _ => rfl) ?_ ?_ (congrArg Int32.toNatClampNeg (nv (by omega))) (congrArg Int32.toNatClampNeg (nv (by omega))) (fun i hi => ?_) (fun t ht => ne h.2.2.1.2.2 (by decide)) (fun i hi => nv (by omega)) (fun b hb j => ne hb (by decide))
  · rw [gi_si, if_neg (by omega), nv (by omega)]
    exact h.1.2.2.1
  · rw [gi_si, if_pos ⟨rfl, rfl⟩, gi_si, if_pos ⟨rfl, rfl⟩]
  · have hL := h.2.2.2.1 i hi
    refine ⟨?_, ?_, congrArg Int32.toNatClampNeg (nv (by omega)), fun j hj => ?_, fun n hn => ?_⟩
    · rw [ne hL.1.2.2.1 (by decide), show dTr (si V 5 3 x) 5 i = dTr V 5 i from nv (by omega)]; exact hL.1.2.2.2.1
    · rw [ne hL.1.2.2.1 (by decide), show dKp (si V 5 3 x) 5 i = dKp V 5 i from nv (by omega)]; exact hL.1.2.2.2.2
    · rw [ne hL.2.1.2.2.1 (by decide), show dPr (si V 5 3 x) 5 i j = dPr V 5 i j from nv (by omega)]; exact hL.2.1.2.2.2 j hj
    · rw [ne hL.2.2.2.2.1 (by decide), show dOf (si V 5 3 x) 5 i n = dOf V 5 i n from nv (by omega)]; exact hL.2.2.2.2.2 n hn
theorem LK5_offp (h : LK P T M l A B L R O lc ld V 5 k m) (ha : a < dNl V 5) (hO' : ∀ i j, i < dNl V 5 → j < dNl V 5 → O i = O j → i = j) (hOR : ∀ i, i < dNl V 5 → O a ≠ R i) (hOB : O a ≠ B) : LK P T (si M (O a) n0 x) l A B L R O lc ld (si V (5 + 6 + 3 * a) n0 x) 5 k m := by
  have hOa := (h.2.2.2.1 a ha).2.2.2.2.1
  have ne : ∀ {b j kd p : Nat}, T[b]? = some (kd, p) → kd ≠ 11 → gi (si M (O a) n0 x) b j = gi M b j := fun hb hk => by rw [gi_si, if_neg (fun z => kne hb hOa hk z.1)]
  have nv : ∀ {b j : Nat}, ¬ (b = 5 + 6 + 3 * a ∧ j = n0) → gi (si V (5 + 6 + 3 * a) n0 x) b j = gi V b j := fun hn => by rw [gi_si, if_neg hn]
  refine LK5_put h (fun _ _ => rfl) ?_ ?_ (congrArg Int32.toNatClampNeg (nv (by omega))) (congrArg Int32.toNatClampNeg (nv (by omega))) (fun i hi => ?_) (fun t ht => by rw [gi_si, if_neg (fun z => hOB z.1.symm)]) (fun i hi => nv (by omega)) (fun b hb j => ne hb (by decide))
  · rw [ne h.1.2.1 (by decide), nv (by omega)]
    exact h.1.2.2.1
  · rw [ne h.1.2.1 (by decide), nv (by omega)]
    exact h.1.2.2.2
  · have hL := h.2.2.2.1 i hi
    refine ⟨?_, ?_, congrArg Int32.toNatClampNeg (nv (by omega)), fun j hj => ?_, fun n hn => ?_⟩
    · rw [ne hL.1.2.2.1 (by decide), show dTr (si V (5 + 6 + 3 * a) n0 x) 5 i = dTr V 5 i from nv (by omega)]; exact hL.1.2.2.2.1
    · rw [ne hL.1.2.2.1 (by decide), show dKp (si V (5 + 6 + 3 * a) n0 x) 5 i = dKp V 5 i from nv (by omega)]; exact hL.1.2.2.2.2
    · rw [gi_si, if_neg (fun z => hOR i hi z.1.symm), show dPr (si V (5 + 6 + 3 * a) n0 x) 5 i j = dPr V 5 i j from nv (by omega)]; exact hL.2.1.2.2.2 j hj
    · rw [gi_si]
      show _ = gi (si V (5 + 6 + 3 * a) n0 x) (5 + 6 + 3 * i) n
      rw [gi_si]
      by_cases e : i = a ∧ n = n0
      · rw [if_pos ⟨by rw [e.1], e.2⟩, if_pos (by omega)]
      · rw [if_neg (fun z => e ⟨hO' i a hi ha z.1, z.2⟩), if_neg (by omega)]
        exact hL.2.2.2.2.2 n hn
/-- one preferred more -/
theorem LK5_pref (h : LK P T M l A B L R O lc ld V 5 k m) (ha : a < dNl V 5) (hr : P r) (sr1 : T[r]? = some (11, pn + 1)) (hpn : dPn V 5 a = nI pn) (hp7 : pn ≤ 7) (c1 : ∀ j, j < pn → gi M r j = gi M (R a) j) (c2 : gi M r pn = x) (hL' : ∀ i j, i < dNl V 5 → j < dNl V 5 → L i = L j → i = j) : LK P T (sr M (L a) 2 (some r)) l A B L (fun i => if i = a then r else R i) O lc ld (si (si V (5 + 7 + 3 * a) pn x) (5 + 5 + 3 * a) 5 (nI (pn + 1))) 5 k m := by
  have hLa := (h.2.2.2.1 a ha).1.2.2.1
  have hk : dPk V 5 a = pn := by
    show (dPn V 5 a).toNatClampNeg = pn
    rw [hpn, nI_clamp (by omega)]
  have ne : ∀ {b j kd p : Nat}, T[b]? = some (kd, p) → kd ≠ 9 → gr (sr M (L a) 2 (some r)) b j = gr M b j := fun hb hk => by rw [gr_sr, if_neg (fun z => kne hb hLa hk z.1)]
  have nv : ∀ {b j : Nat}, ¬ (b = 5 + 7 + 3 * a ∧ j = pn) → ¬ (b = 5 + 5 + 3 * a ∧ j = 5) → gi (si (si V (5 + 7 + 3 * a) pn x) (5 + 5 + 3 * a) 5 (nI (pn + 1))) b j = gi V b j := fun h1 h2 => by rw [gi_si, if_neg h2, gi_si, if_neg h1]
  have n1 : dNl (si (si V (5 + 7 + 3 * a) pn x) (5 + 5 + 3 * a) 5 (nI (pn + 1))) 5 = dNl V 5 := congrArg Int32.toNatClampNeg (nv (by omega) (by omega))
  have n2 : dNn (si (si V (5 + 7 + 3 * a) pn x) (5 + 5 + 3 * a) 5 (nI (pn + 1))) 5 = dNn V 5 := congrArg Int32.toNatClampNeg (nv (by omega) (by omega))
  obtain ⟨⟨a1, a2, a3, a4⟩, ⟨b1, b2, b3⟩, ⟨d1, d2, d3⟩, hl, ⟨e1, e2, e3⟩, ht⟩ := h
  refine ⟨⟨a1, a2, a3.trans (nv (by omega) (by omega)).symm, a4.trans (nv (by omega) (by omega)).symm⟩, ⟨b1, (ne a2 (by decide)).trans b2, by rw [n1]; exact b3⟩, ⟨d1, (ne a2 (by decide)).trans d2, d3⟩, fun i hi => ?_, ⟨e1, fun t ht => ?_, fun i hi => ?_⟩, ?_⟩
  · rw [n1] at hi
    obtain ⟨⟨q1, q2, q3, q4, q5⟩, ⟨f1, f2, f3, f4⟩, g1, g2, g3, g4⟩ := hl i hi
    refine ⟨⟨q1, (ne b3 (by decide)).trans q2, q3, q4.trans (nv (by omega) (by omega)).symm, q5.trans (nv (by omega) (by omega)).symm⟩, ?_, g1, by rw [gr_sr, if_neg (by omega)]; exact g2, by rw [n2]; exact g3, fun n hn => (g4 n (by rw [← n2]; exact hn)).trans (nv (by omega) (by omega)).symm⟩
    by_cases ei : i = a
    · have hkk : dPk (si (si V (5 + 7 + 3 * a) pn x) (5 + 5 + 3 * a) 5 (nI (pn + 1))) 5 i = pn + 1 := by
        show (gi (si (si V (5 + 7 + 3 * a) pn x) (5 + 5 + 3 * a) 5 (nI (pn + 1))) (5 + 5 + 3 * i) 5).toNatClampNeg = pn + 1
        rw [ei, gi_si, if_pos ⟨rfl, rfl⟩, nI_clamp (by omega)]
      rw [hkk]
      dsimp only
      rw [if_pos ei, ei]
      refine ⟨hr, by rw [gr_sr, if_pos ⟨rfl, rfl⟩], sr1, fun j hj => ?_⟩
      show gi M r j = gi (si (si V (5 + 7 + 3 * a) pn x) (5 + 5 + 3 * a) 5 (nI (pn + 1))) (5 + 7 + 3 * a) j
      rw [gi_si, if_neg (by omega), gi_si]
      by_cases ej : j = pn
      · rw [if_pos ⟨rfl, ej⟩, ej]
        exact c2
      · rw [if_neg (fun z => ej z.2), c1 j (by omega)]
        have := f4 j (by rw [ei, hk]; omega)
        rw [ei] at this
        exact this
    · have hkk : dPk (si (si V (5 + 7 + 3 * a) pn x) (5 + 5 + 3 * a) 5 (nI (pn + 1))) 5 i = dPk V 5 i := congrArg Int32.toNatClampNeg (nv (by omega) (by omega))
      rw [hkk]
      dsimp only
      rw [if_neg ei]
      refine ⟨f1, by rw [gr_sr, if_neg (fun z => ei (hL' i a hi ha z.1))]; exact f2, f3, fun j hj => (f4 j hj).trans (nv (by omega) (by omega)).symm⟩
  · obtain ⟨q1, q2, q3⟩ := e2 t ht
    exact ⟨by rw [n1]; exact q1, q2, (nv (by omega) (by omega)).trans q3⟩
  · rw [n1] at hi
    rw [show dRk (si (si V (5 + 7 + 3 * a) pn x) (5 + 5 + 3 * a) 5 (nI (pn + 1))) 5 i = dRk V 5 i from nv (by omega) (by omega)]
    exact e3 i hi
  · rcases ht with ⟨t1, t2⟩ | ⟨e, t1, t2⟩
    · exact Or.inl ⟨(ne a2 (by decide)).trans t1, t2⟩
    · exact Or.inr ⟨e, (ne a2 (by decide)).trans t1, gND_17 (T := T) (M := M) (T1 := T) (M1 := sr M (L a) 2 (some r)) (fun b hb => ⟨hb, fun j => rfl, fun j => ne hb (by decide)⟩) t2⟩
/-- a weight -/
theorem LK5_term (h : LK P T M l A B L R O lc ld V 5 k m) (hN : gND P T M k' 3 e 0 m') : LK P T (sr M l 4 (some e)) l A B L R O lc ld V 5 k' m' := by
  have ne : ∀ {b j kd p : Nat}, T[b]? = some (kd, p) → kd ≠ 16 → gr (sr M l 4 (some e)) b j = gr M b j := fun hb hk => by rw [gr_sr, if_neg (fun z => kne hb h.1.2.1 hk z.1)]
  obtain ⟨⟨a1, a2, a3, a4⟩, ⟨b1, b2, b3⟩, ⟨d1, d2, d3⟩, hl, hd, ht⟩ := h
  refine ⟨⟨a1, a2, a3, a4⟩, ⟨b1, by rw [gr_sr, if_neg (by omega)]; exact b2, b3⟩, ⟨d1, by rw [gr_sr, if_neg (by omega)]; exact d2, d3⟩, fun i hi => ?_, hd, Or.inr ⟨e, by rw [gr_sr, if_pos ⟨rfl, rfl⟩], gND_17 (T := T) (M := M) (T1 := T) (M1 := sr M l 4 (some e)) (fun b hb => ⟨hb, fun j => rfl, fun j => ne hb (by decide)⟩) hN⟩⟩
  obtain ⟨⟨q1, q2, q3, q4, q5⟩, ⟨f1, f2, f3, f4⟩, g1, g2, g3, g4⟩ := hl i hi
  exact ⟨⟨q1, (ne b3 (by decide)).trans q2, q3, q4, q5⟩, ⟨f1, (ne q3 (by decide)).trans f2, f3, f4⟩, g1, (ne q3 (by decide)).trans g2, g3, g4⟩
end PL5
