/-! A LINKER CHANGED IN PLACE -/
theorem gND_17 {P : Nat → Prop} {T T1 : gT} {M M1 : gM} {k : Nat → Nat × Nat} (hn : ∀ b, T[b]? = some (17, 0) → T1[b]? = some (17, 0) ∧ (∀ j, gi M1 b j = gi M b j) ∧ ∀ j, gr M1 b j = gr M b j) : ∀ {d e s t : Nat}, gND P T M k d e s t → gND P T1 M1 k d e s t
  | 0, _, _, _ => fun h => h.elim
  | d + 1, e, s, t => fun ⟨hp, hs, h⟩ => by
    obtain ⟨k1, k2, k3⟩ := hn e hs
    refine ⟨hp, k1, ?_⟩
    rcases h with ⟨h1, h2, h3, h4⟩ | ⟨f, g, u, v, h1, h2, h3, h4, h5, h6, h7, h8⟩
    · exact Or.inl ⟨h1, h2, (k2 0).trans h3, (k2 1).trans h4⟩
    · exact Or.inr ⟨f, g, u, v, h1, h2, h3, (k2 0).trans h4, (k3 2).trans h5, (k3 3).trans h6, gND_17 hn h7, gND_17 hn h8⟩
section PPU
variable {P : Nat → Prop} {T T1 : gT} {M M1 V V1 : gM} {l A B : Nat} {L R O : Nat → Nat} {lc : Nat} {ld : Nat → Nat} {k : Nat → Nat × Nat} {m a n0 : Nat} {x : Int32}
theorem LK_put (h : LK P T M l A B L R O lc ld V 37 k m) (hgr : ∀ b j, gr M1 b j = gr M b j) (e0 : gi M1 l 0 = gi V1 37 2) (e1 : gi M1 l 1 = gi V1 37 3) (n1 : dNl V1 37 = dNl V 37) (n2 : dNn V1 37 = dNn V 37) (lib : ∀ i, i < dNl V 37 → gi M1 (L i) 0 = dTr V1 37 i ∧ gi M1 (L i) 1 = dKp V1 37 i ∧ dPk V1 37 i = dPk V 37 i ∧ (∀ j, j < dPk V 37 i → gi M1 (R i) j = dPr V1 37 i j) ∧ ∀ n, n < dNn V 37 → gi M1 (O i) n = dOf V1 37 i n) (row : ∀ t, t < lc → gi M1 B t = gi M B t) (rk : ∀ i, i < dNl V 37 → dRk V1 37 i = dRk V 37 i) (nd : ∀ b, T[b]? = some (17, 0) → ∀ j, gi M1 b j = gi M b j) : LK P T M1 l A B L R O lc ld V1 37 k m := by
  obtain ⟨⟨a1, a2, a3, a4⟩, ⟨b1, b2, b3⟩, ⟨c1, c2, c3⟩, hl, ⟨d1, d2, d3⟩, ht⟩ := h
  refine ⟨⟨a1, a2, e0, e1⟩, ⟨b1, (hgr _ _).trans b2, by rw [n1]; exact b3⟩, ⟨c1, (hgr _ _).trans c2, c3⟩, fun i hi => ?_, ⟨d1, fun t ht => ?_, fun i hi => ?_⟩, ?_⟩
  · rw [n1] at hi
    obtain ⟨⟨e1, e2, e3, e4, e5⟩, ⟨f1, f2, f3, f4⟩, g1, g2, g3, g4⟩ := hl i hi
    obtain ⟨q1, q2, q3, q4, q5⟩ := lib i hi
    exact ⟨⟨e1, (hgr _ _).trans e2, e3, q1, q2⟩, ⟨f1, (hgr _ _).trans f2, by rw [q3]; exact f3, fun j hj => q4 j (by rw [← q3]; exact hj)⟩, g1, (hgr _ _).trans g2, by rw [n2]; exact g3, fun n hn => q5 n (by rw [← n2]; exact hn)⟩
  · obtain ⟨q1, q2, q3⟩ := d2 t ht
    exact ⟨by rw [n1]; exact q1, (row t ht).trans q2, by rw [rk _ q1]; exact q3⟩
  · rw [n1] at hi
    rw [rk i hi]
    exact d3 i hi
  · rcases ht with ⟨t1, t2⟩ | ⟨e, t1, t2⟩
    · exact Or.inl ⟨(hgr _ _).trans t1, t2⟩
    · exact Or.inr ⟨e, (hgr _ _).trans t1, gND_17 (fun b hb => ⟨hb, nd b hb, fun j => hgr b j⟩) t2⟩
theorem kne {b c kd kc p q : Nat} (hb : T[b]? = some (kd, p)) (hc : T[c]? = some (kc, q)) (h : kd ≠ kc) : b ≠ c := fun e => by
  rw [e, hc] at hb
  exact h (by cases hb; rfl)
theorem LK_share (h : LK P T M l A B L R O lc ld V 37 k m) : LK P T (si M l 1 x) l A B L R O lc ld (si V 37 3 x) 37 k m := by
  have ne : ∀ {b j kd p : Nat}, T[b]? = some (kd, p) → kd ≠ 16 → gi (si M l 1 x) b j = gi M b j := fun hb hk => by rw [gi_si, if_neg (fun q => kne hb h.1.2.1 hk q.1)]
  have nv : ∀ {b j : Nat}, ¬ (b = 37 ∧ j = 3) → gi (si V 37 3 x) b j = gi V b j := fun hn => by rw [gi_si, if_neg hn]
  refine LK_put h (fun _ _ => rfl) ?_ ?_ (congrArg Int32.toNatClampNeg (nv (by omega))) (congrArg Int32.toNatClampNeg (nv (by omega))) (fun i hi => ?_) (fun t ht => ne h.2.2.1.2.2 (by decide)) (fun i hi => nv (by omega)) (fun b hb j => ne hb (by decide))
  · rw [gi_si, if_neg (by omega), nv (by omega)]
    exact h.1.2.2.1
  · rw [gi_si, if_pos ⟨rfl, rfl⟩, gi_si, if_pos ⟨rfl, rfl⟩]
  · have hL := h.2.2.2.1 i hi
    refine ⟨?_, ?_, congrArg Int32.toNatClampNeg (nv (by omega)), fun j hj => ?_, fun n hn => ?_⟩
    · rw [ne hL.1.2.2.1 (by decide), show dTr (si V 37 3 x) 37 i = dTr V 37 i from nv (by omega)]; exact hL.1.2.2.2.1
    · rw [ne hL.1.2.2.1 (by decide), show dKp (si V 37 3 x) 37 i = dKp V 37 i from nv (by omega)]; exact hL.1.2.2.2.2
    · rw [ne hL.2.1.2.2.1 (by decide), show dPr (si V 37 3 x) 37 i j = dPr V 37 i j from nv (by omega)]; exact hL.2.1.2.2.2 j hj
    · rw [ne hL.2.2.2.2.1 (by decide), show dOf (si V 37 3 x) 37 i n = dOf V 37 i n from nv (by omega)]; exact hL.2.2.2.2.2 n hn
/-- a library's trust (place 0) or keeps (place 1) -/
theorem LK_libp {q : Nat} (hq : q = 0 ∨ q = 1) (h : LK P T M l A B L R O lc ld V 37 k m) (ha : a < dNl V 37) (hL' : ∀ i j, i < dNl V 37 → j < dNl V 37 → L i = L j → i = j) : LK P T (si M (L a) q x) l A B L R O lc ld (si V (37 + 5 + 3 * a) q x) 37 k m := by
  have hLa := (h.2.2.2.1 a ha).1.2.2.1
  have ne : ∀ {b j kd p : Nat}, T[b]? = some (kd, p) → kd ≠ 9 → gi (si M (L a) q x) b j = gi M b j := fun hb hk => by rw [gi_si, if_neg (fun z => kne hb hLa hk z.1)]
  have nv : ∀ {b j : Nat}, ¬ (b = 37 + 5 + 3 * a ∧ j = q) → gi (si V (37 + 5 + 3 * a) q x) b j = gi V b j := fun hn => by rw [gi_si, if_neg hn]
  have pl : ∀ i, i < dNl V 37 → ∀ j, gi (si M (L a) q x) (L i) j = if i = a ∧ j = q then x else gi M (L i) j := fun i hi j => by
    rw [gi_si]
    by_cases e : i = a
    · rw [e]
      by_cases e2 : j = q
      · rw [if_pos ⟨rfl, e2⟩, if_pos ⟨rfl, e2⟩]
      · rw [if_neg (fun z => e2 z.2), if_neg (fun z => e2 z.2)]
    · rw [if_neg (fun z => e (hL' i a hi ha z.1)), if_neg (fun z => e z.1)]
  have pv : ∀ i j, gi (si V (37 + 5 + 3 * a) q x) (37 + 5 + 3 * i) j = if i = a ∧ j = q then x else gi V (37 + 5 + 3 * i) j := fun i j => by
    rw [gi_si]
    by_cases e : i = a ∧ j = q
    · rw [if_pos (by omega), if_pos e]
    · rw [if_neg (by omega), if_neg e]
  refine LK_put h (fun _ _ => rfl) ?_ ?_ (congrArg Int32.toNatClampNeg (nv (by omega))) (congrArg Int32.toNatClampNeg (nv (by omega))) (fun i hi => ?_) (fun t ht => ne h.2.2.1.2.2 (by decide)) (fun i hi => nv (by omega)) (fun b hb j => ne hb (by decide))
  · rw [ne h.1.2.1 (by decide), nv (by omega)]
    exact h.1.2.2.1
  · rw [ne h.1.2.1 (by decide), nv (by omega)]
    exact h.1.2.2.2
  · have hL := h.2.2.2.1 i hi
    refine ⟨?_, ?_, congrArg Int32.toNatClampNeg (nv (by omega)), fun j hj => ?_, fun n hn => ?_⟩
    · rw [pl i hi, show dTr (si V (37 + 5 + 3 * a) q x) 37 i = _ from pv i 0, hL.1.2.2.2.1]
    · rw [pl i hi, show dKp (si V (37 + 5 + 3 * a) q x) 37 i = _ from pv i 1, hL.1.2.2.2.2]
    · rw [ne hL.2.1.2.2.1 (by decide), show dPr (si V (37 + 5 + 3 * a) q x) 37 i j = dPr V 37 i j from nv (by omega)]; exact hL.2.1.2.2.2 j hj
    · rw [ne hL.2.2.2.2.1 (by decide), show dOf (si V (37 + 5 + 3 * a) q x) 37 i n = dOf V 37 i n from nv (by omega)]; exact hL.2.2.2.2.2 n hn
theorem LK_offp (h : LK P T M l A B L R O lc ld V 37 k m) (ha : a < dNl V 37) (hO' : ∀ i j, i < dNl V 37 → j < dNl V 37 → O i = O j → i = j) (hOR : ∀ i, i < dNl V 37 → O a ≠ R i) (hOB : O a ≠ B) : LK P T (si M (O a) n0 x) l A B L R O lc ld (si V (37 + 6 + 3 * a) n0 x) 37 k m := by
  have hOa := (h.2.2.2.1 a ha).2.2.2.2.1
  have ne : ∀ {b j kd p : Nat}, T[b]? = some (kd, p) → kd ≠ 11 → gi (si M (O a) n0 x) b j = gi M b j := fun hb hk => by rw [gi_si, if_neg (fun z => kne hb hOa hk z.1)]
  have nv : ∀ {b j : Nat}, ¬ (b = 37 + 6 + 3 * a ∧ j = n0) → gi (si V (37 + 6 + 3 * a) n0 x) b j = gi V b j := fun hn => by rw [gi_si, if_neg hn]
  refine LK_put h (fun _ _ => rfl) ?_ ?_ (congrArg Int32.toNatClampNeg (nv (by omega))) (congrArg Int32.toNatClampNeg (nv (by omega))) (fun i hi => ?_) (fun t ht => by rw [gi_si, if_neg (fun z => hOB z.1.symm)]) (fun i hi => nv (by omega)) (fun b hb j => ne hb (by decide))
  · rw [ne h.1.2.1 (by decide), nv (by omega)]
    exact h.1.2.2.1
  · rw [ne h.1.2.1 (by decide), nv (by omega)]
    exact h.1.2.2.2
  · have hL := h.2.2.2.1 i hi
    refine ⟨?_, ?_, congrArg Int32.toNatClampNeg (nv (by omega)), fun j hj => ?_, fun n hn => ?_⟩
    · rw [ne hL.1.2.2.1 (by decide), show dTr (si V (37 + 6 + 3 * a) n0 x) 37 i = dTr V 37 i from nv (by omega)]; exact hL.1.2.2.2.1
    · rw [ne hL.1.2.2.1 (by decide), show dKp (si V (37 + 6 + 3 * a) n0 x) 37 i = dKp V 37 i from nv (by omega)]; exact hL.1.2.2.2.2
    · rw [gi_si, if_neg (fun z => hOR i hi z.1.symm), show dPr (si V (37 + 6 + 3 * a) n0 x) 37 i j = dPr V 37 i j from nv (by omega)]; exact hL.2.1.2.2.2 j hj
    · rw [gi_si]
      show _ = gi (si V (37 + 6 + 3 * a) n0 x) (37 + 6 + 3 * i) n
      rw [gi_si]
      by_cases e : i = a ∧ n = n0
      · rw [if_pos ⟨by rw [e.1], e.2⟩, if_pos (by omega)]
      · rw [if_neg (fun z => e ⟨hO' i a hi ha z.1, z.2⟩), if_neg (by omega)]
        exact hL.2.2.2.2.2 n hn
end PPU
