/-! A LINKER OF THE LAW and the data that it holds. V, D: data (a memory, the class's or another one, and the place of a Data there), k, m: the weight's code; a: the linker, A: its libraries, B: its row of loaded ones; L, R, O: a library, its row of preferred ones, its offers. P: where all of it lies. -/
def gND (P : Nat → Prop) (T : gT) (M : gM) (k : Nat → Nat × Nat) : Nat → Nat → Nat → Nat → Prop
  | 0, _, _, _ => False
  | d + 1, e, s, t => P e ∧ T[e]? = some (17, 0) ∧ ((t = s + 1 ∧ (k s).1 < 2 ∧ gi M e 0 = nI (k s).1 ∧ gi M e 1 = nI (k s).2) ∨ ∃ f g u v, t = v + 1 ∧ 2 ≤ (k v).1 ∧ (k v).1 ≤ 5 ∧ gi M e 0 = nI (k v).1 ∧ gr M e 2 = some f ∧ gr M e 3 = some g ∧ gND P T M k d f s u ∧ gND P T M k d g u v)
def tK (P : Nat → Prop) (T : gT) (M : gM) (a : Nat) (k : Nat → Nat × Nat) (m : Nat) : Prop := (gr M a 4 = none ∧ m = 1 ∧ k 0 = (1, 0)) ∨ ∃ e, gr M a 4 = some e ∧ gND P T M k 3 e 0 m
def LK (P : Nat → Prop) (T : gT) (M : gM) (a A B : Nat) (L R O : Nat → Nat) (lc : Nat) (ld : Nat → Nat) (V : gM) (D : Nat) (k : Nat → Nat × Nat) (m : Nat) : Prop :=
  (P a ∧ T[a]? = some (16, 0) ∧ gi M a 0 = gi V D 2 ∧ gi M a 1 = gi V D 3) ∧ (P A ∧ gr M a 2 = some A ∧ T[A]? = some (21, dNl V D)) ∧ (P B ∧ gr M a 3 = some B ∧ T[B]? = some (11, lc)) ∧
  (∀ i, i < dNl V D → (P (L i) ∧ gr M A i = some (L i) ∧ T[L i]? = some (9, 0) ∧ gi M (L i) 0 = dTr V D i ∧ gi M (L i) 1 = dKp V D i) ∧ (P (R i) ∧ gr M (L i) 2 = some (R i) ∧ T[R i]? = some (11, dPk V D i) ∧ ∀ j, j < dPk V D i → gi M (R i) j = dPr V D i j) ∧ (P (O i) ∧ gr M (L i) 3 = some (O i) ∧ T[O i]? = some (11, dNn V D) ∧ ∀ n, n < dNn V D → gi M (O i) n = dOf V D i n)) ∧
  (lc ≤ 8 ∧ (∀ t, t < lc → ld t < dNl V D ∧ gi M B t = nI (ld t) ∧ dRk V D (ld t) = nI t) ∧ ∀ i, i < dNl V D → dRk V D i = -1 ∨ ∃ t, t < lc ∧ ld t = i) ∧ tK P T M a k m
/-- what stands of it in another memory -/
def gKe (P : Nat → Prop) (T : gT) (M : gM) (T1 : gT) (M1 : gM) : Prop := ∀ b, P b → (∀ x, T[b]? = some x → T1[b]? = some x ∧ (∀ j, gi M1 b j = gi M b j) ∧ ∀ j, gr M1 b j = gr M b j)
section PLK
variable {P : Nat → Prop} {T T1 : gT} {M M1 V V1 : gM} {a A B : Nat} {L R O : Nat → Nat} {lc : Nat} {ld : Nat → Nat} {D D1 : Nat} {k : Nat → Nat × Nat} {m c i n : Nat}
theorem gKe_To (h : gTo T M T1 M1 c) : gKe P T M T1 M1 := fun b _ x hx => ⟨gTo_sh h hx, gTo_gi h hx, gTo_gr h hx⟩
theorem gND_ke (hK : gKe P T M T1 M1) : ∀ {d e s t : Nat}, gND P T M k d e s t → gND P T1 M1 k d e s t
  | 0, _, _, _ => fun h => h.elim
  | d + 1, e, s, t => fun ⟨hp, hs, h⟩ => by
    obtain ⟨k1, k2, k3⟩ := hK e hp _ hs
    refine ⟨hp, k1, ?_⟩
    rcases h with ⟨h1, h2, h3, h4⟩ | ⟨f, g, u, v, h1, h2, h3, h4, h5, h6, h7, h8⟩
    · exact Or.inl ⟨h1, h2, (k2 0).trans h3, (k2 1).trans h4⟩
    · exact Or.inr ⟨f, g, u, v, h1, h2, h3, (k2 0).trans h4, (k3 2).trans h5, (k3 3).trans h6, gND_ke hK h7, gND_ke hK h8⟩
theorem tK_ke (hK : gKe P T M T1 M1) (hr : gr M1 a 4 = gr M a 4) (h : tK P T M a k m) : tK P T1 M1 a k m := by
  rcases h with ⟨h1, h2⟩ | ⟨e, h1, h2⟩
  · exact Or.inl ⟨hr.trans h1, h2⟩
  · exact Or.inr ⟨e, hr.trans h1, gND_ke hK h2⟩
theorem LK_ke (hK : gKe P T M T1 M1) (h : LK P T M a A B L R O lc ld V D k m) : LK P T1 M1 a A B L R O lc ld V D k m := by
  obtain ⟨⟨a1, a2, a3, a4⟩, ⟨b1, b2, b3⟩, ⟨c1, c2, c3⟩, hl, ⟨d1, d2, d3⟩, ht⟩ := h
  obtain ⟨ka, kb, kc⟩ := hK a a1 _ a2
  obtain ⟨kA, -, kAr⟩ := hK A b1 _ b3
  obtain ⟨kB, kBi, -⟩ := hK B c1 _ c3
  refine ⟨⟨a1, ka, (kb 0).trans a3, (kb 1).trans a4⟩, ⟨b1, (kc 2).trans b2, kA⟩, ⟨c1, (kc 3).trans c2, kB⟩, fun i hi => ?_, ⟨d1, fun t ht => ⟨(d2 t ht).1, (kBi t).trans (d2 t ht).2.1, (d2 t ht).2.2⟩, d3⟩, tK_ke hK (kc 4) ht⟩
  obtain ⟨⟨e1, e2, e3, e4, e5⟩, ⟨f1, f2, f3, f4⟩, g1, g2, g3, g4⟩ := hl i hi
  obtain ⟨l1, l2, l3⟩ := hK (L i) e1 _ e3
  obtain ⟨r1, r2, -⟩ := hK (R i) f1 _ f3
  obtain ⟨o1, o2, -⟩ := hK (O i) g1 _ g3
  exact ⟨⟨e1, (kAr i).trans e2, l1, (l2 0).trans e4, (l2 1).trans e5⟩, ⟨f1, (l3 2).trans f2, r1, fun j hj => (r2 j).trans (f4 j hj)⟩, g1, (l3 3).trans g2, o1, fun n hn => (o2 n).trans (g4 n hn)⟩
theorem LK_to (hK : gTo T M T1 M1 c) (h : LK P T M a A B L R O lc ld V D k m) : LK P T1 M1 a A B L R O lc ld V D k m := LK_ke (gKe_To hK) h
/-- the data lie elsewhere -/
theorem LK_same (hV : gVal T V D) (hd : dSame V1 D1 V D) (h : LK P T1 M a A B L R O lc ld V D k m) : LK P T1 M a A B L R O lc ld V1 D1 k m := by
  have e1 := dNl_same hd
  have e2 := dNn_same hd
  have h8 := hV.2.1
  have h12 := hV.2.2.1
  obtain ⟨⟨a1, a2, a3, a4⟩, ⟨b1, b2, b3⟩, ⟨c1, c2, c3⟩, hl, ⟨d1, d2, d3⟩, ht⟩ := h
  refine ⟨⟨a1, a2, a3.trans (hd.hd (Or.inr (Or.inl rfl))).symm, a4.trans (hd.hd (Or.inr (Or.inr rfl))).symm⟩, ⟨b1, b2, by rw [e1]; exact b3⟩, ⟨c1, c2, c3⟩, fun i hi => ?_, ⟨d1, fun t ht => ?_, fun i hi => ?_⟩, ht⟩
  · rw [e1] at hi
    have hi8 : i < 8 := by omega
    obtain ⟨⟨e1, e2', e3, e4, e5⟩, ⟨f1, f2, f3, f4⟩, g1, g2, g3, g4⟩ := hl i hi
    have hpk := (hV.2.2.2.2.2 i hi).2.2.2.1.2
    refine ⟨⟨e1, e2', e3, by rw [dTr_same hd hi8]; exact e4, by rw [dKp_same hd hi8]; exact e5⟩, ⟨f1, f2, by rw [dPk_same hd hi8]; exact f3, fun j hj => ?_⟩, g1, g2, by rw [e2]; exact g3, fun n hn => ?_⟩
    · rw [dPk_same hd hi8] at hj
      rw [show dPr V1 D1 i j = dPr V D i j from hd.prf hi8 (by omega)]
      exact f4 j hj
    · rw [e2] at hn
      rw [show dOf V1 D1 i n = dOf V D i n from hd.off hi8 (by omega)]
      exact g4 n hn
  · obtain ⟨q1, q2, q3⟩ := d2 t ht
    exact ⟨by rw [e1]; exact q1, q2, by rw [dRk_same hd (by omega)]; exact q3⟩
  · rw [e1] at hi
    rw [dRk_same hd (by omega)]
    exact d3 i hi
/-- the parts of it, as reads -/
theorem LK_all (h : LK P T M a A B L R O lc ld V D k m) : ldr T M a 2 21 = some A := ldr_ok h.2.1.2.1 h.2.1.2.2
theorem LK_row (h : LK P T M a A B L R O lc ld V D k m) : ldr T M a 3 11 = some B := ldr_ok h.2.2.1.2.1 h.2.2.1.2.2
theorem LK_lib (h8 : dNl V D ≤ 8) (h : LK P T M a A B L R O lc ld V D k m) (hi : i < dNl V D) : aldr T M A (nI i) 9 = some (L i) := aldr_ok h.2.1.2.2 hi (by omega) (h.2.2.2.1 i hi).1.2.1 (h.2.2.2.1 i hi).1.2.2.1
theorem LK_prf (h : LK P T M a A B L R O lc ld V D k m) (hi : i < dNl V D) : ldr T M (L i) 2 11 = some (R i) := ldr_ok (h.2.2.2.1 i hi).2.1.2.1 (h.2.2.2.1 i hi).2.1.2.2.1
theorem LK_off (h : LK P T M a A B L R O lc ld V D k m) (hi : i < dNl V D) : ldr T M (L i) 3 11 = some (O i) := ldr_ok (h.2.2.2.1 i hi).2.2.2.1 (h.2.2.2.1 i hi).2.2.2.2.1
theorem LK_ld (h : LK P T M a A B L R O lc ld V D k m) {t : Nat} (ht : t < lc) : ald T M B (nI t) = some (nI (ld t)) := by
  have := h.2.2.2.2.1.1
  rw [ald_ok h.2.2.1.2.2 ht (by omega), (h.2.2.2.2.1.2.1 t ht).2.1]
theorem LK_al (h : LK P T M a A B L R O lc ld V D k m) : alen T B = lc := alen_of h.2.2.1.2.2
theorem LK_kd (h : LK P T M a A B L R O lc ld V D k m) : gkd T a 16 = some () := gkd_ok h.1.2.1
theorem LK_kB (h : LK P T M a A B L R O lc ld V D k m) : gkd T B 11 = some () := gkd_ok h.2.2.1.2.2
theorem LK_n (hV : gVal T1 V D) (h : LK P T M a A B L R O lc ld V D k m) : gi M a 0 = nI (dNn V D) := h.1.2.2.1.trans hV.2.2.2.2.1
theorem LK_rk (h : LK P T M a A B L R O lc ld V D k m) {s t : Nat} (hs : s < lc) (ht : t < lc) (e : ld s = ld t) : s = t := by
  have := h.2.2.2.2.1.1
  have e1 := (h.2.2.2.2.1.2.1 s hs).2.2
  have e2 := (h.2.2.2.2.1.2.1 t ht).2.2
  rw [e, e2] at e1
  exact ((nI_eq (by omega) (by omega)).mp e1).symm
end PLK
