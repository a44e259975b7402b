/-! COPIES OF A LINKER -/
theorem gclone_ok {T : gT} {M : gM} {a n : Nat} (hT : T[a]? = some (11, n)) (h : T.length < 900000) : gclone T M a 11 = some (T.length, T ++ [(11, n)], gcl M a T.length) := by
  unfold gclone
  rw [if_pos ⟨h, Or.inl rfl⟩, alen_of hT]
theorem gTo_cl {T : gT} {M : gM} {a n : Nat} : gTo T M (T ++ [(11, n)]) (gcl M a T.length) 1 := ⟨gpush_ext, fun b hb => ⟨fun j => by rw [gi_gcl, if_neg (by omega)], fun j => by rw [gl_gcl, if_neg (by omega)], fun j => by rw [gr_gcl, if_neg (by omega)]⟩, by rw [List.length_append]; rfl⟩
theorem len_1 {T : gT} {x : Nat × Nat} : (T ++ [x]).length = T.length + 1 := by rw [List.length_append]; rfl
theorem p_lcopy {T : gT} {M : gM} {x r o p q : Nat} (hx : T[x]? = some (9, 0)) (hk : gi M x 1 = 0 ∨ gi M x 1 = 1) (hr : gr M x 2 = some r) (sr' : T[r]? = some (11, p)) (ho : gr M x 3 = some o) (so : T[o]? = some (11, q)) (hT : T.length + 3 ≤ 900000) : ∃ T' M' c s, f_X9_copy T M x = some ((T.length, T', M'), c, s) ∧ c = 3 ∧ s = 4 + q ∧ gTo T M T' M' 3 ∧ T'[T.length]? = some (9, 0) ∧ gi M' T.length 0 = gi M x 0 ∧ gi M' T.length 1 = gi M x 1 ∧ gr M' T.length 2 = some r ∧ gr M' T.length 3 = some (T.length + 2) ∧ T'[T.length + 2]? = some (11, q) ∧ ∀ n, gi M' (T.length + 2) n = gi M o n := by
  have lx := sh_lt hx
  have lr := sh_lt sr'
  have lo := sh_lt so
  have g1 : gTo T M (T ++ [(9, 0)]) (zr M T.length) 1 := gTo_new
  have s1 : (T ++ [(9, 0)])[T.length]? = some (9, 0) := sh_new
  have l1 : (T ++ [(9, 0)]).length = T.length + 1 := len_1
  unfold f_X9_copy f_X9_init
  rw [gnew_ok (by omega), Option.bind_some]
  dsimp only
  generalize hT1 : T ++ [(9, 0)] = T1 at g1 s1 l1 ⊢
  have g2 : gTo T1 (zr M T.length) (T1 ++ [(11, 0)]) (zr (zr M T.length) T1.length) 1 := gTo_new
  have l2 : (T1 ++ [(11, 0)]).length = T.length + 2 := by rw [len_1, l1]
  rw [gnew_ok (by omega), Option.bind_some, cadd_some, Option.bind_some]
  dsimp only
  generalize hT2 : T1 ++ [(11, 0)] = T2 at g2 l2 ⊢
  have G2 := gTo_sr (a := T.length) (k := 2) (x := some T1.length) (gTo_tr g1 g2) (Nat.le_refl _)
  generalize hM2 : sr (zr (zr M T.length) T1.length) T.length 2 (some T1.length) = M2 at G2 ⊢
  have e0 : gi M2 x 0 = gi M x 0 := gTo_gi G2 hx 0
  have G3 := gTo_si (a := T.length) (k := 0) (x := gi M2 x 0) G2 (Nat.le_refl _)
  have e1 : gi (si M2 T.length 0 (gi M2 x 0)) x 1 = gi M x 1 := gTo_gi G3 hx 1
  rw [e0] at G3 e1 ⊢
  rw [e1, chk_ok hk, Option.bind_some]
  have G4 := gTo_si (a := T.length) (k := 1) (x := gi M x 1) G3 (Nat.le_refl _)
  rw [ldr_ok ((gTo_gr G4 hx 2).trans hr) (gTo_sh G4 sr'), Option.bind_some]
  have G5 := gTo_sr (a := T.length) (k := 2) (x := some r) G4 (Nat.le_refl _)
  rw [ldr_ok ((gTo_gr G5 hx 3).trans ho) (gTo_sh G5 so), Option.bind_some, gclone_ok (gTo_sh G5 so) (by omega), Option.bind_some, alen_of (gTo_sh G5 so)]
  have G6 : gTo T M (T2 ++ [(11, q)]) _ (1 + 1 + 1) := gTo_tr G5 (gTo_cl (a := o) (n := q))
  have G7 := gTo_sr (a := T.length) (k := 3) (x := some T2.length) G6 (Nat.le_refl _)
  rw [cadd_some, cadd_some, cadd_some]
  have ne : T.length ≠ T2.length := by omega
  refine ⟨_, _, _, _, rfl, rfl, by omega, G7, ?_, ?_, ?_, ?_, ?_, ?_, fun n => ?_⟩
  · rw [List.getElem?_append_left (by omega)]
    exact gTo_sh g2 s1
  · rw [gi_sr, gi_gcl, if_neg ne, gi_sr, gi_si, if_neg (by omega), gi_si, if_pos ⟨rfl, rfl⟩]
  · rw [gi_sr, gi_gcl, if_neg ne, gi_sr, gi_si, if_pos ⟨rfl, rfl⟩]
  · rw [gr_sr, if_neg (by omega), gr_gcl, if_neg ne, gr_sr, if_pos ⟨rfl, rfl⟩]
  · rw [gr_sr, if_pos ⟨rfl, rfl⟩, l2]
  · rw [show T.length + 2 = T2.length by omega]
    exact sh_new
  · rw [gi_sr, gi_gcl, if_pos (by omega)]
    exact gTo_gi G5 so n
theorem gTo_c {T T1 : gT} {M M1 : gM} {c c1 : Nat} (h : gTo T M T1 M1 c) (e : c = c1) : gTo T M T1 M1 c1 := e ▸ h
section PCY
variable {P P' : Nat → Prop} {T T0 T1 : gT} {M M1 V : gM} {a A B : Nat} {L R O : Nat → Nat} {lc : Nat} {ld : Nat → Nat} {D : Nat} {k : Nat → Nat × Nat} {m c i n : Nat}
theorem gND_P (hP : ∀ b, P b → T[b]? = some (17, 0) → P' b) : ∀ {d e s t : Nat}, gND P T M k d e s t → gND P' T M k d e s t
  | 0, _, _, _ => fun h => h.elim
  | d + 1, e, s, t => fun ⟨hp, hs, h⟩ => ⟨hP e hp hs, hs, by
    rcases h with h | ⟨f, g, u, v, h1, h2, h3, h4, h5, h6, h7, h8⟩
    · exact Or.inl h
    · exact Or.inr ⟨f, g, u, v, h1, h2, h3, h4, h5, h6, gND_P hP h7, gND_P hP h8⟩⟩
theorem tK_P (hP : ∀ b, P b → T[b]? = some (17, 0) → P' b) (h : tK P T M a k m) : tK P' T M a k m := by
  rcases h with h | ⟨e, h1, h2⟩
  · exact Or.inl h
  · exact Or.inr ⟨e, h1, gND_P hP h2⟩
/-- what copies share may lie at: the rows of preferred and of loaded ones, the nodes -/
theorem p_copy (hV : gVal T0 V D) (h : LK P T M a A B L R O lc ld V D k m) (hl : dNl V D ≤ 5) (h4 : dNn V D ≤ 4) (hT : T.length + 19 ≤ 900000) (q1 : ∀ b, T.length ≤ b → b < T.length + 19 → P' b) (q2 : P' B) (q3 : ∀ i, i < dNl V D → P' (R i)) (q4 : ∀ b, P b → T[b]? = some (17, 0) → P' b) : cR T M (f_X10_copy T M a) 19 50 (fun v T' M' => v = T.length ∧ ∃ A' L' O', LK P' T' M' v A' B L' R O' lc ld V D k m) := by
  have h8 := hV.2.1
  have la := sh_lt h.1.2.1
  have g1 : gTo T M (T ++ [(16, 0)]) (zr M T.length) 1 := gTo_new
  have s1 : (T ++ [(16, 0)])[T.length]? = some (16, 0) := sh_new
  have l1 : (T ++ [(16, 0)]).length = T.length + 1 := len_1
  unfold f_X10_copy f_X10_init
  rw [gnew_ok (by omega), Option.bind_some]
  dsimp only
  generalize hT1 : T ++ [(16, 0)] = T1 at g1 s1 l1 ⊢
  have g1' := gTo_si (a := T.length) (k := 1) (x := (50 : Int32)) g1 (Nat.le_refl _)
  generalize hM1 : si (zr M T.length) T.length 1 (50 : Int32) = M1 at g1' ⊢
  have r1 : gr M1 T.length 4 = none := by
    rw [← hM1, gr_si, gr_zr, if_pos rfl]
  have l2 : (T1 ++ [(21, 0)]).length = T.length + 2 := by rw [len_1, l1]
  rw [gnew_ok (by omega), Option.bind_some]
  dsimp only
  have g2 : gTo T M (T1 ++ [(21, 0)]) (zr M1 T1.length) (1 + 1) := gTo_tr g1' gTo_new
  have s2 : (T1 ++ [(21, 0)])[T.length]? = some (16, 0) := by rw [List.getElem?_append_left (by omega)]; exact s1
  have g2' := gTo_sr (a := T.length) (k := 2) (x := some T1.length) g2 (Nat.le_refl _)
  generalize hT2 : T1 ++ [(21, 0)] = T2 at g2 g2' s2 l2 ⊢
  generalize hM2 : sr (zr M1 T1.length) T.length 2 (some T1.length) = M2 at g2' ⊢
  have l3 : (T2 ++ [(11, 0)]).length = T.length + 3 := by rw [len_1, l2]
  rw [gnew_ok (by omega), Option.bind_some]
  dsimp only
  have g3 : gTo T M (T2 ++ [(11, 0)]) (zr M2 T2.length) (1 + 1 + 1) := gTo_tr g2' gTo_new
  have s3 : (T2 ++ [(11, 0)])[T.length]? = some (16, 0) := by rw [List.getElem?_append_left (by omega)]; exact s2
  have g3' := gTo_sr (a := T.length) (k := 3) (x := some T2.length) g3 (Nat.le_refl _)
  generalize hT3 : T2 ++ [(11, 0)] = T3 at g3 g3' s3 l3 ⊢
  generalize hM3 : sr (zr M2 T2.length) T.length 3 (some T2.length) = M3 at g3' ⊢
  rw [cadd_some, cadd_some, Option.bind_some]
  dsimp only
  have e0 : gi M3 a 0 = gi M a 0 := gTo_gi g3' h.1.2.1 0
  have g4 := gTo_si (a := T.length) (k := 0) (x := gi M a 0) g3' (Nat.le_refl _)
  rw [e0]
  have e1 : gi (si M3 T.length 0 (gi M a 0)) a 1 = gi M a 1 := gTo_gi g4 h.1.2.1 1
  rw [e1]
  have g5 := gTo_si (a := T.length) (k := 1) (x := gi M a 1) g4 (Nat.le_refl _)
  generalize hM5 : si (si M3 T.length 0 (gi M a 0)) T.length 1 (gi M a 1) = M5 at g5 ⊢
  have i5 : gi M5 T.length 0 = gi M a 0 ∧ gi M5 T.length 1 = gi M a 1 := by
    rw [← hM5]
    exact ⟨by rw [gi_si, if_neg (by omega), gi_si, if_pos ⟨rfl, rfl⟩], by rw [gi_si, if_pos ⟨rfl, rfl⟩]⟩
  have h5 := LK_to g5 h
  have s6 : (T3 ++ [(21, dNl V D)])[T3.length]? = some (21, dNl V D) := sh_new
  have s6' : (T3 ++ [(21, dNl V D)])[T.length]? = some (16, 0) := by rw [List.getElem?_append_left (by omega)]; exact s3
  have l6 : (T3 ++ [(21, dNl V D)]).length = T.length + 4 := by rw [len_1, l3]
  rw [LK_all h5, Option.bind_some, alen_of h5.2.1.2.2, show Int32.ofNat (dNl V D) = nI (dNl V D) from rfl, gnewa_ok (by omega) (by omega), Option.bind_some, nI_clamp (show dNl V D < 2 ^ 31 by omega)]
  dsimp only
  have g6 : gTo T M (T3 ++ [(21, dNl V D)]) (zr M5 T3.length) (1 + 1 + 1 + 1) := gTo_tr g5 gTo_new
  have g6' := gTo_sr (a := T.length) (k := 2) (x := some T3.length) g6 (Nat.le_refl _)
  have i6 : gi (sr (zr M5 T3.length) T.length 2 (some T3.length)) T.length 0 = gi M a 0 ∧ gi (sr (zr M5 T3.length) T.length 2 (some T3.length)) T.length 1 = gi M a 1 ∧ gr (sr (zr M5 T3.length) T.length 2 (some T3.length)) T.length 2 = some T3.length := by
    refine ⟨?_, ?_, ?_⟩
    · rw [gi_sr, gi_zr, if_neg (by omega)]; exact i5.1
    · rw [gi_sr, gi_zr, if_neg (by omega)]; exact i5.2
    · rw [gr_sr, if_pos ⟨rfl, rfl⟩]
  generalize T3 ++ [(21, dNl V D)] = T6 at g6' s6 s6' l6 ⊢
  generalize sr (zr M5 T3.length) T.length 2 (some T3.length) = M6 at g6' i6 ⊢
  obtain ⟨⟨T9, M9⟩, c9, s9, e1, e2, e3, e4, e5, e6, e7⟩ := loopc_ex (B := fun x : Int32 × gT × gM => f_X10_copy_B38 x.2.1 x.2.2 a T.length x.1) (P := fun t y c s => y.1 = nI t ∧ t ≤ dNl V D ∧ gTo T M y.2.1 y.2.2 (4 + c) ∧ c = 3 * t ∧ s ≤ 8 * t ∧ y.2.1[T.length]? = some (16, 0) ∧ y.2.1[T3.length]? = some (21, dNl V D) ∧ (gi y.2.2 T.length 0 = gi M a 0 ∧ gi y.2.2 T.length 1 = gi M a 1 ∧ gr y.2.2 T.length 2 = some T3.length) ∧ ∀ i, i < t → (gr y.2.2 T3.length i = some (T.length + 4 + 3 * i) ∧ y.2.1[T.length + 4 + 3 * i]? = some (9, 0) ∧ gi y.2.2 (T.length + 4 + 3 * i) 0 = dTr V D i ∧ gi y.2.2 (T.length + 4 + 3 * i) 1 = dKp V D i) ∧ gr y.2.2 (T.length + 4 + 3 * i) 2 = some (R i) ∧ (gr y.2.2 (T.length + 4 + 3 * i) 3 = some (T.length + 4 + 3 * i + 2) ∧ y.2.1[T.length + 4 + 3 * i + 2]? = some (11, dNn V D) ∧ ∀ n, n < dNn V D → gi y.2.2 (T.length + 4 + 3 * i + 2) n = dOf V D i n)) (Q := fun (e : gT × gM) c s => gTo T M e.1 e.2 (4 + c) ∧ c ≤ 15 ∧ s ≤ 40 ∧ (e.1[T.length]? = some (16, 0) ∧ e.1[T3.length]? = some (21, dNl V D)) ∧ (gi e.2 T.length 0 = gi M a 0 ∧ gi e.2 T.length 1 = gi M a 1 ∧ gr e.2 T.length 2 = some T3.length) ∧ ∀ i, i < dNl V D → (gr e.2 T3.length i = some (T.length + 4 + 3 * i) ∧ e.1[T.length + 4 + 3 * i]? = some (9, 0) ∧ gi e.2 (T.length + 4 + 3 * i) 0 = dTr V D i ∧ gi e.2 (T.length + 4 + 3 * i) 1 = dKp V D i) ∧ gr e.2 (T.length + 4 + 3 * i) 2 = some (R i) ∧ (gr e.2 (T.length + 4 + 3 * i) 3 = some (T.length + 4 + 3 * i + 2) ∧ e.1[T.length + 4 + 3 * i + 2]? = some (11, dNn V D) ∧ ∀ n, n < dNn V D → gi e.2 (T.length + 4 + 3 * i + 2) n = dOf V D i n)) (fu := gFU) (x := ((0 : Int32), T6, M6)) (dNl V D) (Nat.lt_of_le_of_lt hl (by decide)) ⟨rfl, Nat.zero_le _, g6', by omega, by omega, s6', s6, i6, fun i hi => absurd hi (Nat.not_lt_zero i)⟩ (fun t y c s _ hP => by
    obtain ⟨y1, T7, M7⟩ := y
    obtain ⟨rfl, ht, hG, hc, hs9, z1, z2, z3, z4⟩ := hP
    dsimp only at hG z1 z2 z3 z4
    have h7 := LK_to hG h
    have hl7 := hG.2.2
    dsimp only
    unfold f_X10_copy_B38
    rw [LK_kd h7, Option.bind_some, gkd_ok z1, Option.bind_some, LK_all h7, Option.bind_some, alen_of h7.2.1.2.2]
    by_cases e : t = dNl V D
    · rw [if_pos (show Int32.ofNat (dNl V D) ≤ nI t from nI_le (by omega) (by omega))]
      exact Or.inl ⟨(T7, M7), 0, 0, rfl, hG, by omega, by omega, ⟨z1, z2⟩, z3, fun i hi => z4 i (by omega)⟩
    · have hlt : t < dNl V D := by omega
      have hL := h7.2.2.2.1 t hlt
      obtain ⟨T8, M8, c8, s8, w1, rfl, rfl, w4, w5, w6, w7, w8, w9, w10, w11⟩ := p_lcopy hL.1.2.2.1 (by rw [hL.1.2.2.2.2]; exact (hV.2.2.2.2.2 t hlt).2.1) hL.2.1.2.1 hL.2.1.2.2.1 hL.2.2.2.1 hL.2.2.2.2.1 (by omega)
      have hn : T7.length = T.length + 4 + 3 * t := by omega
      rw [if_neg (show ¬ Int32.ofNat (dNl V D) ≤ nI t from nI_ge hlt (by omega)), ldr_ok z3.2.2 z2, Option.bind_some, Option.bind_some, LK_lib h8 h7 hlt, Option.bind_some, w1, Option.bind_some]
      dsimp only
      rw [gkd_ok w5, Option.bind_some]
      have hast : astr T8 M8 T3.length (nI t) T7.length = some (sr M8 T3.length t (some T7.length)) := by
        unfold astr
        rw [alen_of (gTo_sh w4 z2), if_neg (nI_in hlt (by omega)), nI_clamp (by omega)]
      rw [hast, Option.bind_some, cadd_some, nI_1]
      have ne9 : T3.length ≠ T7.length := by omega
      refine Or.inr ⟨hlt, _, _, _, rfl, rfl, by omega, ?_, by omega, by omega, gTo_sh w4 z1, gTo_sh w4 z2, ⟨?_, ?_, ?_⟩, fun i hi => ?_⟩
      · show gTo T M T8 (sr M8 T3.length t (some T7.length)) (4 + (c + (3 + 0)))
        rw [show 4 + (c + (3 + 0)) = 4 + c + 3 by omega]
        exact gTo_sr (gTo_tr hG w4) (by omega)
      · show gi (sr M8 T3.length t (some T7.length)) T.length 0 = _
        rw [gi_sr, gTo_gi w4 z1]
        exact z3.1
      · show gi (sr M8 T3.length t (some T7.length)) T.length 1 = _
        rw [gi_sr, gTo_gi w4 z1]
        exact z3.2.1
      · show gr (sr M8 T3.length t (some T7.length)) T.length 2 = _
        rw [gr_sr, if_neg (by omega), gTo_gr w4 z1]
        exact z3.2.2
      · dsimp only
        by_cases ei : i = t
        · subst ei
          rw [← hn]
          refine ⟨⟨by rw [gr_sr, if_pos ⟨rfl, rfl⟩], w5, by rw [gi_sr, w6]; exact hL.1.2.2.2.1, by rw [gi_sr, w7]; exact hL.1.2.2.2.2⟩, by rw [gr_sr, if_neg (by omega)]; exact w8, by rw [gr_sr, if_neg (by omega)]; exact w9, w10, fun n hn => by rw [gi_sr, w11]; exact hL.2.2.2.2.2 n hn⟩
        · obtain ⟨⟨p1, p2, p3, p4⟩, p5, p6, p7, p8⟩ := z4 i (by omega)
          refine ⟨⟨by rw [gr_sr, if_neg (by omega), gTo_gr w4 z2]; exact p1, gTo_sh w4 p2, by rw [gi_sr, gTo_gi w4 p2]; exact p3, by rw [gi_sr, gTo_gi w4 p2]; exact p4⟩, by rw [gr_sr, if_neg (by omega), gTo_gr w4 p2]; exact p5, by rw [gr_sr, if_neg (by omega), gTo_gr w4 p2]; exact p6, gTo_sh w4 p7, fun n hn => by rw [gi_sr, gTo_gi w4 p7]; exact p8 n hn⟩)
  dsimp only at e2 e5 e6 e7
  have h9 := LK_to e2 h
  have hl9 := e2.2.2
  rw [e1, Option.bind_some]
  dsimp only
  rw [LK_row h9, Option.bind_some]
  have g10 := gTo_sr (a := T.length) (k := 3) (x := some B) e2 (Nat.le_refl _)
  have h10 := LK_to g10 h
  have hr4 : gr (sr M9 T.length 3 (some B)) a 4 = gr M a 4 := gTo_gr g10 h.1.2.1 4
  have hko : gko T9 (gr M a 4) 17 = some () := by
    rcases h.2.2.2.2.2 with ⟨t1, -⟩ | ⟨e, t1, t2⟩
    · rw [t1]; rfl
    · rw [t1]
      exact gko_some (gTo_sh g10 t2.2.1)
  rw [hr4, hko, Option.bind_some, cadd_some, cadd_some, cadd_some, cadd_some]
  have g11 := gTo_sr (a := T.length) (k := 4) (x := gr M a 4) g10 (Nat.le_refl _)
  refine ⟨_, _, _, _, _, rfl, ?_, by omega, by omega, rfl, T3.length, fun i => T.length + 4 + 3 * i, fun i => T.length + 4 + 3 * i + 2, ?_⟩
  · exact gTo_c g11 (by omega)
  · have h11 := LK_to g11 h
    obtain ⟨hd1, hd2, hd3⟩ := h11.2.2.2.2.1
    refine ⟨⟨q1 _ (Nat.le_refl _) (by omega), e5.1, ?_, ?_⟩, ⟨q1 _ (by omega) (by omega), ?_, e5.2⟩, ⟨q2, ?_, h11.2.2.1.2.2⟩, fun i hi => ?_, ⟨hd1, hd2, hd3⟩, ?_⟩
    · rw [gi_sr, gi_sr, e6.1]
      exact h.1.2.2.1
    · rw [gi_sr, gi_sr, e6.2.1]
      exact h.1.2.2.2
    · rw [gr_sr, if_neg (by omega), gr_sr, if_neg (by omega)]
      exact e6.2.2
    · rw [gr_sr, if_neg (by omega), gr_sr, if_pos ⟨rfl, rfl⟩]
    · obtain ⟨⟨p1, p2, p3, p4⟩, p5, p6, p7, p8⟩ := e7 i hi
      have hR := (h11.2.2.2.1 i hi).2.1
      dsimp only
      refine ⟨⟨q1 _ (by omega) (by omega), ?_, p2, ?_, ?_⟩, ⟨q3 i hi, ?_, hR.2.2⟩, q1 _ (by omega) (by omega), ?_, p7, fun n hn => ?_⟩
      · rw [gr_sr, if_neg (by omega), gr_sr, if_neg (by omega)]; exact p1
      · rw [gi_sr, gi_sr]; exact p3
      · rw [gi_sr, gi_sr]; exact p4
      · rw [gr_sr, if_neg (by omega), gr_sr, if_neg (by omega)]; exact p5
      · rw [gr_sr, if_neg (by omega), gr_sr, if_neg (by omega)]; exact p6
      · rw [gi_sr, gi_sr]; exact p8 n hn
    · rcases h.2.2.2.2.2 with ⟨t1, t2⟩ | ⟨e, t1, t2⟩
      · exact Or.inl ⟨by rw [gr_sr, if_pos ⟨rfl, rfl⟩]; exact t1, t2⟩
      · refine Or.inr ⟨e, by rw [gr_sr, if_pos ⟨rfl, rfl⟩]; exact t1, ?_⟩
        exact gND_ke (gKe_To g11) (gND_P q4 t2)
end PCY
