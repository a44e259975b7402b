/-! HOW MANY BINDINGS ARE OTHER ONES; WHAT IS TOLD; THE CHECKSUM: the law's linker -/
section PTD
variable {P : Nat → Prop} {T T0 T1 : gT} {M M1 V : gM} {a A B : Nat} {L R O : Nat → Nat} {lc : Nat} {ld : Nat → Nat} {D : Nat} {k : Nat → Nat × Nat} {m c i n R0 : Nat} {w : Nat → Nat → Int32}
theorem p_ch33 (hV : gVal T0 V D) (h : LK P T M a A B L R O lc ld V D k m) (hok : wOK k m) (h5 : lc ≤ 5) (h4 : dNn V D ≤ 4) (hb : gBR T M R0 (dNl V D) (dNn V D)) (hw : ∀ i, i < dNl V D → ∀ n, n < dNn V D → gi M (R0 + 1 + i) n = w i n) (hi : i < dNl V D) (hl : dRk V D i ≠ -1) {but i5 i6 : Int32} {x : Nat} (hT : T.length + 320 ≤ 900000) : ∃ (e : Int32 × gT × gM) (c s : Nat), gloopc (fun x : Int32 × Int32 × gT × gM => f_X10_changed_B33 x.2.2.1 x.2.2.2 a R0 but x.1 B i5 i6 (nI i) x.2.1) gFU (nI x, (0 : Int32), T, M) = some (e, c, s) ∧ e.1 = nI (x + if nI i = but then 0 else vCh (vW V D k m) V D w i (dNn V D)) ∧ gTo T M e.2.1 e.2.2 c ∧ c ≤ 320 ∧ s ≤ 1280 := by
  have h8 := hV.2.1
  refine loopc_ex (P := fun t y c s => y.1 = nI (x + if nI i = but then 0 else vCh (vW V D k m) V D w i t) ∧ y.2.1 = nI t ∧ t ≤ dNn V D ∧ (nI i = but → t = 0) ∧ gTo T M y.2.2.1 y.2.2.2 c ∧ c ≤ 80 * t ∧ s ≤ 320 * t) (Q := fun (e : Int32 × gT × gM) c s => e.1 = nI (x + if nI i = but then 0 else vCh (vW V D k m) V D w i (dNn V D)) ∧ gTo T M e.2.1 e.2.2 c ∧ c ≤ 320 ∧ s ≤ 1280) (fu := gFU) (x := (nI x, (0 : Int32), T, M)) (dNn V D) (Nat.lt_of_le_of_lt h4 (by decide)) ⟨by split <;> rfl, rfl, Nat.zero_le _, fun _ => rfl, gTo_refl, by omega, by omega⟩ (fun t y c s _ hP => ?_)
  obtain ⟨y1, y2, T2, M2⟩ := y
  obtain ⟨rfl, rfl, ht, hbt, hG, hc, hs9⟩ := hP
  dsimp only at hG
  have h1 := LK_to hG h
  have hb2 := gBR_to hG hb
  have hl2 := hG.2.2
  dsimp only
  unfold f_X10_changed_B33 f_X10_changed_69
  rw [LK_kd h1, Option.bind_some, gkd_ok hb2.1, Option.bind_some, LK_kB h1, Option.bind_some, LK_n hV h1]
  by_cases e : t = dNn V D
  · rw [if_pos (nI_le (by omega) (by omega)), ← e]
    exact Or.inl ⟨_, _, _, rfl, rfl, hG, by omega, by omega⟩
  · have hlt : t < dNn V D := by omega
    rw [if_neg (nI_ge hlt (by omega))]
    by_cases hbut : nI i = but
    · rw [if_pos hbut, if_pos hbut, if_pos hbut]
      exact Or.inl ⟨_, _, _, rfl, rfl, hG, by omega, by omega⟩
    · obtain ⟨v, T3, M3, c3, s3, w1, w2, w3, w4, w5⟩ := p_binding hV h1 hok h5 hi hlt (by omega)
      have hb3 := gBR_to w2 hb2
      have hG3 := gTo_tr hG w2
      rw [if_neg hbut, w1, Option.bind_some]
      dsimp only
      rw [aldr_ok hb3.1 hi (by omega) (hb3.2 i hi).1 (hb3.2 i hi).2, Option.bind_some, ald_ok (hb3.2 i hi).2 hlt (by omega), Option.bind_some, gTo_gi hG3 (hb.2 i hi).2, hw i hi t hlt, w5, nI_1, if_neg hbut]
      have es : vCh (vW V D k m) V D w i (t + 1) = vCh (vW V D k m) V D w i t + if w i t = vBd (vW V D k m) V D i t then 0 else 1 := by
        unfold vCh
        rw [cntN]
        by_cases ew : w i t = vBd (vW V D k m) V D i t
        · rw [if_pos ew, decide_eq_false (fun q => q.2 ew)]
          rfl
        · rw [if_neg ew, decide_eq_true (And.intro hl ew)]
          rfl
      by_cases ew : vBd (vW V D k m) V D i t = w i t
      · rw [if_pos ew, cadd_some]
        refine Or.inr ⟨hlt, _, _, _, rfl, ?_, rfl, by omega, fun q => absurd q hbut, hG3, by omega, by omega⟩
        rw [if_neg hbut, es, if_pos ew.symm]
        rfl
      · rw [if_neg ew, cadd_some, nI_1]
        refine Or.inr ⟨hlt, _, _, _, rfl, ?_, rfl, by omega, fun q => absurd q hbut, hG3, by omega, by omega⟩
        rw [if_neg hbut, es, if_neg (fun q => ew q.symm)]
        rfl
theorem p_changed (hV : gVal T0 V D) (h : LK P T M a A B L R O lc ld V D k m) (hok : wOK k m) (h5 : lc ≤ 5) (h4 : dNn V D ≤ 4) (hb : gBR T M R0 (dNl V D) (dNn V D)) (hw : ∀ i, i < dNl V D → ∀ n, n < dNn V D → gi M (R0 + 1 + i) n = w i n) {but : Int32} (hT : T.length + 1600 ≤ 900000) : cR T M (f_X10_changed T M a R0 but) 1600 6400 (fun v _ _ => v = nI (sumN (fun i => if nI i = but then 0 else vCh (vW V D k m) V D w i (dNn V D)) (dNl V D))) := by
  have h8 := hV.2.1
  have hs : sumN (fun t => if nI (ld t) = but then 0 else vCh (vW V D k m) V D w (ld t) (dNn V D)) lc = sumN (fun i => if nI i = but then 0 else vCh (vW V D k m) V D w i (dNn V D)) (dNl V D) := by
    rw [LK_sum (f := fun q => if nI q = but then 0 else vCh (vW V D k m) V D w q (dNn V D)) hV h]
    refine sumN_ext (fun i hi => ?_)
    by_cases e : dRk V D i = -1
    · rw [if_pos e, vCh_no e]
      split <;> rfl
    · rw [if_neg e]
  unfold f_X10_changed
  rw [LK_row h, Option.bind_some, LK_al h]
  obtain ⟨⟨v9, T9, M9⟩, c9, s9, e1, e2, e3, e4, e5⟩ := loopc_ex (B := fun x : Int32 × Int32 × gT × gM => f_X10_changed_B16 x.2.2.1 x.2.2.2 a R0 but x.1 B (Int32.ofNat lc) x.2.1) (P := fun t y c s => y.1 = nI (sumN (fun t => if nI (ld t) = but then 0 else vCh (vW V D k m) V D w (ld t) (dNn V D)) t) ∧ y.2.1 = nI t ∧ t ≤ lc ∧ gTo T M y.2.2.1 y.2.2.2 c ∧ c ≤ 320 * t ∧ s ≤ 1280 * t) (Q := fun e c s => e.1 = nI (sumN (fun i => if nI i = but then 0 else vCh (vW V D k m) V D w i (dNn V D)) (dNl V D)) ∧ gTo T M e.2.1 e.2.2 c ∧ c ≤ 1600 ∧ s ≤ 6400) (fu := gFU) (x := ((0 : Int32), (0 : Int32), T, M)) lc (Nat.lt_of_le_of_lt h5 (by decide)) ⟨rfl, rfl, Nat.zero_le _, gTo_refl, by omega, by omega⟩ (fun t y c s _ hP => by
    obtain ⟨y1, y2, T1, M1⟩ := y
    obtain ⟨rfl, rfl, ht, hG, hc, hs9⟩ := hP
    dsimp only at hG
    have h1 := LK_to hG h
    have hb1 := gBR_to hG hb
    have hl1 := hG.2.2
    dsimp only
    unfold f_X10_changed_B16
    rw [LK_kd h1, Option.bind_some, gkd_ok hb1.1, Option.bind_some, LK_kB h1, Option.bind_some]
    by_cases e : t = lc
    · rw [if_pos (show Int32.ofNat lc ≤ nI t from nI_le (by omega) (by omega))]
      exact Or.inl ⟨_, _, _, rfl, by rw [e, hs], hG, by omega, by omega⟩
    · have hlt : t < lc := by omega
      have hd := (h.2.2.2.2.1.2.1 t hlt).1
      obtain ⟨⟨v3, T3, M3⟩, c3, s3, w1, w2, w3, w4, w5⟩ := p_ch33 (i := ld t) (w := w) (but := but) (i5 := Int32.ofNat lc) (i6 := nI t) (x := sumN (fun t => if nI (ld t) = but then 0 else vCh (vW V D k m) V D w (ld t) (dNn V D)) t) hV h1 hok h5 h4 hb1 (fun i hi n hn => by rw [gTo_gi hG (hb.2 i hi).2]; exact hw i hi n hn) hd (fun q => by
        rw [(h.2.2.2.2.1.2.1 t hlt).2.2] at q
        exact nI_nneg (v := t) (by omega) (by decide) q) (by omega)
      dsimp only at w2 w3
      rw [if_neg (show ¬ Int32.ofNat lc ≤ nI t from nI_ge hlt (by omega)), LK_ld h1 hlt, Option.bind_some, w1, Option.bind_some]
      dsimp only
      rw [cadd_some, nI_1]
      exact Or.inr ⟨hlt, _, _, _, rfl, w2, rfl, by omega, gTo_tr hG w3, by omega, by omega⟩)
  rw [e1, Option.bind_some]
  dsimp only
  rw [cadd_some]
  exact ⟨_, _, _, _, _, rfl, e3, e4, e5, e2⟩
theorem p_told (hV : gVal T0 V D) (h : LK P T M a A B L R O lc ld V D k m) (hok : wOK k m) (hi : i < dNl V D) {q : Nat} (hq : q < 6) (hT : T.length + 1 ≤ 900000) : cR T M (f_X10_told T M a (nI i) (nI q)) 1 4 (fun v _ _ => v = vTl V D k m i q) := by
  have h8 := hV.2.1
  have hL := h.2.2.2.1 i hi
  unfold f_X10_told f_X10_told_81
  rw [LK_all h, Option.bind_some, LK_lib h8 h hi, Option.bind_some]
  unfold vTl
  rcases (show q = 0 ∨ q = 1 ∨ q = 2 ∨ q = 3 ∨ q = 4 ∨ q = 5 by omega) with rfl | rfl | rfl | rfl | rfl | rfl
  · rw [if_neg (by decide), if_pos rfl, hL.1.2.2.2.1]
    exact ⟨_, _, _, _, _, rfl, gTo_refl, by omega, by omega, rfl⟩
  · rw [hL.1.2.2.2.2, if_pos (show ¬ nI 1 = 0 by decide), if_neg (show ¬ ¬ nI 1 = 1 by decide), if_neg (show ¬ (1 : Nat) = 0 by decide), if_pos (show (1 : Nat) = 1 from rfl)]
    rcases (hV.2.2.2.2.2 i hi).2.1 with e | e
    · rw [if_pos e, e]
      exact ⟨_, _, _, _, _, rfl, gTo_refl, by omega, by omega, rfl⟩
    · rw [e, if_neg (by decide)]
      exact ⟨_, _, _, _, _, rfl, gTo_refl, by omega, by omega, rfl⟩
  · rw [if_pos (by decide), if_pos (by decide), if_neg (by decide), if_neg (by decide), if_neg (by decide), if_pos rfl, p_rank h hi h8, Option.bind_some]
    exact ⟨_, _, _, _, _, rfl, gTo_refl, by omega, by omega, rfl⟩
  · rw [if_pos (by decide), if_pos (by decide), if_pos (by decide), if_neg (by decide), if_neg (by decide), if_neg (by decide), if_neg (by decide), if_pos rfl, p_offered hV h hi, Option.bind_some]
    exact ⟨_, _, _, _, _, rfl, gTo_refl, by omega, by omega, rfl⟩
  · rw [if_pos (by decide), if_pos (by decide), if_pos (by decide), if_pos (by decide), if_neg (by decide), if_neg (by decide), if_neg (by decide), if_neg (by decide), if_neg (by decide), if_pos rfl, LK_prf h hi, Option.bind_some, alen_of hL.2.1.2.2.1]
    exact ⟨_, _, _, _, _, rfl, gTo_refl, by omega, by omega, ((hV.2.2.2.2.2 i hi).2.2.2.1.1).symm⟩
  · obtain ⟨v, T3, M3, c3, s3, w1, w2, w3, w4, w5⟩ := p_weight hV h hok hi hT
    rw [if_pos (by decide), if_pos (by decide), if_pos (by decide), if_pos (by decide), if_pos (by decide), w1, Option.bind_some]
    dsimp only
    rw [cadd_some]
    exact ⟨_, _, _, _, _, rfl, w2, by omega, by omega, w5⟩
theorem p_sum27 (hV : gVal T0 V D) (h : LK P T M a A B L R O lc ld V D k m) (hok : wOK k m) (hb : gBR T M R0 (dNl V D) (dNn V D)) (hi : i < dNl V D) {j : Int64} (hT : T.length + 6 ≤ 900000) : ∃ (e : Int64 × gT × gM) (c s : Nat), gloopc (fun x : Int64 × Int32 × gT × gM => f_X10_sum_B27 x.2.2.1 x.2.2.2 a R0 x.1 (nI i) x.2.1) gFU (j, (0 : Int32), T, M) = some (e, c, s) ∧ e.1 = ck6 j (vTl V D k m i) 6 ∧ gTo T M e.2.1 e.2.2 c ∧ c ≤ 6 ∧ s ≤ 24 := by
  refine loopc_ex (P := fun t y c s => y.1 = ck6 j (vTl V D k m i) t ∧ y.2.1 = nI t ∧ t ≤ 6 ∧ gTo T M y.2.2.1 y.2.2.2 c ∧ c ≤ t ∧ s ≤ 4 * t) (Q := fun (e : Int64 × gT × gM) c s => e.1 = ck6 j (vTl V D k m i) 6 ∧ gTo T M e.2.1 e.2.2 c ∧ c ≤ 6 ∧ s ≤ 24) (fu := gFU) (x := (j, (0 : Int32), T, M)) 6 (by decide) ⟨rfl, rfl, Nat.zero_le _, gTo_refl, by omega, by omega⟩ (fun t y c s _ hP => ?_)
  obtain ⟨y1, y2, T1, M1⟩ := y
  obtain ⟨rfl, rfl, ht, hG, hc, hs9⟩ := hP
  dsimp only at hG
  have h1 := LK_to hG h
  have hl1 := hG.2.2
  dsimp only
  unfold f_X10_sum_B27
  rw [LK_kd h1, Option.bind_some, gkd_ok (gBR_to hG hb).1, Option.bind_some]
  by_cases e : t = 6
  · rw [if_pos (show (6 : Int32) ≤ nI t from nI_le (a := 6) (by omega) (by omega)), e]
    exact Or.inl ⟨_, _, _, rfl, rfl, by rw [← e]; exact hG, by omega, by omega⟩
  · have hlt : t < 6 := by omega
    obtain ⟨v, T3, M3, c3, s3, w1, w2, w3, w4, w5⟩ := p_told hV h1 hok hi hlt (by omega)
    rw [if_neg (show ¬ (6 : Int32) ≤ nI t from nI_ge (a := t) (b := 6) hlt (by omega)), w1, Option.bind_some]
    dsimp only
    rw [cadd_some, w5, nI_1]
    exact Or.inr ⟨hlt, _, _, _, rfl, rfl, rfl, by omega, gTo_tr hG w2, by omega, by omega⟩
theorem p_sum59 (hV : gVal T0 V D) (h : LK P T M a A B L R O lc ld V D k m) (hok : wOK k m) (hl : dNl V D ≤ 5) (h4 : dNn V D ≤ 4) (hb : gBR T M R0 (dNl V D) (dNn V D)) (hw : ∀ i, i < dNl V D → ∀ n, n < dNn V D → gi M (R0 + 1 + i) n = vBd (vW V D k m) V D i n) (hi : i < dNl V D) {j : Int64} (hT : T.length + 96 ≤ 900000) : ∃ (e : Int64 × gT × gM) (c s : Nat), gloopc (fun x : Int64 × Int32 × gT × gM => f_X10_sum_B59 x.2.2.1 x.2.2.2 a R0 x.1 (nI i) x.2.1) gFU (j, (0 : Int32), T, M) = some (e, c, s) ∧ e.1 = ckN j (dOf V D i) (vBd (vW V D k m) V D i) (fun n => (vCal (vW V D k m) V D i n).1) (dNn V D) ∧ gTo T M e.2.1 e.2.2 c ∧ c ≤ 96 ∧ s ≤ 1800 := by
  have h8 := hV.2.1
  refine loopc_ex (P := fun t y c s => y.1 = ckN j (dOf V D i) (vBd (vW V D k m) V D i) (fun n => (vCal (vW V D k m) V D i n).1) t ∧ y.2.1 = nI t ∧ t ≤ dNn V D ∧ gTo T M y.2.2.1 y.2.2.2 c ∧ c ≤ 24 * t ∧ s ≤ 450 * t) (Q := fun (e : Int64 × gT × gM) c s => e.1 = ckN j (dOf V D i) (vBd (vW V D k m) V D i) (fun n => (vCal (vW V D k m) V D i n).1) (dNn V D) ∧ gTo T M e.2.1 e.2.2 c ∧ c ≤ 96 ∧ s ≤ 1800) (fu := gFU) (x := (j, (0 : Int32), T, M)) (dNn V D) (Nat.lt_of_le_of_lt h4 (by decide)) ⟨rfl, rfl, Nat.zero_le _, gTo_refl, by omega, by omega⟩ (fun t y c s _ hP => ?_)
  obtain ⟨y1, y2, T1, M1⟩ := y
  obtain ⟨rfl, rfl, ht, hG, hc, hs9⟩ := hP
  dsimp only at hG
  have h1 := LK_to hG h
  have hb1 := gBR_to hG hb
  have hl1 := hG.2.2
  dsimp only
  unfold f_X10_sum_B59
  rw [LK_kd h1, Option.bind_some, gkd_ok hb1.1, Option.bind_some, LK_n hV h1]
  by_cases e : t = dNn V D
  · rw [if_pos (nI_le (by omega) (by omega)), ← e]
    exact Or.inl ⟨_, _, _, rfl, rfl, hG, by omega, by omega⟩
  · have hlt : t < dNn V D := by omega
    have hO := (h1.2.2.2.1 i hi).2.2
    have hw1 : ∀ i, i < dNl V D → ∀ n, n < dNn V D → gi M1 (R0 + 1 + i) n = vBd (vW V D k m) V D i n := fun i hi n hn => by rw [gTo_gi hG (hb.2 i hi).2]; exact hw i hi n hn
    obtain ⟨v, T3, M3, c3, s3, w1, w2, w3, w4, w5, w6⟩ := p_call hV h1 hl h4 hb1 hw1 hi hlt (by omega)
    rw [if_neg (nI_ge hlt (by omega)), LK_all h1, Option.bind_some, LK_lib h8 h1 hi, Option.bind_some, LK_off h1 hi, Option.bind_some, ald_ok hO.2.2.1 hlt (by omega), Option.bind_some, hO.2.2.2 t hlt, aldr_ok hb1.1 hi (by omega) (hb1.2 i hi).1 (hb1.2 i hi).2, Option.bind_some, ald_ok (hb1.2 i hi).2 hlt (by omega), Option.bind_some, hw1 i hi t hlt, w1, Option.bind_some]
    dsimp only
    rw [gkd_ok w5, Option.bind_some, show ald T3 M3 v (0 : Int32) = some (gi M3 v 0) from ald_ok (k := 0) w5 (by decide) (by decide), Option.bind_some, cadd_some, w6, nI_1]
    exact Or.inr ⟨hlt, _, _, _, rfl, rfl, rfl, by omega, gTo_tr hG w2, by omega, by omega⟩
theorem p_sum (hV : gVal T0 V D) (h : LK P T M a A B L R O lc ld V D k m) (hok : wOK k m) (h5 : lc ≤ 5) (hl : dNl V D ≤ 5) (h4 : dNn V D ≤ 4) (hT : T.length + 2116 ≤ 900000) : cR T M (f_X10_sum T M a) 2116 15545 (fun v _ _ => v = ckL V D k m (dNl V D)) := by
  obtain ⟨R0, T1, M1, c1, s1, w1, w2, w3, w4, rfl, w6, w7⟩ := p_bindings hV h hok h5 hl h4 (by omega)
  have hl1 := w2.2.2
  have h1 := LK_to w2 h
  unfold f_X10_sum
  rw [w1, Option.bind_some]
  dsimp only
  rw [gkd_ok w6.1, Option.bind_some, h1.1.2.2.2]
  obtain ⟨⟨v9, T9, M9⟩, c9, s9, e1, e2, e3, e4, e5⟩ := loopc_ex (B := fun x : Int64 × Int32 × gT × gM => f_X10_sum_B14 x.2.2.1 x.2.2.2 a T.length x.1 x.2.1) (P := fun t y c s => y.1 = ckL V D k m t ∧ y.2.1 = nI t ∧ t ≤ dNl V D ∧ gTo T1 M1 y.2.2.1 y.2.2.2 c ∧ c ≤ 102 * t ∧ s ≤ 1824 * t) (Q := fun e c s => e.1 = ckL V D k m (dNl V D) ∧ gTo T1 M1 e.2.1 e.2.2 c ∧ c ≤ 510 ∧ s ≤ 9120) (fu := gFU) (x := ((gi V D 3).toInt64, (0 : Int32), T1, M1)) (dNl V D) (Nat.lt_of_le_of_lt hl (by decide)) ⟨rfl, rfl, Nat.zero_le _, gTo_refl, by omega, by omega⟩ (fun t y c s _ hP => by
    obtain ⟨y1, y2, T2, M2⟩ := y
    obtain ⟨rfl, rfl, ht, hG, hc, hs9⟩ := hP
    dsimp only at hG
    have h2 := LK_to hG h1
    have hb2 := gBR_to hG w6
    have hl2 := hG.2.2
    dsimp only
    unfold f_X10_sum_B14
    rw [LK_kd h2, Option.bind_some, gkd_ok hb2.1, Option.bind_some, LK_all h2, Option.bind_some, alen_of h2.2.1.2.2]
    by_cases e : t = dNl V D
    · rw [if_pos (show Int32.ofNat (dNl V D) ≤ nI t from nI_le (by omega) (by omega)), ← e]
      exact Or.inl ⟨_, _, _, rfl, rfl, hG, by omega, by omega⟩
    · have hlt : t < dNl V D := by omega
      obtain ⟨⟨v3, T3, M3⟩, c3, s3, x1, x2, x3, x4, x5⟩ := p_sum27 (j := ckL V D k m t) hV h2 hok hb2 hlt (by omega)
      dsimp only at x2 x3
      have h3 := LK_to x3 h2
      have hb3 := gBR_to x3 hb2
      have hl3 := x3.2.2
      have hG3 := gTo_tr hG x3
      obtain ⟨⟨v4, T4, M4⟩, c4, s4, z1, z2, z3, z4, z5⟩ := p_sum59 (j := v3) hV h3 hok hl h4 hb3 (fun i hi n hn => by rw [gTo_gi hG3 (w6.2 i hi).2]; exact w7 i hi n hn) hlt (by omega)
      dsimp only at z2 z3
      rw [if_neg (show ¬ Int32.ofNat (dNl V D) ≤ nI t from nI_ge hlt (by omega)), x1, Option.bind_some]
      dsimp only
      rw [z1, Option.bind_some]
      dsimp only
      rw [cadd_some, cadd_some, nI_1]
      exact Or.inr ⟨hlt, _, _, _, rfl, by rw [z2, x2]; rfl, rfl, by omega, gTo_tr hG (gTo_tr x3 z3), by omega, by omega⟩)
  dsimp only at e2 e3
  rw [e1, Option.bind_some]
  dsimp only
  rw [cadd_some, cadd_some]
  exact ⟨_, _, _, _, _, rfl, gTo_tr w2 e3, by omega, by omega, e2⟩
end PTD
