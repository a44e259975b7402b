/-! A LINKER'S WINNER AND BINDINGS -/
section PBD
variable {P : Nat → Prop} {T T0 : gT} {M V : gM} {a A B : Nat} {L R O : Nat → Nat} {lc : Nat} {ld : Nat → Nat} {D : Nat} {k : Nat → Nat × Nat} {m c i n : Nat}
theorem zBest_8 (hV : gVal T0 V D) (h : LK P T M a A B L R O lc ld V D k m) {W : Nat → Nat} {t b : Nat} (ht : t ≤ lc) (hz : zBest W V D n ld t = some b) : b < dNl V D := by
  obtain ⟨s, h1, h2, -⟩ := zBest_yes hz
  rw [← h2]
  exact (h.2.2.2.2.1.2.1 s (by omega)).1
theorem vSup_sm {W : Nat → Nat} (hW : ∀ q, W q ≤ 9999) (h8 : dNl V D ≤ 8) {q : Nat} : vSup W V D n q (dNl V D) ≤ 80000 := by
  have := vSup_le (M := V) (D := D) (n := n) (i := q) hW (dNl V D)
  omega
theorem p_winner (hV : gVal T0 V D) (h : LK P T M a A B L R O lc ld V D k m) (hok : wOK k m) (h5 : lc ≤ 5) (hn : n < dNn V D) (hT : T.length + 50 ≤ 900000) : cR T M (f_X10_winner T M a (nI n)) 50 200 (fun v _ _ => v = vWin (vW V D k m) V D n) := by
  have h8 := hV.2.1
  unfold f_X10_winner
  rw [LK_row h, Option.bind_some, LK_al h]
  obtain ⟨e, c1, s1, e1, e2, e3, e4, e5⟩ := loopc_ex (B := fun x : Int32 × Int32 × gT × gM => f_X10_winner_B14 x.2.2.1 x.2.2.2 a (nI n) x.1 B (Int32.ofNat lc) x.2.1) (P := fun t y c s => y.1 = oI (zBest (vW V D k m) V D n ld t) ∧ y.2.1 = nI t ∧ t ≤ lc ∧ gTo T M y.2.2.1 y.2.2.2 c ∧ c ≤ 10 * t ∧ s ≤ 40 * t) (Q := fun e c s => e.1 = vWin (vW V D k m) V D n ∧ gTo T M e.2.1 e.2.2 c ∧ c ≤ 50 ∧ s ≤ 200) (fu := gFU) (x := ((-1 : Int32), (0 : Int32), T, M)) lc (Nat.lt_of_le_of_lt h5 (by decide)) ⟨rfl, rfl, Nat.zero_le _, gTo_refl, by omega, by omega⟩ (fun t y c s _ hP => by
    obtain ⟨y1, y2, T1, M1⟩ := y
    obtain ⟨rfl, rfl, ht, hG, hc, hs9⟩ := hP
    dsimp only at hG
    have h1 := LK_to hG h
    dsimp only
    unfold f_X10_winner_B14 f_X10_winner_57 f_X10_winner_60
    rw [LK_kd h1, Option.bind_some, LK_kB h1, Option.bind_some]
    by_cases e : t = lc
    · rw [if_pos (show Int32.ofNat lc ≤ nI t from nI_le (by omega) (by omega))]
      refine Or.inl ⟨_, _, _, rfl, ?_, hG, by omega, by omega⟩
      rw [e, LK_best hV h]
      rfl
    · have hlt : t < lc := by omega
      have hd := (h.2.2.2.2.1.2.1 t hlt).1
      have hT1 := hG.2.2
      rw [if_neg (show ¬ Int32.ofNat lc ≤ nI t from nI_ge hlt (by omega)), LK_ld h1 hlt, Option.bind_some, p_cand hV h1 hd hn, Option.bind_some, nI_1]
      by_cases hv : dRk V D (ld t) = -1 ∨ dOf V D (ld t) n = -1
      · rw [if_pos hv, if_pos rfl]
        refine Or.inr ⟨hlt, _, _, _, rfl, ?_, rfl, by omega, hG, by omega, by omega⟩
        show _ = oI (if _ then _ else _)
        rw [if_neg (fun q => q hv)]
      · rw [if_neg hv, if_neg (by decide)]
        have hcd : vCd V D (ld t) n := hv
        cases hz : zBest (vW V D k m) V D n ld t with
        | none =>
          rw [if_pos (show oI none < 0 from by decide)]
          refine Or.inr ⟨hlt, _, _, _, rfl, ?_, rfl, by omega, hG, by omega, by omega⟩
          show _ = oI (if _ then _ else _)
          rw [if_pos hcd, hz]
          rfl
        | some b =>
          have hb := zBest_8 hV h ht hz
          have hs1 := vSup_sm (V := V) (D := D) (n := n) (q := ld t) (vW_le (M := V) (D := D) (k := k) (m := m)) h8
          have hs2 := vSup_sm (V := V) (D := D) (n := n) (q := b) (vW_le (M := V) (D := D) (k := k) (m := m)) h8
          rw [if_neg (show ¬ oI (some b) < 0 from nI_pos (by omega))]
          obtain ⟨v, T2, M2, c2, s2, w1, w2, w3, w4, w5⟩ := p_support (c' := ld t) hV h1 hok h5 hn (by omega) (by omega)
          have hT2 := w2.2.2
          have h2 := LK_to w2 h1
          obtain ⟨v', T3, M3, c3, s3, x1, x2, x3, x4, x5⟩ := p_support (c' := b) hV h2 hok h5 hn (by omega) (by omega)
          rw [w1, Option.bind_some]
          dsimp only
          rw [show oI (some b) = nI b from rfl, x1, Option.bind_some]
          dsimp only
          rw [w5, x5]
          by_cases hle : vSup (vW V D k m) V D n b (dNl V D) < vSup (vW V D k m) V D n (ld t) (dNl V D)
          · rw [if_neg (nI_ge hle (by omega)), cadd_some, cadd_some]
            refine Or.inr ⟨hlt, _, _, _, rfl, ?_, rfl, by omega, gTo_tr hG (gTo_tr w2 x2), by omega, by omega⟩
            show _ = oI (if _ then _ else _)
            rw [if_pos hcd, hz]
            dsimp only
            rw [if_pos hle]
            rfl
          · rw [if_pos (nI_le (by omega) (by omega)), cadd_some, cadd_some]
            refine Or.inr ⟨hlt, _, _, _, rfl, ?_, rfl, by omega, gTo_tr hG (gTo_tr w2 x2), by omega, by omega⟩
            show _ = oI (if _ then _ else _)
            rw [if_pos hcd, hz]
            dsimp only
            rw [if_neg hle]
            rfl)
  rw [e1, Option.bind_some]
  dsimp only
  rw [cadd_some]
  exact ⟨_, _, _, _, _, rfl, e3, e4, e5, e2⟩
theorem p_total (hV : gVal T0 V D) (h : LK P T M a A B L R O lc ld V D k m) (hok : wOK k m) (h5 : lc ≤ 5) (hn : n < dNn V D) {i1 : Int32} (hT : T.length + 25 ≤ 900000) : ∃ e c s, gloopc (fun x : Int32 × Int32 × gT × gM => f_X10_binding_B26 x.2.2.1 x.2.2.2 a i1 (nI n) x.1 B (Int32.ofNat lc) x.2.1) gFU ((0 : Int32), (0 : Int32), T, M) = some (e, c, s) ∧ e.1 = nI (vTot (vW V D k m) V D n (dNl V D)) ∧ gTo T M e.2.1 e.2.2 c ∧ c ≤ 25 ∧ s ≤ 100 := by
  have h8 := hV.2.1
  have hs : sumN (fun t => if vCd V D (ld t) n then vSup (vW V D k m) V D n (ld t) (dNl V D) else 0) lc = vTot (vW V D k m) V D n (dNl V D) := by
    rw [LK_sum (f := fun q => if vCd V D q n then vSup (vW V D k m) V D n q (dNl V D) else 0) hV h, ← vTot_sum (W := vW V D k m) hV (Nat.le_refl _)]
    refine sumN_ext (fun i hi => ?_)
    by_cases e : dRk V D i = -1
    · rw [if_pos e, if_neg (fun q => q (Or.inl e))]
    · rw [if_neg e]
  refine loopc_ex (P := fun t y c s => y.1 = nI (sumN (fun t => if vCd V D (ld t) n then vSup (vW V D k m) V D n (ld t) (dNl V D) else 0) t) ∧ y.2.1 = nI t ∧ t ≤ lc ∧ gTo T M y.2.2.1 y.2.2.2 c ∧ c ≤ 5 * t ∧ s ≤ 20 * t) (Q := fun (e : Int32 × gT × gM) c s => e.1 = nI (vTot (vW V D k m) V D n (dNl V D)) ∧ gTo T M e.2.1 e.2.2 c ∧ c ≤ 25 ∧ s ≤ 100) (fu := gFU) (x := ((0 : Int32), (0 : Int32), T, M)) lc (Nat.lt_of_le_of_lt h5 (by decide)) ⟨rfl, rfl, Nat.zero_le _, gTo_refl, by omega, by omega⟩ (fun t y c s _ hP => ?_)
  obtain ⟨y1, y2, T1, M1⟩ := y
  obtain ⟨rfl, rfl, ht, hG, hc, hs9⟩ := hP
  dsimp only at hG
  have h1 := LK_to hG h
  dsimp only
  unfold f_X10_binding_B26 f_X10_binding_60
  rw [LK_kd h1, Option.bind_some, LK_kB h1, Option.bind_some]
  by_cases e : t = lc
  · rw [if_pos (show Int32.ofNat lc ≤ nI t from nI_le (by omega) (by omega))]
    exact Or.inl ⟨_, _, _, rfl, by rw [e, hs], hG, by omega, by omega⟩
  · have hlt : t < lc := by omega
    have hd := (h.2.2.2.2.1.2.1 t hlt).1
    have hT1 := hG.2.2
    rw [if_neg (show ¬ Int32.ofNat lc ≤ nI t from nI_ge hlt (by omega)), LK_ld h1 hlt, Option.bind_some, p_cand hV h1 hd hn, Option.bind_some, nI_1]
    by_cases hv : dRk V D (ld t) = -1 ∨ dOf V D (ld t) n = -1
    · rw [if_pos hv, if_pos rfl]
      refine Or.inr ⟨hlt, _, _, _, rfl, ?_, rfl, by omega, hG, by omega, by omega⟩
      show nI (sumN _ t) = nI (sumN _ t + (if _ then _ else _))
      rw [if_neg (fun q => q hv)]
      rfl
    · rw [if_neg hv, if_neg (by decide)]
      obtain ⟨v, T2, M2, c2, s2, w1, w2, w3, w4, w5⟩ := p_support (c' := ld t) hV h1 hok h5 hn (by omega) (by omega)
      rw [w1, Option.bind_some, w5, nI_add]
      dsimp only
      rw [cadd_some]
      refine Or.inr ⟨hlt, _, _, _, rfl, ?_, rfl, by omega, gTo_tr hG w2, by omega, by omega⟩
      show nI (sumN _ t + _) = nI (sumN _ t + (if _ then _ else _))
      rw [if_pos (show vCd V D (ld t) n from hv)]
theorem p_binding (hV : gVal T0 V D) (h : LK P T M a A B L R O lc ld V D k m) (hok : wOK k m) (h5 : lc ≤ 5) (hi : i < dNl V D) (hn : n < dNn V D) (hT : T.length + 80 ≤ 900000) : cR T M (f_X10_binding T M a (nI i) (nI n)) 80 320 (fun v _ _ => v = vBd (vW V D k m) V D i n) := by
  have h8 := hV.2.1
  have h12 := hV.2.2.1
  unfold f_X10_binding f_X10_binding_115 f_X10_binding_120
  rw [p_rank h hi h8, Option.bind_some]
  unfold vBd
  by_cases e : dRk V D i = -1
  · rw [if_neg (fun q => (rk_ge0 hV hi).mp q e)]
    exact ⟨_, _, _, _, _, rfl, gTo_refl, by omega, by omega, by rw [if_pos e]⟩
  · rw [if_pos ((rk_ge0 hV hi).mpr e), LK_row h, Option.bind_some, LK_al h]
    obtain ⟨⟨v1, T1, M1⟩, c1, s1, w1, w2, w3, w4, w5⟩ := p_total (i1 := nI i) hV h hok h5 hn (by omega)
    dsimp only at w2 w3
    have hT1 := w3.2.2
    have h1 := LK_to w3 h
    rw [w1, Option.bind_some]
    dsimp only
    rw [p_vote hV h1 hi hn, Option.bind_some, LK_all h1, Option.bind_some, LK_lib h8 h1 hi, Option.bind_some, (h1.2.2.2.1 i hi).1.2.2.2.2, if_neg e, w2]
    have hwin : ∀ {T2 : gT} {M2 : gM} {c2 s2 : Nat} {X : Int32 → gT → gM → Option ((Int32 × gT × gM) × Nat × Nat)}, gTo T M T2 M2 c2 → c2 ≤ 30 → s2 ≤ 120 → ∃ v T3 M3 c3 s3, (f_X10_winner T2 M2 a (nI n)) = some ((v, T3, M3), c3, s3) ∧ gTo T2 M2 T3 M3 c3 ∧ c3 ≤ 50 ∧ s3 ≤ 200 ∧ v = vWin (vW V D k m) V D n := fun {T2 M2 c2 s2 X} g2 hc2 hs2 => p_winner hV (LK_to g2 h) hok h5 hn (by have := g2.2.2; omega)
    by_cases hk : dKp V D i = 0
    · obtain ⟨v, T3, M3, c3, s3, x1, x2, x3, x4, x5⟩ := hwin (X := fun _ _ _ => none) w3 (by omega) (show s1 ≤ 120 by omega)
      rw [if_pos hk, x1, Option.bind_some]
      dsimp only
      rw [cadd_some, cadd_some, if_neg (fun q => by rw [hk] at q; exact absurd q.1 (by decide)), x5]
      exact ⟨_, _, _, _, _, rfl, gTo_tr w3 x2, by omega, by omega, rfl⟩
    · have hk1 : dKp V D i = 1 := (hV.2.2.2.2.2 i hi).2.1.resolve_left hk
      rw [if_neg hk]
      by_cases hv : vVt V D i n = -1
      · obtain ⟨v, T3, M3, c3, s3, x1, x2, x3, x4, x5⟩ := hwin (X := fun _ _ _ => none) w3 (by omega) (show s1 ≤ 120 by omega)
        rw [hv, if_pos (by decide), x1, Option.bind_some]
        dsimp only
        rw [cadd_some, cadd_some, if_neg (fun q => q.2.1 rfl), x5]
        exact ⟨_, _, _, _, _, rfl, gTo_tr w3 x2, by omega, by omega, rfl⟩
      · obtain ⟨q, hq, ev, -⟩ := vVt_ok hV hi hv
        rw [ev, if_neg (nI_pos (by omega))]
        obtain ⟨v, T2, M2, c2, s2, x1, x2, x3, x4, x5⟩ := p_support (c' := q) hV h1 hok h5 hn (by omega) (by omega)
        have h2 := LK_to x2 h1
        have hT2 := x2.2.2
        rw [x1, Option.bind_some]
        dsimp only
        rw [x5, h2.1.2.2.2, nI_clamp (show q < 2 ^ 31 by omega)]
        by_cases hb : (100 : Int32) * nI (vSup (vW V D k m) V D n q (dNl V D)) < gi V D 3 * nI (vTot (vW V D k m) V D n (dNl V D))
        · obtain ⟨v, T3, M3, c3, s3, y1, y2, y3, y4, y5⟩ := hwin (X := fun _ _ _ => none) (gTo_tr w3 x2) (by omega) (show s1 + s2 ≤ 120 by omega)
          rw [if_pos hb, y1, Option.bind_some]
          dsimp only
          rw [cadd_some, cadd_some, cadd_some, if_neg (fun z => z.2.2 hb), y5]
          exact ⟨_, _, _, _, _, rfl, gTo_tr w3 (gTo_tr x2 y2), by omega, by omega, rfl⟩
        · rw [if_neg hb, cadd_some, cadd_some, if_pos ⟨hk1, fun z => nI_nneg (v := q) (by omega) (by decide) z, hb⟩]
          exact ⟨_, _, _, _, _, rfl, gTo_tr w3 x2, by omega, by omega, rfl⟩
end PBD
