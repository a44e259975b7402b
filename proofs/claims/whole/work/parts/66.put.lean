/-! ONE PLACE OF THE DATA IS CHANGED on both sides -/
section PPU
variable {T : gT} {K G N : gM} {Dk : Nat} {k : Nat → Nat × Nat} {m C C' : Nat}
theorem gSl_gen (hS : gSlt T K 37 313 k m C) (hg : ∀ b j, gr G b j = gr K b j) (hco : ∀ b j, gCo b → gi G b j = gi K b j) (u1 : gi G 37 1 = gi K 37 1) (u2 : gi G 37 2 = gi K 37 2) (v : ∀ j, (j = 1 ∨ j = 2 ∨ j = 5 ∨ 198 ≤ j) → j < 1498 → gi G 313 j = gi K 313 j) (pr : ∀ i, i < 8 → dPn G 37 i = dPn K 37 i ∧ (∀ q, q < 8 → dPr G 37 i q = dPr K 37 i q) ∧ gi G 313 (6 + 24 * i + 3) = gi K 313 (6 + 24 * i + 3) ∧ ∀ q, q < 8 → gi G 313 (6 + 24 * i + 4 + q) = gi K 313 (6 + 24 * i + 4 + q)) (sh : gi G 313 0 = gi G 37 3) (tr : ∀ i, i < dNl K 37 → (∃ t, t ≤ 999 ∧ dTr G 37 i = nI t) ∧ gi G 313 (6 + 24 * i) = dTr G 37 i) (kp : ∀ i, i < dNl K 37 → (dKp G 37 i = 0 ∨ dKp G 37 i = 1) ∧ gi G 313 (6 + 24 * i + 1) = dKp G 37 i) (of : ∀ i, i < dNl K 37 → ∀ n, n < 12 → (dOf G 37 i n = -1 ∨ n < dNn K 37 ∧ ((∃ v, v ≤ 9999 ∧ dOf G 37 i n = nI v) ∨ ∃ k, k < dNn K 37 ∧ dOf G 37 i n = -2 - nI k)) ∧ gi G 313 (6 + 24 * i + 12 + n) = dOf G 37 i n) (rk : ∀ i, i < dNl K 37 → (dRk G 37 i = -1 ∨ ∃ r, r < 8 ∧ dRk G 37 i = nI r) ∧ (gi G 313 (6 + 24 * i + 2) ≤ 0 ↔ dRk G 37 i = -1) ∧ (dRk G 37 i ≠ -1 → dRk G 37 i = nI (cntN (fun k => decide (dRk G 37 k ≠ -1 ∧ gi G 313 (6 + 24 * k + 2) < gi G 313 (6 + 24 * i + 2))) (dNl K 37)))) (ck : ∃ c, c ≤ C' ∧ gi G 313 3 = nI c ∧ ∀ i, i < dNl K 37 → ∃ x, x ≤ c ∧ gi G 313 (6 + 24 * i + 2) = nI x) : gSlt T G 37 313 k m C' := by
  obtain ⟨hV, hE, hW, hR, hk, hm, -⟩ := hS
  have nl : dNl G 37 = dNl K 37 := congrArg Int32.toNatClampNeg u1
  have nn : dNn G 37 = dNn K 37 := congrArg Int32.toNatClampNeg u2
  obtain ⟨hD, h8, h12, hn1, hn2, hL⟩ := hV
  refine ⟨⟨gDat_gr hD hg, by rw [nl]; exact h8, by rw [nn]; exact h12, by rw [u1, nl]; exact hn1, by rw [u2, nn]; exact hn2, fun i hi => ?_⟩, ⟨sh, by rw [v 1 (by omega) (by omega), u1]; exact hE.2.1, by rw [v 2 (by omega) (by omega), u2]; exact hE.2.2.1, fun i hi => ?_⟩, gWt_mv hW (hg _ _) (fun b j _ => hg b j) hco, ?_, hk, hm, ?_⟩
  · rw [nl] at hi ⊢
    rw [nn]
    have hi8 : i < 8 := by omega
    obtain ⟨-, -, -, ⟨a4, a5⟩, a6, -⟩ := hL i hi
    obtain ⟨p1, p2, -, -⟩ := pr i hi8
    have epk : dPk G 37 i = dPk K 37 i := congrArg Int32.toNatClampNeg p1
    refine ⟨(tr i hi).1, (kp i hi).1, (rk i hi).1, ⟨by rw [p1, epk]; exact a4, by rw [epk]; exact a5⟩, fun q hq => ?_, fun n hn => (of i hi n hn).1⟩
    rw [epk] at hq
    rw [p2 q (by omega)]
    exact a6 q hq
  · rw [nl] at hi ⊢
    have hi8 : i < 8 := by omega
    obtain ⟨-, -, -, ⟨a4, a5⟩, -, -⟩ := hL i hi
    obtain ⟨p1, p2, p3, p4⟩ := pr i hi8
    have epk : dPk G 37 i = dPk K 37 i := congrArg Int32.toNatClampNeg p1
    obtain ⟨-, -, q3, q4, -, -, -⟩ := hE.2.2.2 i hi
    refine ⟨(tr i hi).2, (kp i hi).2, by rw [p3, p1]; exact q3, fun q hq => ?_, fun n hn => (of i hi n hn).2, (rk i hi).2.1, (rk i hi).2.2⟩
    rw [epk] at hq
    rw [p4 q (by omega), p2 q (by omega)]
    exact q4 q hq
  · rcases hR with ⟨h1, h2, h3⟩ | ⟨h1, h2, h3⟩
    · refine Or.inl ⟨by rw [v 5 (by omega) (by omega)]; exact h1, h2, fun t ht => ?_⟩
      have hp := wP_mono (k := k) ht
      obtain ⟨e1, e2⟩ := h3 t ht
      have hl : 1 ≤ wL (k t) := by unfold wL; split <;> omega
      refine ⟨by rw [v _ (by omega) (by omega)]; exact e1, fun h => ?_⟩
      have hl2 : wL (k t) = 2 := if_pos h
      rw [v _ (by omega) (by omega)]
      exact e2 h
    · exact Or.inr ⟨by rw [v 5 (by omega) (by omega)]; exact h1, h2, h3⟩
  · rw [nl]
    exact ck
/-- ranks and clock as they were -/
theorem gSl_rk (hS : gSlt T K 37 313 k m C) (r : ∀ i, i < 8 → dRk G 37 i = dRk K 37 i ∧ gi G 313 (6 + 24 * i + 2) = gi K 313 (6 + 24 * i + 2)) (c3 : gi G 313 3 = gi K 313 3) : (∀ i, i < dNl K 37 → (dRk G 37 i = -1 ∨ ∃ r, r < 8 ∧ dRk G 37 i = nI r) ∧ (gi G 313 (6 + 24 * i + 2) ≤ 0 ↔ dRk G 37 i = -1) ∧ (dRk G 37 i ≠ -1 → dRk G 37 i = nI (cntN (fun k => decide (dRk G 37 k ≠ -1 ∧ gi G 313 (6 + 24 * k + 2) < gi G 313 (6 + 24 * i + 2))) (dNl K 37)))) ∧ ∃ c, c ≤ C ∧ gi G 313 3 = nI c ∧ ∀ i, i < dNl K 37 → ∃ x, x ≤ c ∧ gi G 313 (6 + 24 * i + 2) = nI x := by
  obtain ⟨hV, hE, -, -, -, -, c, c1, c2, c4⟩ := hS
  have h8 := hV.2.1
  refine ⟨fun i hi => ?_, c, c1, c3.trans c2, fun i hi => ?_⟩
  · obtain ⟨r1, r2⟩ := r i (by omega)
    obtain ⟨-, -, -, -, -, q6, q7⟩ := hE.2.2.2 i hi
    rw [r1, r2]
    refine ⟨(hV.2.2.2.2.2 i hi).2.2.1, q6, fun hl => (q7 hl).trans (congrArg nI (cntN_ext (fun j hj => ?_)))⟩
    obtain ⟨s1, s2⟩ := r j (by omega)
    rw [s1, s2]
  · rw [(r i (by omega)).2]
    exact c4 i hi
theorem gSl_put {b0 j0 p0 : Nat} {x y : Int32} (hS : gSlt T N Dk 313 k m C) (hDk : gD Dk) (hda : gDat T N 37) (h37 : ∀ b j, dIn 37 b j → gi N b j = if b = b0 ∧ j = j0 then x else gi N (b - 37 + Dk) j) (hb : dIn 37 b0 j0) (hg4 : gr N 37 4 = gr N Dk 4) (up : ∀ K, gSlt T K 37 313 k m C → dNl K 37 = dNl N Dk → dNn K 37 = dNn N Dk → gSlt T (si (si K b0 j0 x) 313 p0 y) 37 313 k m C') : gSlt T (si N 313 p0 y) 37 313 k m C' := by
  let K : gM := (fun b j => @ite Int32 (dIn 37 b j) (Classical.propDecidable _) (gi N (b - 37 + Dk) j) (gi N b j), N.2.1, N.2.2)
  have k1 : ∀ b j, dIn 37 b j → gi K b j = gi N (b - 37 + Dk) j := fun b j h => if_pos h
  have k2 : ∀ b j, ¬ dIn 37 b j → gi K b j = gi N b j := fun b j h => if_neg h
  have n313 : ∀ j, ¬ dIn 37 313 j := fun j q => by
    have := dIn_rng q
    omega
  have hdK : dSame K 37 N Dk := fun b j h => k1 b j h
  have hK : gSlt T K 37 313 k m C := gSl_mv hS (Nat.le_refl C) (gDat_gr hda (fun _ _ => rfl)) hdK hg4 (fun _ _ _ => rfl) (fun b j h => k2 b j (fun q => dIn_noCo (Or.inr (Or.inl rfl)) q h)) (fun j _ => k2 313 j (n313 j))
  have hr0 := dIn_rng hb
  refine gSl_mv (up K hK (dNl_same hdK) (dNn_same hdK)) (Nat.le_refl C') (gDat_gr hda (fun _ _ => rfl)) (fun b j h => ?_) rfl (fun _ _ _ => rfl) (fun b j h => ?_) (fun j _ => ?_)
  · have hr := dIn_rng h
    rw [show b - 37 + 37 = b by omega, gi_si, if_neg (by omega), gi_si, if_neg (by omega), gi_si, h37 b j h]
    by_cases e : b = b0 ∧ j = j0
    · rw [if_pos e, if_pos e]
    · rw [if_neg e, if_neg e, k1 b j h]
  · have hc := gCo_no h
    rw [gi_si, if_neg (by omega), gi_si, if_neg (by omega), gi_si, if_neg (fun q => dIn_noCo (Or.inr (Or.inl rfl)) hb (by rw [← q.1]; exact h)), k2 b j (fun q => dIn_noCo (Or.inr (Or.inl rfl)) q h)]
  · rw [gi_si, gi_si]
    by_cases e : (313 : Nat) = 313 ∧ j = p0
    · rw [if_pos e, if_pos e]
    · rw [if_neg e, if_neg e, gi_si, if_neg (by omega), k2 313 j (n313 j)]
theorem gi2 {b0 j0 p0 b j : Nat} {x y : Int32} (h1 : ¬ (b = 313 ∧ j = p0)) (h2 : ¬ (b = b0 ∧ j = j0)) : gi (si (si K b0 j0 x) 313 p0 y) b j = gi K b j := by
  rw [gi_si, if_neg h1, gi_si, if_neg h2]
theorem gi2e {b0 j0 p0 b j : Nat} {x y : Int32} (h1 : ¬ (b = 313 ∧ j = p0)) : gi (si (si K b0 j0 x) 313 p0 y) b j = if b = b0 ∧ j = j0 then x else gi K b j := by
  rw [gi_si, if_neg h1, gi_si]
theorem upTrust {a t : Nat} (ht : t ≤ 999) (ha8 : a < 8) (hS : gSlt T K 37 313 k m C) : gSlt T (si (si K (42 + 3 * a) 0 (nI t)) 313 (6 + 24 * a) (nI t)) 37 313 k m C := by
  have hV := hS.1
  have hE := hS.2.1
  have h8 := hV.2.1
  obtain ⟨r1, r2⟩ := gSl_rk (G := si (si K (42 + 3 * a) 0 (nI t)) 313 (6 + 24 * a) (nI t)) hS (fun i hi => ⟨gi2 (by omega) (by omega), gi2 (by omega) (by omega)⟩) (gi2 (by omega) (by omega))
  refine gSl_gen hS (fun _ _ => rfl) (fun b j h => ?_) (gi2 (by omega) (by omega)) (gi2 (by omega) (by omega)) (fun j hj _ => gi2 (by omega) (by omega)) (fun i hi => ⟨gi2 (by omega) (by omega), fun q _ => gi2 (by omega) (by omega), gi2 (by omega) (by omega), fun q _ => gi2 (by omega) (by omega)⟩) ?_ (fun i hi => ?_) (fun i hi => ?_) (fun i hi n hn => ?_) r1 r2
  · have := gCo_no h
    rw [gi_si, if_neg (by omega), gi_si, if_neg (by omega)]
  · rw [gi_si, if_neg (by omega), gi_si, if_neg (by omega), gi_si, if_neg (by omega), gi_si, if_neg (by omega)]
    exact hE.1
  · rw [show dTr (si (si K (42 + 3 * a) 0 (nI t)) 313 (6 + 24 * a) (nI t)) 37 i = if i = a then nI t else dTr K 37 i from (gi2e (by omega)).trans (by
      by_cases e : i = a
      · rw [if_pos (by omega), if_pos e]
      · rw [if_neg (by omega), if_neg e])]
    by_cases e : i = a
    · rw [if_pos e, e, gi_si, if_pos ⟨rfl, rfl⟩]
      exact ⟨⟨t, ht, rfl⟩, rfl⟩
    · rw [if_neg e, gi_si, if_neg (by omega), gi_si, if_neg (by omega)]
      exact ⟨(hV.2.2.2.2.2 i hi).1, (hE.2.2.2 i hi).1⟩
  · rw [show dKp (si (si K (42 + 3 * a) 0 (nI t)) 313 (6 + 24 * a) (nI t)) 37 i = dKp K 37 i from gi2 (by omega) (by omega), gi_si, if_neg (by omega), gi_si, if_neg (by omega)]
    exact ⟨(hV.2.2.2.2.2 i hi).2.1, (hE.2.2.2 i hi).2.1⟩
  · rw [show dOf (si (si K (42 + 3 * a) 0 (nI t)) 313 (6 + 24 * a) (nI t)) 37 i n = dOf K 37 i n from gi2 (by omega) (by omega), gi_si, if_neg (by omega), gi_si, if_neg (by omega)]
    exact ⟨(hV.2.2.2.2.2 i hi).2.2.2.2.2 n hn, (hE.2.2.2 i hi).2.2.2.2.1 n hn⟩
theorem upKeeps {a : Nat} {x : Int32} (hx : x = 0 ∨ x = 1) (ha8 : a < 8) (hS : gSlt T K 37 313 k m C) : gSlt T (si (si K (42 + 3 * a) 1 x) 313 (6 + 24 * a + 1) x) 37 313 k m C := by
  have hV := hS.1
  have hE := hS.2.1
  have h8 := hV.2.1
  obtain ⟨r1, r2⟩ := gSl_rk (G := si (si K (42 + 3 * a) 1 x) 313 (6 + 24 * a + 1) x) hS (fun i hi => ⟨gi2 (by omega) (by omega), gi2 (by omega) (by omega)⟩) (gi2 (by omega) (by omega))
  refine gSl_gen hS (fun _ _ => rfl) (fun b j h => ?_) (gi2 (by omega) (by omega)) (gi2 (by omega) (by omega)) (fun j hj _ => gi2 (by omega) (by omega)) (fun i hi => ⟨gi2 (by omega) (by omega), fun q _ => gi2 (by omega) (by omega), gi2 (by omega) (by omega), fun q _ => gi2 (by omega) (by omega)⟩) ?_ (fun i hi => ?_) (fun i hi => ?_) (fun i hi n hn => ?_) r1 r2
  · have := gCo_no h
    rw [gi_si, if_neg (by omega), gi_si, if_neg (by omega)]
  · rw [gi_si, if_neg (by omega), gi_si, if_neg (by omega), gi_si, if_neg (by omega), gi_si, if_neg (by omega)]
    exact hE.1
  · rw [show dTr (si (si K (42 + 3 * a) 1 x) 313 (6 + 24 * a + 1) x) 37 i = dTr K 37 i from gi2 (by omega) (by omega), gi_si, if_neg (by omega), gi_si, if_neg (by omega)]
    exact ⟨(hV.2.2.2.2.2 i hi).1, (hE.2.2.2 i hi).1⟩
  · rw [show dKp (si (si K (42 + 3 * a) 1 x) 313 (6 + 24 * a + 1) x) 37 i = if i = a then x else dKp K 37 i from (gi2e (by omega)).trans (by
      by_cases e : i = a
      · rw [if_pos (by omega), if_pos e]
      · rw [if_neg (by omega), if_neg e])]
    by_cases e : i = a
    · rw [if_pos e, e, gi_si, if_pos ⟨rfl, rfl⟩]
      exact ⟨hx, rfl⟩
    · rw [if_neg e, gi_si, if_neg (by omega), gi_si, if_neg (by omega)]
      exact ⟨(hV.2.2.2.2.2 i hi).2.1, (hE.2.2.2 i hi).2.1⟩
  · rw [show dOf (si (si K (42 + 3 * a) 1 x) 313 (6 + 24 * a + 1) x) 37 i n = dOf K 37 i n from gi2 (by omega) (by omega), gi_si, if_neg (by omega), gi_si, if_neg (by omega)]
    exact ⟨(hV.2.2.2.2.2 i hi).2.2.2.2.2 n hn, (hE.2.2.2 i hi).2.2.2.2.1 n hn⟩
theorem upShare {x : Int32} (hS : gSlt T K 37 313 k m C) : gSlt T (si (si K 37 3 x) 313 0 x) 37 313 k m C := by
  have hV := hS.1
  have hE := hS.2.1
  have h8 := hV.2.1
  obtain ⟨r1, r2⟩ := gSl_rk (G := si (si K 37 3 x) 313 0 x) hS (fun i hi => ⟨gi2 (by omega) (by omega), gi2 (by omega) (by omega)⟩) (gi2 (by omega) (by omega))
  refine gSl_gen hS (fun _ _ => rfl) (fun b j h => ?_) (gi2 (by omega) (by omega)) (gi2 (by omega) (by omega)) (fun j hj _ => gi2 (by omega) (by omega)) (fun i hi => ⟨gi2 (by omega) (by omega), fun q _ => gi2 (by omega) (by omega), gi2 (by omega) (by omega), fun q _ => gi2 (by omega) (by omega)⟩) ?_ (fun i hi => ?_) (fun i hi => ?_) (fun i hi n hn => ?_) r1 r2
  · have := gCo_no h
    rw [gi_si, if_neg (by omega), gi_si, if_neg (by omega)]
  · rw [gi_si, if_pos ⟨rfl, rfl⟩, gi_si, if_neg (by omega), gi_si, if_pos ⟨rfl, rfl⟩]
  · rw [show dTr (si (si K 37 3 x) 313 0 x) 37 i = dTr K 37 i from gi2 (by omega) (by omega), gi_si, if_neg (by omega), gi_si, if_neg (by omega)]
    exact ⟨(hV.2.2.2.2.2 i hi).1, (hE.2.2.2 i hi).1⟩
  · rw [show dKp (si (si K 37 3 x) 313 0 x) 37 i = dKp K 37 i from gi2 (by omega) (by omega), gi_si, if_neg (by omega), gi_si, if_neg (by omega)]
    exact ⟨(hV.2.2.2.2.2 i hi).2.1, (hE.2.2.2 i hi).2.1⟩
  · rw [show dOf (si (si K 37 3 x) 313 0 x) 37 i n = dOf K 37 i n from gi2 (by omega) (by omega), gi_si, if_neg (by omega), gi_si, if_neg (by omega)]
    exact ⟨(hV.2.2.2.2.2 i hi).2.2.2.2.2 n hn, (hE.2.2.2 i hi).2.2.2.2.1 n hn⟩
theorem upOffer {a n0 : Nat} {x : Int32} (ha8 : a < 8) (hn0 : n0 < dNn K 37) (hx : x = -1 ∨ (∃ v, v ≤ 9999 ∧ x = nI v) ∨ ∃ q, q < dNn K 37 ∧ x = -2 - nI q) (hS : gSlt T K 37 313 k m C) : gSlt T (si (si K (43 + 3 * a) n0 x) 313 (6 + 24 * a + 12 + n0) x) 37 313 k m C := by
  have hV := hS.1
  have hE := hS.2.1
  have h8 := hV.2.1
  have h12 := hV.2.2.1
  obtain ⟨r1, r2⟩ := gSl_rk (G := si (si K (43 + 3 * a) n0 x) 313 (6 + 24 * a + 12 + n0) x) hS (fun i hi => ⟨gi2 (by omega) (by omega), gi2 (by omega) (by omega)⟩) (gi2 (by omega) (by omega))
  refine gSl_gen hS (fun _ _ => rfl) (fun b j h => ?_) (gi2 (by omega) (by omega)) (gi2 (by omega) (by omega)) (fun j hj _ => gi2 (by omega) (by omega)) (fun i hi => ⟨gi2 (by omega) (by omega), fun q _ => gi2 (by omega) (by omega), gi2 (by omega) (by omega), fun q _ => gi2 (by omega) (by omega)⟩) ?_ (fun i hi => ?_) (fun i hi => ?_) (fun i hi n hn => ?_) r1 r2
  · have := gCo_no h
    rw [gi_si, if_neg (by omega), gi_si, if_neg (by omega)]
  · rw [gi_si, if_neg (by omega), gi_si, if_neg (by omega), gi_si, if_neg (by omega), gi_si, if_neg (by omega)]
    exact hE.1
  · rw [show dTr (si (si K (43 + 3 * a) n0 x) 313 (6 + 24 * a + 12 + n0) x) 37 i = dTr K 37 i from gi2 (by omega) (by omega), gi_si, if_neg (by omega), gi_si, if_neg (by omega)]
    exact ⟨(hV.2.2.2.2.2 i hi).1, (hE.2.2.2 i hi).1⟩
  · rw [show dKp (si (si K (43 + 3 * a) n0 x) 313 (6 + 24 * a + 12 + n0) x) 37 i = dKp K 37 i from gi2 (by omega) (by omega), gi_si, if_neg (by omega), gi_si, if_neg (by omega)]
    exact ⟨(hV.2.2.2.2.2 i hi).2.1, (hE.2.2.2 i hi).2.1⟩
  · rw [show dOf (si (si K (43 + 3 * a) n0 x) 313 (6 + 24 * a + 12 + n0) x) 37 i n = if i = a ∧ n = n0 then x else dOf K 37 i n from (gi2e (by omega)).trans (by
      by_cases e : i = a ∧ n = n0
      · rw [if_pos (by omega), if_pos e]
      · rw [if_neg (by omega), if_neg e])]
    by_cases e : i = a ∧ n = n0
    · rw [if_pos e, e.1, e.2, gi_si, if_pos ⟨rfl, rfl⟩]
      exact ⟨hx.imp id (fun q => ⟨hn0, q⟩), rfl⟩
    · rw [if_neg e, gi_si, if_neg (by omega), gi_si, if_neg (by omega)]
      exact ⟨(hV.2.2.2.2.2 i hi).2.2.2.2.2 n hn, (hE.2.2.2 i hi).2.2.2.2.1 n hn⟩
end PPU
