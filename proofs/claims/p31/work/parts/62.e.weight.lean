/-! A LINKER'S WEIGHTS -/
theorem gko_some {T : gT} {e kd n : Nat} (h : T[e]? = some (kd, n)) : gko T (some e) kd = some () := gkd_ok h
theorem gsm_some {T : gT} {e kd n : Nat} (h : T[e]? = some (kd, n)) : gsm T (some e) kd = some e := by
  show (if _ then _ else _) = _
  rw [h]
  exact if_pos rfl
theorem lmin_L {z c : Int} (h1 : -4000000000000000000 ≤ z) (h2 : z ≤ 4000000000000000000) (h3 : -4000000000000000000 ≤ c) (h4 : c ≤ 4000000000000000000) : lmin (iL c) (iL z) = iL (if z < c then z else c) := by
  have ez := iL_toInt h1 h2
  have ec := iL_toInt h3 h4
  show (if _ then _ else _) = _
  by_cases q : z < c
  · rw [if_pos (by rw [Int64.lt_iff_toInt_lt, ez, ec]; exact q), if_pos q]
  · rw [if_neg (by rw [Int64.lt_iff_toInt_lt, ez, ec]; exact q), if_neg q]
theorem lmax_L {z c : Int} (h1 : -4000000000000000000 ≤ z) (h2 : z ≤ 4000000000000000000) (h3 : -4000000000000000000 ≤ c) (h4 : c ≤ 4000000000000000000) : lmax (iL c) (iL z) = iL (if z < c then c else z) := by
  have ez := iL_toInt h1 h2
  have ec := iL_toInt h3 h4
  show (if _ then _ else _) = _
  by_cases q : z < c
  · rw [if_pos (by rw [Int64.lt_iff_toInt_lt, ez, ec]; exact q), if_pos q]
  · rw [if_neg (by rw [Int64.lt_iff_toInt_lt, ez, ec]; exact q), if_neg q]
theorem clampW {z : Int} (h1 : -1000000 ≤ z) (h2 : z ≤ 1000000) : (lmax (0 : Int64) (lmin (9999 : Int64) (iL z))).toInt32 = nI (if z < 0 then 0 else if 9999 < z then 9999 else z.toNat) := by
  rw [show (9999 : Int64) = iL 9999 from rfl, show (0 : Int64) = iL 0 from rfl, lmin_L (by omega) (by omega) (by omega) (by omega), lmax_L (by split <;> omega) (by split <;> omega) (by omega) (by omega), iL_I]
  by_cases c1 : z < 0
  · rw [if_pos (show z < 9999 by omega), if_pos c1, if_pos c1]
    rfl
  · by_cases c2 : 9999 < z
    · rw [if_neg (show ¬ z < 9999 by omega), if_neg (by omega), if_neg c1, if_pos c2]
      rfl
    · rw [if_neg c1, if_neg c2]
      by_cases c3 : z < 9999
      · rw [if_pos c3, if_neg c1, ← iI_N, Int.toNat_of_nonneg (by omega)]
      · rw [if_neg c3, if_neg (by omega), show z = 9999 by omega]
        rfl
theorem cnt_ld {c' : Nat → Bool} {P : Nat → Prop} {T T0 : gT} {M V : gM} {a A B : Nat} {L R O : Nat → Nat} {lc : Nat} {ld : Nat → Nat} {D : Nat} {k : Nat → Nat × Nat} {m : Nat} (hV : gVal T0 V D) (h : LK P T M a A B L R O lc ld V D k m) : cntN (fun t => c' (ld t)) lc = cntN (fun i => decide (dRk V D i ≠ -1) && c' i) (dNl V D) := by
  rw [cnt_sum, cnt_sum, LK_sum (f := fun i => if c' i then 1 else 0) hV h]
  refine sumN_ext (fun i _ => ?_)
  by_cases e : dRk V D i = -1
  · simp [e]
  · simp [e]
section PWT
variable {P : Nat → Prop} {T T0 : gT} {M V : gM} {a A B : Nat} {L R O : Nat → Nat} {lc : Nat} {ld : Nat → Nat} {D : Nat} {k : Nat → Nat × Nat} {m c i n : Nat}
theorem p_frd (hV : gVal T0 V D) (h : LK P T M a A B L R O lc ld V D k m) : gloop (fun x => f_X10_weight_B24 T M a (nI i) x.1 B (Int32.ofNat lc) x.2) gFU ((0 : Int32), (0 : Int32)) = some (nI (vFr V D (nI i))) := by
  have h8 := hV.2.1
  have hlc := h.2.2.2.2.1.1
  have e : cntN (fun t => anyN (fun j => decide (dPr V D (ld t) j = nI i)) (dPk V D (ld t))) lc = vFr V D (nI i) := cnt_ld (c' := fun q => anyN (fun j => decide (dPr V D q j = nI i)) (dPk V D q)) hV h
  rw [← e]
  refine gloop_at (fun t => (nI (cntN (fun t => anyN (fun j => decide (dPr V D (ld t) j = nI i)) (dPk V D (ld t))) t), nI t)) lc rfl (Nat.lt_of_le_of_lt hlc (by decide)) (fun t ht => ?_) ?_
  · have hlt := (h.2.2.2.2.1.2.1 t ht).1
    have hR := (h.2.2.2.1 _ hlt).2.1
    have hpk := (hV.2.2.2.2.2 _ hlt).2.2.2.1.2
    dsimp only
    unfold f_X10_weight_B24 f_X10_weight_57
    rw [if_neg (show ¬ Int32.ofNat lc ≤ nI t from nI_ge ht (by omega)), LK_ld h ht, Option.bind_some, LK_all h, Option.bind_some, LK_lib h8 h hlt, Option.bind_some, LK_prf h hlt, Option.bind_some, p_has hR.2.2.1 (by omega), Option.bind_some, anyN_ext (c := fun j => decide (gi M (R (ld t)) j = nI i)) (e := fun j => decide (dPr V D (ld t) j = nI i)) (fun j hj => by rw [hR.2.2.2 j hj]), nI_1, cntN]
    by_cases g : anyN (fun j => decide (dPr V D (ld t) j = nI i)) (dPk V D (ld t)) = true
    · rw [if_pos g, if_neg (by decide), if_pos g, nI_1]
    · rw [if_neg g, if_pos rfl, if_neg g]
      rfl
  · dsimp only
    unfold f_X10_weight_B24
    rw [if_pos (show Int32.ofNat lc ≤ nI lc from nI_le (Nat.le_refl _) (by omega))]
theorem p_weight (hV : gVal T0 V D) (h : LK P T M a A B L R O lc ld V D k m) (hok : wOK k m) (hi : i < dNl V D) (hT : T.length + 1 ≤ 900000) : cR T M (f_X10_weight T M a (nI i)) 1 4 (fun v _ _ => v = if dRk V D i = -1 then -1 else nI (vW V D k m i)) := by
  have h8 := hV.2.1
  unfold f_X10_weight f_X10_weight_125
  rw [p_rank h hi h8, Option.bind_some]
  by_cases e : dRk V D i = -1
  · rw [if_neg (fun q => (rk_ge0 hV hi).mp q e)]
    exact ⟨_, _, _, _, _, rfl, gTo_refl, by omega, by omega, by rw [if_pos e]⟩
  · have hQ := vQ_le hV hi
    have hL := h.2.2.2.1 i hi
    rw [if_pos ((rk_ge0 hV hi).mpr e), LK_row h, Option.bind_some, LK_al h, p_frd hV h, Option.bind_some, LK_all h, Option.bind_some, LK_lib h8 h hi, Option.bind_some, hL.1.2.2.2.1, vQ_0 hV hi, ← iI_N, iI_L (by omega) (by have := hQ 0 (by decide); omega)]
    rcases h.2.2.2.2.2 with ⟨t1, rfl, t3⟩ | ⟨e9, t1, t2⟩
    · rw [t1, show gko T none 17 = some () from rfl, Option.bind_some, if_pos rfl]
      refine ⟨_, _, _, _, _, rfl, gTo_refl, by omega, by omega, ?_⟩
      rw [if_neg e, clampW (by omega) (by have := hQ 0 (by decide); omega)]
      congr 1
      show _ = wV k 1 (vQ V D i)
      unfold wV
      have ew : wS k (vQ V D i) 1 0 = (vQ V D i 0 : Int) := by
        show (if (k 0).1 = 0 then _ else if (k 0).1 = 1 then wU (wS k (vQ V D i) 0) (wH k 0) (vQ V D i (k 0).2 : Int) else _) 0 = _
        rw [t3]
        rfl
      rw [ew]
    · have se : T[e9]? = some (17, 0) := t2.2.1
      have hT1 : T.length < 900000 := by omega
      have sq : (T ++ [(12, 4)])[T.length]? = some (12, 4) := sh_new
      have ql : ∀ {M1 : gM} {j : Nat} {w : Int64}, j < 4 → astl (T ++ [(12, 4)]) M1 T.length (nI j) w = some (sl M1 T.length j w) := fun hj => astl_ok sq hj (by decide)
      have ql0 : ∀ {M1 : gM} {w : Int64}, astl (T ++ [(12, 4)]) M1 T.length (0 : Int32) w = some (sl M1 T.length 0 w) := ql (j := 0) (by decide)
      have ql1 : ∀ {M1 : gM} {w : Int64}, astl (T ++ [(12, 4)]) M1 T.length (1 : Int32) w = some (sl M1 T.length 1 w) := ql (j := 1) (by decide)
      have ql2 : ∀ {M1 : gM} {w : Int64}, astl (T ++ [(12, 4)]) M1 T.length (2 : Int32) w = some (sl M1 T.length 2 w) := ql (j := 2) (by decide)
      have ql3 : ∀ {M1 : gM} {w : Int64}, astl (T ++ [(12, 4)]) M1 T.length (3 : Int32) w = some (sl M1 T.length 3 w) := ql (j := 3) (by decide)
      have g0 : gTo T M (T ++ [(12, 4)]) (zr M T.length) 1 := gTo_new
      rw [t1, gko_some se, Option.bind_some, if_neg (fun q => nomatch q), Option.bind_some, gnew_ok hT1, Option.bind_some]
      dsimp only
      have gl1 : gi (zr M T.length) (L i) 0 = nI (vQ V D i 0) := by rw [gTo_gi g0 hL.1.2.2.1, hL.1.2.2.2.1, vQ_0 hV hi]
      rw [ql0, Option.bind_some]
      have g1 := gTo_sl (x := (gi (zr M T.length) (L i) 0).toInt64) (k := 0) g0 (Nat.le_refl _)
      rw [p_rank (LK_to g1 h) hi h8, Option.bind_some, ql1, Option.bind_some]
      have g2 := gTo_sl (x := (dRk V D i).toInt64) (k := 1) g1 (Nat.le_refl _)
      rw [p_offered hV (LK_to g2 h) hi, Option.bind_some, ql2, Option.bind_some]
      have g3 := gTo_sl (x := (nI (cntN (fun n => decide (dOf V D i n ≠ -1)) 12)).toInt64) (k := 2) g2 (Nat.le_refl _)
      rw [ql3, Option.bind_some]
      have g4 := gTo_sl (x := (nI (vFr V D (nI i))).toInt64) (k := 3) g3 (Nat.le_refl _)
      rw [gsm_some (gTo_sh g0 se), Option.bind_some]
      generalize hM4 : sl (sl (sl (sl (zr M T.length) T.length 0 (gi (zr M T.length) (L i) 0).toInt64) T.length 1 (dRk V D i).toInt64) T.length 2 (nI (cntN (fun n => decide (dOf V D i n ≠ -1)) 12)).toInt64) T.length 3 (nI (vFr V D (nI i))).toInt64 = M4 at g4 ⊢
      have hv : ∀ q, q < 4 → gl M4 T.length q = iL (vQ V D i q) := fun q hq => by
        have hq2 := hQ q hq
        rw [← iI_L (by omega) (by omega), iI_N, ← hM4, gl_sl, gl_sl, gl_sl, gl_sl]
        rcases (show q = 0 ∨ q = 1 ∨ q = 2 ∨ q = 3 by omega) with rfl | rfl | rfl | rfl
        · rw [if_neg (by omega), if_neg (by omega), if_neg (by omega), if_pos ⟨rfl, rfl⟩, gl1]
        · rw [if_neg (by omega), if_neg (by omega), if_pos ⟨rfl, rfl⟩, ← vQ_1 hV hi e]
        · rw [if_neg (by omega), if_pos ⟨rfl, rfl⟩]
          rfl
        · rw [if_pos ⟨rfl, rfl⟩]
          rfl
      obtain ⟨-, -, -, hval⟩ := p_val (M := M4) hok.2 hQ sq hv 3 (n := 6) (gND_ke (gKe_To g4) t2) (Nat.le_refl m) (by decide)
      rw [show f_X11_value_c (T ++ [(12, 4)]) M4 e9 T.length = some (iL (wS k (vQ V D i) m 0)) from hval, Option.bind_some, cadd_some]
      refine ⟨_, _, _, _, _, rfl, g4, by omega, by omega, ?_⟩
      obtain ⟨w1, w2⟩ := wS_in hok.2 hQ m (Nat.le_refl m) 0
      rw [if_neg e, clampW w1 w2]
      rfl
end PWT
