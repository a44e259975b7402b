/-! A LINKER'S CALLS -/
theorem p_with {T : gT} {M : gM} {b p : Nat} {x : Int32} (hb : T[b]? = some (11, p)) (hp : p < 2000) (hT : T.length < 900000) : cR T M (f_L_with T M b x) 1 (p + 1) (fun v T' M' => v = T.length ∧ T'[T.length]? = some (11, p + 1) ∧ (∀ j, j < p → gi M' T.length j = gi M b j) ∧ gi M' T.length p = x) := by
  have hne := sh_lt hb
  have hb1 : (T ++ [(11, p + 1)])[b]? = some (11, p) := by rw [List.getElem?_append_left hne]; exact hb
  have hs : (T ++ [(11, p + 1)])[T.length]? = some (11, p + 1) := sh_new
  unfold f_L_with
  rw [alen_of hb, show Int32.ofNat p + (1 : Int32) = nI (p + 1) from nI_1 p, gnewa_ok hT (by omega), Option.bind_some, nI_clamp (show p + 1 < 2 ^ 31 by omega)]
  dsimp only
  have hL : gloop (fun y : Int32 × gM => f_L_with_B9 (T ++ [(11, p + 1)]) y.2 b x T.length y.1) gFU ((0 : Int32), zr M T.length) = some (cpi (zr M T.length) b 0 T.length 0 p) := by
    refine gloop_at (fun t => (nI t, cpi (zr M T.length) b 0 T.length 0 t)) p ?_ (Nat.lt_of_lt_of_le hp (by decide)) (fun t ht => ?_) ?_
    · show ((0 : Int32), zr M T.length) = (nI 0, cpi (zr M T.length) b 0 T.length 0 0)
      rw [cpi_0]
      rfl
    · dsimp only
      unfold f_L_with_B9
      rw [alen_of hb1, if_neg (show ¬ Int32.ofNat p ≤ nI t from nI_ge ht (by omega)), ald_ok hb1 ht (by omega), Option.bind_some, ast_ok hs (by omega) (by omega), Option.bind_some, nI_1, gi_cpi, if_neg (by omega), ← cpi_succ, Nat.zero_add]
    · dsimp only
      unfold f_L_with_B9
      rw [alen_of hb1, if_pos (show Int32.ofNat p ≤ nI p from nI_le (Nat.le_refl _) (by omega))]
  rw [hL, Option.bind_some, alen_of hb1, show ast (T ++ [(11, p + 1)]) (cpi (zr M T.length) b 0 T.length 0 p) T.length (Int32.ofNat p) x = some (si (cpi (zr M T.length) b 0 T.length 0 p) T.length p x) from ast_ok hs (by omega) (by omega), Option.bind_some, cadd_some]
  have g0 : gTo T M (T ++ [(11, p + 1)]) (cpi (zr M T.length) b 0 T.length 0 p) 1 := ⟨gpush_ext, fun c hc => ⟨fun j => by rw [gi_cpi, if_neg (by omega), gi_zr, if_neg (by omega)], fun j => by rw [gl_cpi, gl_zr, if_neg (by omega)], fun j => by rw [gr_cpi, gr_zr, if_neg (by omega)]⟩, by rw [List.length_append]; rfl⟩
  refine ⟨_, _, _, _, _, rfl, gTo_si g0 (Nat.le_refl _), by omega, by omega, rfl, hs, fun j hj => ?_, by rw [gi_si, if_pos ⟨rfl, rfl⟩]⟩
  rw [gi_si, if_neg (by omega), gi_cpi, if_pos (by omega), gi_zr, if_neg (by omega)]
  congr 1
  omega
/-- the pairs that there are: at most 20 -/
def okP (x : Nat) : Bool := decide (x / 12 < 5 ∧ x % 12 < 4)
theorem okP_20 : cntN okP 96 = 20 := by decide +kernel
theorem cnt_le {c e : Nat → Bool} : ∀ {n : Nat}, (∀ k, k < n → c k = true → e k = true) → cntN c n ≤ cntN e n
  | 0, _ => Nat.le_refl _
  | n + 1, h => by
    have ih := cnt_le (n := n) (fun k hk => h k (by omega))
    have hn := h n (by omega)
    unfold cntN
    by_cases hc : c n = true
    · rw [if_pos hc, if_pos (hn hc)]
      omega
    · rw [if_neg hc]
      omega
section PCA
variable {P : Nat → Prop} {T T0 : gT} {M V : gM} {a A B : Nat} {L R O : Nat → Nat} {lc : Nat} {ld : Nat → Nat} {D : Nat} {k : Nat → Nat × Nat} {m i n R0 : Nat}
theorem nI_100 {c q : Nat} : (100 : Int32) * nI c + nI q = nI (100 * c + q) := by
  rw [show (100 : Int32) = nI 100 from rfl, nI_mul, nI_add]
theorem p_call (hV : gVal T0 V D) (h : LK P T M a A B L R O lc ld V D k m) (hl : dNl V D ≤ 5) (h4 : dNn V D ≤ 4) (hb : gBR T M R0 (dNl V D) (dNn V D)) (hw : ∀ i, i < dNl V D → ∀ n, n < dNn V D → gi M (R0 + 1 + i) n = vBd (vW V D k m) V D i n) (hi : i < dNl V D) (hn : n < dNn V D) (hT : T.length + 24 ≤ 900000) : cR T M (f_X10_call T M a R0 (nI i) (nI n)) 24 450 (fun v T' M' => T'[v]? = some (11, 2) ∧ gi M' v 0 = (vCal (vW V D k m) V D i n).1) := by
  have h8 := hV.2.1
  have hs0 : (T ++ [(11, 0)])[T.length]? = some (11, 0) := sh_new
  unfold f_X10_call
  rw [gnew_ok (by omega), Option.bind_some]
  dsimp only
  have hG0 : gTo T M (T ++ [(11, 0)]) (zr M T.length) 1 := gTo_new
  generalize T ++ [(11, 0)] = T1 at hG0 hs0 ⊢
  generalize zr M T.length = M1 at hG0 ⊢
  have hl1 := hG0.2.2
  obtain ⟨⟨v9, T2, M2⟩, c2, s2, e1, e2, e3, e4, e5, e6⟩ := loopc_ex (B := fun x : Nat × Int32 × Int32 × Int32 × gT × gM => f_X10_call_B14 x.2.2.2.2.1 x.2.2.2.2.2 a R0 x.1 x.2.1 x.2.2.1 x.2.2.2.1) (P := fun t y c s => ∃ (Vv : Nat → Bool) (b q l : Nat), y.2.1 = nI b ∧ y.2.2.1 = nI q ∧ b < dNl V D ∧ q < dNn V D ∧ gTo T M y.2.2.2.2.1 y.2.2.2.2.2 (1 + c) ∧ c ≤ t ∧ s ≤ 21 * t ∧ y.2.2.2.2.1[y.1]? = some (11, t) ∧ cntN Vv 96 = t ∧ (∀ x, Vv x = true → okP x = true) ∧ (∀ b q, b < 5 → q < 4 → anyN (fun j => decide (gi y.2.2.2.2.2 y.1 j = nI (100 * b + q))) t = Vv (12 * b + q)) ∧ (vGo (vW V D k m) V D (96 - t) Vv b q l).1 = (vCal (vW V D k m) V D i n).1) (Q := fun (e : Nat × gT × gM) c s => gTo T M e.2.1 e.2.2 (1 + c) ∧ c ≤ 23 ∧ s ≤ 450 ∧ e.2.1[e.1]? = some (11, 2) ∧ gi e.2.2 e.1 0 = (vCal (vW V D k m) V D i n).1) (fu := gFU) (x := (T.length, nI i, nI n, (0 : Int32), T1, M1)) 20 (by decide) ⟨fun _ => false, i, n, 0, rfl, rfl, hi, hn, hG0, by omega, by omega, hs0, by decide +kernel, (fun x hx => by cases hx), fun b q _ _ => rfl, rfl⟩ (fun t y c s ht hP => by
    obtain ⟨a4, i5, i6, i7, T2, M2⟩ := y
    obtain ⟨Vv, b, q, l, rfl, rfl, hbl, hql, hG2, hc, hs9, hsh, hcnt, hok, hany, hgo⟩ := hP
    dsimp only at hG2 hsh hany
    have h1 := LK_to hG2 h
    have hb2 := gBR_to hG2 hb
    have hl2 := hG2.2.2
    dsimp only
    unfold f_X10_call_B14
    rw [LK_kd h1, Option.bind_some, gkd_ok hb2.1, Option.bind_some, gkd_ok hsh, Option.bind_some, nI_100, p_has hsh (by omega), Option.bind_some, hany b q (by omega) (by omega)]
    obtain ⟨f, hf⟩ : ∃ f, 96 - t = f + 1 := ⟨95 - t, by omega⟩
    rw [hf] at hgo
    unfold vGo at hgo
    have two : ∀ {T3 : gT} {M3 : gM} {c3 : Nat} {x y : Int32}, gTo T M T3 M3 (1 + c3) → c3 ≤ 22 → x = (vCal (vW V D k m) V D i n).1 → ∃ M4, ((gnew T3 M3 (11, 2)).bind fun x9 => cadd 1 2 <| (ast x9.2.1 x9.2.2 x9.1 (0 : Int32) x).bind fun M13 => (ast x9.2.1 M13 x9.1 (1 : Int32) y).bind fun M14 => some ((.inl (x9.1, x9.2.1, M14) : (Nat × gT × gM) ⊕ (Nat × Int32 × Int32 × Int32 × gT × gM)), 0, 0)) = some (.inl (T3.length, T3 ++ [(11, 2)], M4), 1, 2) ∧ gTo T M (T3 ++ [(11, 2)]) M4 (1 + (c3 + 1)) ∧ (T3 ++ [(11, 2)])[T3.length]? = some (11, 2) ∧ gi M4 T3.length 0 = (vCal (vW V D k m) V D i n).1 := fun {T3 M3 c3 x y} g3 hc3 hx => by
      have hl3 := g3.2.2
      have hs : (T3 ++ [(11, 2)])[T3.length]? = some (11, 2) := sh_new
      refine ⟨si (si (zr M3 T3.length) T3.length 0 x) T3.length 1 y, ?_, ?_, hs, ?_⟩
      · rw [gnew_ok (by omega), Option.bind_some]
        dsimp only
        rw [show ast (T3 ++ [(11, 2)]) (zr M3 T3.length) T3.length (0 : Int32) x = some (si (zr M3 T3.length) T3.length 0 x) from ast_ok (k := 0) hs (by decide) (by decide), Option.bind_some, show ast (T3 ++ [(11, 2)]) (si (zr M3 T3.length) T3.length 0 x) T3.length (1 : Int32) y = some (si (si (zr M3 T3.length) T3.length 0 x) T3.length 1 y) from ast_ok (k := 1) hs (by decide) (by decide), Option.bind_some, cadd_some]
      · rw [← Nat.add_assoc]
        exact gTo_tr g3 (gTo_si (gTo_si gTo_new (Nat.le_refl _)) (Nat.le_refl _))
      · rw [gi_si, if_neg (by omega), gi_si, if_pos ⟨rfl, rfl⟩, hx]
    by_cases hvis : Vv (12 * b + q) = true
    · rw [if_pos hvis, if_pos (show ¬ ((1 : Int32) = 0) by decide)]
      rw [if_pos hvis] at hgo
      obtain ⟨M4, z1, z2, z3, z4⟩ := two (y := i7) hG2 (by omega) hgo
      refine Or.inl ⟨_, _, _, z1, ?_, by omega, by omega, z3, z4⟩
      rw [show 1 + (c + 1) = 1 + (c + 1) from rfl]
      exact z2
    · rw [if_neg hvis, if_neg (fun z => z rfl)]
      rw [if_neg hvis] at hgo
      have hvf : Vv (12 * b + q) = false := by simpa using hvis
      have hcu := cntN_up (V := Vv) hvf 96
      rw [if_pos (show 12 * b + q < 96 by omega), hcnt] at hcu
      have hok' : ∀ x, (if x = 12 * b + q then true else Vv x) = true → okP x = true := fun x hx => by
        by_cases ex : x = 12 * b + q
        · rw [ex]
          unfold okP
          rw [decide_eq_true]
          omega
        · rw [if_neg ex] at hx
          exact hok x hx
      have hle := cnt_le (c := fun y => if y = 12 * b + q then true else Vv y) (e := okP) (n := 96) (fun x _ hx => hok' x hx)
      rw [hcu, okP_20] at hle
      obtain ⟨v, T3, M3, c3, s3, w1, w2, w3, w4, rfl, w6, w7, w8⟩ := p_with (x := nI (100 * b + q)) hsh (by omega) (show T2.length < 900000 by omega)
      have hG3 := gTo_tr hG2 w2
      have h3 := LK_to w2 h1
      have hb3 := gBR_to w2 hb2
      rw [w1, Option.bind_some]
      dsimp only
      rw [gkd_ok w6, Option.bind_some, aldr_ok hb3.1 hbl (by omega) (hb3.2 b hbl).1 (hb3.2 b hbl).2, Option.bind_some, ald_ok (hb3.2 b hbl).2 hql (by omega), Option.bind_some, gTo_gi hG3 (hb.2 b hbl).2, hw b hbl q hql]
      by_cases hv1 : vBd (vW V D k m) V D b q = -1
      · rw [if_pos hv1] at hgo
        obtain ⟨M4, z1, z2, z3, z4⟩ := two (y := i7) (c3 := c + c3) (by rw [← Nat.add_assoc]; exact hG3) (by omega) hgo
        rw [hv1, if_neg (by decide), z1, cadd_some]
        refine Or.inl ⟨_, _, _, rfl, ?_, by omega, by omega, z3, z4⟩
        show gTo T M _ _ (1 + (c + (c3 + 1)))
        rw [show 1 + (c + (c3 + 1)) = 1 + (c + c3 + 1) by omega]
        exact z2
      · obtain ⟨b2, hb2l, ev, hcd⟩ := vBd_ok hV hbl hv1
        rw [if_neg hv1, ev, nI_clamp (show b2 < 2 ^ 31 by omega)] at hgo
        have hO := (h3.2.2.2.1 b2 hb2l).2.2
        rw [ev, if_pos (show (0 : Int32) ≤ nI b2 from nI_pos' (by omega)), LK_all h3, Option.bind_some, LK_lib h8 h3 hb2l, Option.bind_some, LK_off h3 hb2l, Option.bind_some, ald_ok hO.2.2.1 hql (by omega), Option.bind_some, hO.2.2.2 q hql]
        by_cases hneg : dOf V D b2 q < 0
        · rw [if_neg (fun z => z hneg)] at hgo
          rcases vOf_ok hV hb2l (show q < 12 by omega) hcd with ⟨v, hv, eo⟩ | ⟨q2, hq2, eo⟩
          · rw [eo] at hneg
            exact absurd hneg (nI_pos (by omega))
          · rw [eo, (fw_sub q2 (by omega)).1, nI_clamp (show q2 < 2 ^ 31 by omega)] at hgo
            rw [if_pos hneg, eo, (fw_sub q2 (by omega)).1, cadd_some]
            refine Or.inr ⟨by omega, _, _, _, rfl, fun x => if x = 12 * b + q then true else Vv x, b2, q2, l + 1, rfl, rfl, hb2l, hq2, ?_, by omega, by omega, w6, hcu, hok', fun b' q' hb' hq' => ?_, ?_⟩
            · show gTo T M T3 M3 (1 + (c + (c3 + 0)))
              rw [show 1 + (c + (c3 + 0)) = 1 + c + c3 by omega]
              exact hG3
            · show (anyN (fun j => decide (gi M3 T2.length j = nI (100 * b' + q'))) t || decide (gi M3 T2.length t = nI (100 * b' + q'))) = _
              rw [w8, anyN_ext (e := fun j => decide (gi M2 a4 j = nI (100 * b' + q'))) (fun j hj => by rw [w7 j hj]), hany b' q' hb' hq']
              dsimp only
              by_cases ex : 12 * b' + q' = 12 * b + q
              · have e1 : b' = b := by omega
                have e2 : q' = q := by omega
                rw [if_pos ex, decide_eq_true (show nI (100 * b + q) = nI (100 * b' + q') by rw [e1, e2]), Bool.or_true]
              · rw [if_neg ex, decide_eq_false (fun z => ex (by
                  have := (nI_eq (by omega) (by omega)).mp z
                  omega)), Bool.or_false]
            · rw [show 96 - (t + 1) = f by omega]
              exact hgo
        · rw [if_pos hneg] at hgo
          obtain ⟨M4, z1, z2, z3, z4⟩ := two (y := i7 + 1) (c3 := c + c3) (by rw [← Nat.add_assoc]; exact hG3) (by omega) hgo
          rw [if_neg hneg, z1, cadd_some]
          refine Or.inl ⟨_, _, _, rfl, ?_, by omega, by omega, z3, z4⟩
          show gTo T M _ _ (1 + (c + (c3 + 1)))
          rw [show 1 + (c + (c3 + 1)) = 1 + (c + c3 + 1) by omega]
          exact z2)
  rw [e1, Option.bind_some]
  dsimp only
  rw [cadd_some, cadd_some]
  exact ⟨_, _, _, _, _, rfl, e2, by omega, by omega, e5, e6⟩
end PCA
