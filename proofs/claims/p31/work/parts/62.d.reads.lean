/-! WHAT A LINKER READS: ranks, offers, votes -/
theorem gloop_at {α β : Type} {B : α → Option (β ⊕ α)} {fu : Nat} {e : β} {x : α} (st : Nat → α) (n : Nat) (hx : x = st 0) (hf : n < fu) (step : ∀ i, i < n → B (st i) = some (.inr (st (i + 1)))) (last : B (st n) = some (.inl e)) : gloop B fu x = some e := by
  rw [hx]
  exact gloop_for st n hf step last
theorem sumN_pt {f : Nat → Nat} {c w : Nat} {n : Nat} (hc : c < n) : sumN (fun i => f i + if i = c then w else 0) n = sumN f n + w := by
  rw [sumN_add, sumN_one (f := fun i => if i = c then w else 0) (c := c) (w := w) (if_pos rfl) (fun k _ hk => if_neg hk) hc]
/-- a sum over the loaded ones, in whatever order -/
theorem sum_ld {f : Nat → Nat} {ld : Nat → Nat} {nl : Nat} : ∀ {lc : Nat}, (∀ s t, s < lc → t < lc → ld s = ld t → s = t) → (∀ t, t < lc → ld t < nl) → sumN (fun t => f (ld t)) lc = sumN (fun i => if anyN (fun t => decide (ld t = i)) lc then f i else 0) nl
  | 0, _, _ => (sumN_zero (fun _ _ => rfl)).symm
  | lc + 1, h1, h2 => by
    have ih := sum_ld (f := f) (ld := ld) (nl := nl) (lc := lc) (fun s t hs ht => h1 s t (by omega) (by omega)) (fun t ht => h2 t (by omega))
    show sumN (fun t => f (ld t)) lc + f (ld lc) = _
    rw [ih, ← sumN_pt (h2 lc (by omega))]
    refine sumN_ext (fun i hi => ?_)
    by_cases e : i = ld lc
    · subst e
      rw [if_pos rfl, if_pos (show anyN (fun t => decide (ld t = ld lc)) (lc + 1) = true by simp [anyN]), anyN_no (fun t ht => decide_eq_false (fun q => by
        have := h1 t lc (by omega) (by omega) q
        omega))]
      simp
    · rw [if_neg e, show anyN (fun t => decide (ld t = i)) (lc + 1) = anyN (fun t => decide (ld t = i)) lc by
        have : ¬ ld lc = i := fun q => e q.symm
        simp [anyN, this]]
      omega
theorem cnt_sum {c : Nat → Bool} : ∀ n, cntN c n = sumN (fun k => if c k then 1 else 0) n
  | 0 => rfl
  | n + 1 => by
    show cntN c n + _ = sumN _ n + _
    rw [cnt_sum n]
section PRD
variable {P : Nat → Prop} {T T0 : gT} {M V : gM} {a A B : Nat} {L R O : Nat → Nat} {lc : Nat} {ld : Nat → Nat} {D : Nat} {k : Nat → Nat × Nat} {m c i n : Nat}
theorem LK_any (hV : gVal T0 V D) (h : LK P T M a A B L R O lc ld V D k m) (hi : i < dNl V D) : (anyN (fun t => decide (ld t = i)) lc = true) ↔ dRk V D i ≠ -1 := by
  have h8 := h.2.2.2.2.1.1
  constructor
  · intro q e
    by_cases hx : ∃ t, t < lc ∧ ld t = i
    · obtain ⟨t, ht, rfl⟩ := hx
      have := (h.2.2.2.2.1.2.1 t ht).2.2
      rw [e] at this
      exact nI_nneg (v := t) (by omega) (by decide) this.symm
    · rw [anyN_no (fun t ht => decide_eq_false (fun z => hx ⟨t, ht, z⟩))] at q
      cases q
  · intro q
    obtain ⟨t, ht, e⟩ := (h.2.2.2.2.1.2.2 i hi).resolve_left q
    exact anyN_yes (k := t) (decide_eq_true e) ht
theorem LK_sum (hV : gVal T0 V D) (h : LK P T M a A B L R O lc ld V D k m) {f : Nat → Nat} : sumN (fun t => f (ld t)) lc = sumN (fun i => if dRk V D i = -1 then 0 else f i) (dNl V D) := by
  rw [sum_ld (fun s t hs ht e => LK_rk h hs ht e) (fun t ht => (h.2.2.2.2.1.2.1 t ht).1)]
  refine sumN_ext (fun i hi => ?_)
  by_cases e : dRk V D i = -1
  · rw [if_pos e, if_neg (fun q => (LK_any hV h hi).mp q e)]
  · rw [if_neg e, if_pos ((LK_any hV h hi).mpr e)]
theorem p_rank (h : LK P T M a A B L R O lc ld V D k m) (hi : i < dNl V D) (h8 : dNl V D ≤ 8) : f_X10_rank T M a (nI i) = some (dRk V D i) := by
  have hlc := h.2.2.2.2.1.1
  unfold f_X10_rank
  have hstep : ∀ t, t < lc → ld t ≠ i → f_X10_rank_B2 T M a (nI i) (nI t) = some (.inr (nI (t + 1))) := fun t ht hne => by
    have hlt := (h.2.2.2.2.1.2.1 t ht).1
    unfold f_X10_rank_B2
    rw [LK_row h, Option.bind_some, LK_al h, if_neg (show ¬ Int32.ofNat lc ≤ nI t from nI_ge ht (by omega)), Option.bind_some, LK_ld h ht, Option.bind_some, if_pos (fun q => hne ((nI_eq (by omega) (by omega)).mp q)), nI_1]
  rcases h.2.2.2.2.1.2.2 i hi with e | ⟨t0, ht0, e⟩
  · rw [gloop_at (B := fun x => f_X10_rank_B2 T M a (nI i) x) (fu := gFU) (x := (0 : Int32)) (e := -1) (fun t => nI t) lc rfl (Nat.lt_of_le_of_lt hlc (by decide)) (fun t ht => hstep t ht (fun q => by
      have := (h.2.2.2.2.1.2.1 t ht).2.2
      rw [q, e] at this
      exact nI_nneg (v := t) (by omega) (by decide) this.symm)) (by
      unfold f_X10_rank_B2
      rw [LK_row h, Option.bind_some, LK_al h, if_pos (show Int32.ofNat lc ≤ nI lc from nI_le (Nat.le_refl _) (by omega))]), Option.bind_some, e]
  · have er := (h.2.2.2.2.1.2.1 t0 ht0).2.2
    rw [gloop_at (B := fun x => f_X10_rank_B2 T M a (nI i) x) (fu := gFU) (x := (0 : Int32)) (e := nI t0) (fun t => nI t) t0 rfl (Nat.lt_of_lt_of_le ht0 (Nat.le_trans hlc (by decide))) (fun t ht => hstep t (by omega) (fun q => by
      have := LK_rk h (show t < lc by omega) ht0 (q.trans e.symm)
      omega)) (by
      unfold f_X10_rank_B2
      rw [LK_row h, Option.bind_some, LK_al h, if_neg (show ¬ Int32.ofNat lc ≤ nI t0 from nI_ge ht0 (by omega)), Option.bind_some, LK_ld h ht0, Option.bind_some, e, if_neg (fun q => q rfl)]), Option.bind_some, ← e, er]
theorem p_has {b p : Nat} {x : Int32} (hb : T[b]? = some (11, p)) (hp : p < 2000) : f_L_has T M b x = some (if anyN (fun j => decide (gi M b j = x)) p then 1 else 0) := by
  unfold f_L_has
  have hL := gloop_at (x := ((0 : Int32), (0 : Int32))) (B := fun y => f_L_has_B11 T M x y.1 b (Int32.ofNat p) y.2) (fu := gFU) (e := if anyN (fun j => decide (gi M b j = x)) p then 1 else 0) (fun t => (if anyN (fun j => decide (gi M b j = x)) t then 1 else 0, nI t)) p rfl (Nat.lt_of_lt_of_le hp (by decide)) (fun t ht => ?_) ?_
  · rw [alen_of hb, hL, Option.bind_some, chk_ok (by split <;> simp), Option.bind_some]
  · show f_L_has_B11 T M x (if anyN (fun j => decide (gi M b j = x)) t then 1 else 0) b (Int32.ofNat p) (nI t) = some (.inr (if anyN (fun j => decide (gi M b j = x)) (t + 1) then 1 else 0, nI (t + 1)))
    unfold f_L_has_B11 f_L_has_36
    rw [if_neg (show ¬ Int32.ofNat p ≤ nI t from nI_ge ht (by omega)), ald_ok hb ht (by omega), Option.bind_some, nI_1]
    by_cases e : gi M b t = x
    · rw [if_neg (fun q => q e), show anyN (fun j => decide (gi M b j = x)) (t + 1) = true by simp [anyN, e], if_pos rfl]
      by_cases g : anyN (fun j => decide (gi M b j = x)) t = true
      · rw [if_pos g]; rfl
      · rw [if_neg g]; rfl
    · rw [if_pos e, show anyN (fun j => decide (gi M b j = x)) (t + 1) = anyN (fun j => decide (gi M b j = x)) t by simp [anyN, e]]
      by_cases g : anyN (fun j => decide (gi M b j = x)) t = true
      · rw [if_pos g]; rfl
      · rw [if_neg g]; rfl
  · show f_L_has_B11 T M x _ b (Int32.ofNat p) (nI p) = _
    unfold f_L_has_B11
    rw [if_pos (show Int32.ofNat p ≤ nI p from nI_le (Nat.le_refl _) (by omega))]
theorem p_offered (hV : gVal T0 V D) (h : LK P T M a A B L R O lc ld V D k m) (hi : i < dNl V D) : f_X9_offered T M (L i) = some (nI (cntN (fun n => decide (dOf V D i n ≠ -1)) 12)) := by
  have h12 := hV.2.2.1
  have hO := (h.2.2.2.1 i hi).2.2
  unfold f_X9_offered
  have hL := gloop_at (x := ((0 : Int32), (0 : Int32))) (B := fun y => f_X9_offered_B13 T M y.1 (O i) (Int32.ofNat (dNn V D)) y.2) (fu := gFU) (e := nI (cntN (fun n => decide (dOf V D i n ≠ -1)) (dNn V D))) (fun t => (nI (cntN (fun n => decide (dOf V D i n ≠ -1)) t), nI t)) (dNn V D) rfl (Nat.lt_of_le_of_lt h12 (by decide)) (fun t ht => ?_) ?_
  · rw [LK_off h hi, Option.bind_some, alen_of hO.2.2.1, cntN_cut h12 (fun n h1 h2 => decide_eq_false (fun q => q (((hV.2.2.2.2.2 i hi).2.2.2.2.2 n h2).resolve_right (fun z => by omega)))), hL, Option.bind_some]
  · show f_X9_offered_B13 T M (nI (cntN (fun n => decide (dOf V D i n ≠ -1)) t)) (O i) (Int32.ofNat (dNn V D)) (nI t) = some (.inr (nI (cntN (fun n => decide (dOf V D i n ≠ -1)) (t + 1)), nI (t + 1)))
    unfold f_X9_offered_B13 f_X9_offered_34
    rw [if_neg (show ¬ Int32.ofNat (dNn V D) ≤ nI t from nI_ge ht (by omega)), ald_ok hO.2.2.1 ht (by omega), Option.bind_some, hO.2.2.2 t ht, nI_1, cntN]
    by_cases e : dOf V D i t = -1
    · rw [if_pos e, decide_eq_false (fun q => q e)]
      rfl
    · rw [if_neg e, decide_eq_true (p := dOf V D i t ≠ -1) e, nI_1]
      rfl
  · show f_X9_offered_B13 T M _ (O i) (Int32.ofNat (dNn V D)) (nI (dNn V D)) = _
    unfold f_X9_offered_B13
    rw [if_pos (show Int32.ofNat (dNn V D) ≤ nI (dNn V D) from nI_le (Nat.le_refl _) (by omega))]
theorem rk_lt0 (hV : gVal T0 V D) (hi : i < dNl V D) : dRk V D i < 0 ↔ dRk V D i = -1 := by
  rcases (hV.2.2.2.2.2 i hi).2.2.1 with e | ⟨r, hr, e⟩
  · rw [e]; decide
  · rw [e]
    exact ⟨fun q => absurd q (nI_pos (by omega)), fun q => absurd q (nI_nneg (by omega) (by decide))⟩
theorem rk_ge0 (hV : gVal T0 V D) (hi : i < dNl V D) : 0 ≤ dRk V D i ↔ ¬ dRk V D i = -1 := by
  rw [← rk_lt0 hV hi, Int32.not_lt]
theorem p_cand (hV : gVal T0 V D) (h : LK P T M a A B L R O lc ld V D k m) (hi : i < dNl V D) (hn : n < dNn V D) : f_X10_isCandidate T M a (nI i) (nI n) = some (if dRk V D i = -1 ∨ dOf V D i n = -1 then 0 else 1) := by
  have h8 := hV.2.1
  have h12 := hV.2.2.1
  have hO := (h.2.2.2.1 i hi).2.2
  unfold f_X10_isCandidate f_X10_isCandidate_27 f_X10_isCandidate_28
  rw [p_rank h hi h8, Option.bind_some]
  by_cases e : dRk V D i = -1
  · rw [if_pos ((rk_lt0 hV hi).mpr e), chk_ok (Or.inl rfl), Option.bind_some, if_pos (Or.inl e)]
  · rw [if_neg (fun q => e ((rk_lt0 hV hi).mp q)), LK_all h, Option.bind_some, LK_lib h8 h hi, Option.bind_some, LK_off h hi, Option.bind_some, ald_ok hO.2.2.1 hn (by omega), Option.bind_some, hO.2.2.2 n hn]
    by_cases e2 : dOf V D i n = -1
    · rw [if_pos e2, chk_ok (Or.inl rfl), Option.bind_some, if_pos (Or.inr e2)]
    · rw [if_neg e2, chk_ok (Or.inr rfl), Option.bind_some, if_neg (fun q => q.elim e e2)]
theorem p_vote (hV : gVal T0 V D) (h : LK P T M a A B L R O lc ld V D k m) (hi : i < dNl V D) (hn : n < dNn V D) : f_X10_vote T M a (nI i) (nI n) = some (vVt V D i n) := by
  have h8 := hV.2.1
  have hR := (h.2.2.2.1 i hi).2.1
  obtain ⟨-, -, -, ⟨hp1, hp2⟩, hpq, -⟩ := hV.2.2.2.2.2 i hi
  unfold f_X10_vote vVt
  rw [p_rank h hi h8, Option.bind_some]
  by_cases e : dRk V D i = -1
  · rw [if_neg (fun q => (rk_ge0 hV hi).mp q e), if_pos e]
  · rw [if_pos ((rk_ge0 hV hi).mpr e), if_neg e, p_cand hV h hi hn, Option.bind_some]
    by_cases e2 : dOf V D i n = -1
    · rw [if_pos (Or.inr e2), if_pos rfl, LK_all h, Option.bind_some, LK_lib h8 h hi, Option.bind_some, LK_prf h hi, Option.bind_some, alen_of hR.2.2.1, if_neg (fun q => q e2)]
      have hLp : ∃ x, gloop (fun y => f_X10_vote_B38 T M a (nI n) (R i) (Int32.ofNat (dPk V D i)) y) gFU (0 : Int32) = some x ∧ x = (match fstN (fun j => decide (vCd V D (dPr V D i j).toNatClampNeg n)) (dPk V D i) with | some j => dPr V D i j | none => -1) := by
        refine gloop_ex (P := fun t y => y = nI t ∧ t ≤ dPk V D i ∧ ∀ j, j < t → decide (vCd V D (dPr V D i j).toNatClampNeg n) = false) (fu := gFU) (x := (0 : Int32)) (dPk V D i) (Nat.lt_of_le_of_lt hp2 (by decide)) ⟨rfl, Nat.zero_le _, fun j hj => absurd hj (Nat.not_lt_zero j)⟩ (fun t y ht hP => ?_)
        obtain ⟨rfl, ht', hno⟩ := hP
        show (∃ e, f_X10_vote_B38 T M a (nI n) (R i) (Int32.ofNat (dPk V D i)) (nI t) = some (.inl e) ∧ _) ∨ _
        unfold f_X10_vote_B38
        by_cases hkp : t = dPk V D i
        · rw [if_pos (show Int32.ofNat (dPk V D i) ≤ nI t from nI_le (by omega) (by omega))]
          refine Or.inl ⟨-1, rfl, ?_⟩
          rw [fstN_none (fun j hj => hno j (by omega))]
        · have hlt : t < dPk V D i := by omega
          obtain ⟨q, hq, hpk⟩ := hpq t hlt
          have hcl : (dPr V D i t).toNatClampNeg = q := by rw [hpk]; exact nI_clamp (by omega)
          rw [if_neg (show ¬ Int32.ofNat (dPk V D i) ≤ nI t from nI_ge hlt (by omega)), ald_ok hR.2.2.1 hlt (by omega), Option.bind_some, hR.2.2.2 t hlt, show dPr V D i t = nI q from hpk, p_cand hV h hq hn, Option.bind_some]
          by_cases hc : dRk V D q = -1 ∨ dOf V D q n = -1
          · rw [if_pos hc, if_pos rfl, nI_1]
            refine Or.inr ⟨hlt, _, rfl, rfl, by omega, fun j hj => ?_⟩
            by_cases e : j = t
            · subst e
              rw [hcl]
              exact decide_eq_false (fun q => q hc)
            · exact hno j (by omega)
          · rw [if_neg hc, if_neg (by decide)]
            refine Or.inl ⟨nI q, rfl, ?_⟩
            rw [fstN_some (k := t) (by rw [hcl]; exact decide_eq_true hc) hno hlt]
            exact hpk.symm
      obtain ⟨x, h3, h4⟩ := hLp
      rw [h3, Option.bind_some, h4]
      cases fstN (fun j => decide (vCd V D (dPr V D i j).toNatClampNeg n)) (dPk V D i) <;> rfl
    · rw [if_neg (show ¬ (dRk V D i = -1 ∨ dOf V D i n = -1) from fun q => q.elim e e2), if_neg (by decide), if_pos (show dOf V D i n ≠ -1 from e2)]
end PRD
