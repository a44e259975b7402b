/-! A LINKER'S ELECTION -/
def zBest (W : Nat → Nat) (V : gM) (D n : Nat) (ld : Nat → Nat) : Nat → Option Nat
  | 0 => none
  | t + 1 => if vCd V D (ld t) n then (match zBest W V D n ld t with
    | none => some (ld t)
    | some b => if vSup W V D n b (dNl V D) < vSup W V D n (ld t) (dNl V D) then some (ld t) else some b) else zBest W V D n ld t
theorem zBest_no {W : Nat → Nat} {V : gM} {D n : Nat} {ld : Nat → Nat} : ∀ {t : Nat}, zBest W V D n ld t = none → ∀ s, s < t → ¬ vCd V D (ld s) n
  | 0, _, s, hs => absurd hs (Nat.not_lt_zero s)
  | t + 1, h, s, hs => by
    unfold zBest at h
    by_cases hc : vCd V D (ld t) n
    · rw [if_pos hc] at h
      cases hz : zBest W V D n ld t with
      | none => rw [hz] at h; cases h
      | some b =>
        rw [hz] at h
        dsimp only at h
        split at h <;> cases h
    · rw [if_neg hc] at h
      by_cases e : s = t
      · rw [e]; exact hc
      · exact zBest_no h s (by omega)
theorem zBest_yes {W : Nat → Nat} {V : gM} {D n : Nat} {ld : Nat → Nat} : ∀ {t b : Nat}, zBest W V D n ld t = some b → ∃ s, s < t ∧ ld s = b ∧ vCd V D b n ∧ ∀ r, r < t → vCd V D (ld r) n → r ≠ s → vSup W V D n (ld r) (dNl V D) < vSup W V D n b (dNl V D) ∨ vSup W V D n (ld r) (dNl V D) = vSup W V D n b (dNl V D) ∧ s < r
  | 0, b, h => by cases h
  | t + 1, b, h => by
    unfold zBest at h
    by_cases hc : vCd V D (ld t) n
    · rw [if_pos hc] at h
      cases hz : zBest W V D n ld t with
      | none =>
        rw [hz] at h
        cases h
        refine ⟨t, by omega, rfl, hc, fun r hr hcr hne => absurd hcr (zBest_no hz r (by omega))⟩
      | some b1 =>
        rw [hz] at h
        dsimp only at h
        obtain ⟨s1, h1, h2, h3, h4⟩ := zBest_yes hz
        by_cases hlt : vSup W V D n b1 (dNl V D) < vSup W V D n (ld t) (dNl V D)
        · rw [if_pos hlt] at h
          cases h
          refine ⟨t, by omega, rfl, hc, fun r hr hcr hne => ?_⟩
          by_cases e : r = s1
          · rw [e, h2]; exact Or.inl hlt
          · rcases h4 r (by omega) hcr e with q | ⟨q, -⟩
            · exact Or.inl (by omega)
            · exact Or.inl (by omega)
        · rw [if_neg hlt] at h
          cases h
          refine ⟨s1, by omega, h2, h3, fun r hr hcr hne => ?_⟩
          by_cases e : r = t
          · subst e
            by_cases e2 : vSup W V D n (ld r) (dNl V D) = vSup W V D n b (dNl V D)
            · exact Or.inr ⟨e2, h1⟩
            · exact Or.inl (by omega)
          · exact h4 r (by omega) hcr hne
    · rw [if_neg hc] at h
      obtain ⟨s, h1, h2, h3, h4⟩ := zBest_yes h
      refine ⟨s, by omega, h2, h3, fun r hr hcr hne => ?_⟩
      by_cases e : r = t
      · exact absurd hcr (by rw [e]; exact hc)
      · exact h4 r (by omega) hcr hne
theorem vBest_no {W : Nat → Nat} {V : gM} {D n : Nat} : ∀ {t : Nat}, vBest W V D n t = none → ∀ s, s < t → ¬ vCd V D s n
  | 0, _, s, hs => absurd hs (Nat.not_lt_zero s)
  | t + 1, h, s, hs => by
    unfold vBest at h
    by_cases hc : vCd V D t n
    · rw [if_pos hc] at h
      cases hz : vBest W V D n t with
      | none => rw [hz] at h; cases h
      | some b =>
        rw [hz] at h
        dsimp only at h
        split at h <;> cases h
    · rw [if_neg hc] at h
      by_cases e : s = t
      · rw [e]; exact hc
      · exact vBest_no h s (by omega)
theorem vBest_yes {W : Nat → Nat} {V : gM} {D n nl : Nat} {ρ : Nat → Nat} (hr : ∀ i, i < nl → vCd V D i n → dRk V D i = nI (ρ i) ∧ ρ i < 8) (hi : ∀ i j, i < nl → j < nl → vCd V D i n → vCd V D j n → ρ i = ρ j → i = j) : ∀ {t b : Nat}, t ≤ nl → vBest W V D n t = some b → b < t ∧ vCd V D b n ∧ ∀ c, c < t → vCd V D c n → c ≠ b → vSup W V D n c (dNl V D) < vSup W V D n b (dNl V D) ∨ vSup W V D n c (dNl V D) = vSup W V D n b (dNl V D) ∧ ρ b < ρ c
  | 0, b, _, h => by cases h
  | t + 1, b, ht, h => by
    unfold vBest at h
    by_cases hc : vCd V D t n
    · rw [if_pos hc] at h
      cases hz : vBest W V D n t with
      | none =>
        rw [hz] at h
        cases h
        refine ⟨by omega, hc, fun r hr hcr hne => absurd hcr (vBest_no hz r (by omega))⟩
      | some b1 =>
        rw [hz] at h
        dsimp only at h
        obtain ⟨h1, h3, h4⟩ := vBest_yes hr hi (show t ≤ nl by omega) hz
        obtain ⟨r1, r2⟩ := hr t (by omega) hc
        obtain ⟨r3, r4⟩ := hr b1 (by omega) h3
        have hne1 : ρ t ≠ ρ b1 := fun q => by
          have := hi t b1 (by omega) (by omega) hc h3 q
          omega
        have hlt : dRk V D t < dRk V D b1 ↔ ρ t < ρ b1 := by rw [r1, r3]; exact nI_ltI (by omega) (by omega)
        by_cases hb : vSup W V D n b1 (dNl V D) < vSup W V D n t (dNl V D) ∨ vSup W V D n t (dNl V D) = vSup W V D n b1 (dNl V D) ∧ dRk V D t < dRk V D b1
        · rw [if_pos hb] at h
          cases h
          rw [hlt] at hb
          refine ⟨by omega, hc, fun r hr' hcr hne => ?_⟩
          by_cases e : r = b1
          · rw [e]; omega
          · have := h4 r (by omega) hcr e
            omega
        · rw [if_neg hb] at h
          cases h
          rw [hlt] at hb
          refine ⟨by omega, h3, fun r hr' hcr hne => ?_⟩
          by_cases e : r = t
          · rw [e]; omega
          · exact h4 r (by omega) hcr hne
    · rw [if_neg hc] at h
      obtain ⟨h1, h3, h4⟩ := vBest_yes hr hi (show t ≤ nl by omega) h
      refine ⟨by omega, h3, fun r hr' hcr hne => ?_⟩
      by_cases e : r = t
      · exact absurd hcr (by rw [e]; exact hc)
      · exact h4 r (by omega) hcr hne
section PEL
variable {P : Nat → Prop} {T T0 : gT} {M V : gM} {a A B : Nat} {L R O : Nat → Nat} {lc : Nat} {ld : Nat → Nat} {D : Nat} {k : Nat → Nat × Nat} {m c i n : Nat} {W : Nat → Nat}
theorem LK_best (hV : gVal T0 V D) (h : LK P T M a A B L R O lc ld V D k m) : zBest W V D n ld lc = vBest W V D n (dNl V D) := by
  have hlc := h.2.2.2.2.1.1
  have h2 := h.2.2.2.2.1.2.1
  have hloc : ∀ i, i < dNl V D → vCd V D i n → ∃ t, t < lc ∧ ld t = i := fun i hi hc => (h.2.2.2.2.1.2.2 i hi).resolve_left (fun q => hc (Or.inl q))
  let ρ : Nat → Nat := fun i => (dRk V D i).toNatClampNeg
  have hρ : ∀ t, t < lc → ρ (ld t) = t := fun t ht => by
    show (dRk V D (ld t)).toNatClampNeg = t
    rw [(h2 t ht).2.2, nI_clamp (by omega)]
  have hr : ∀ i, i < dNl V D → vCd V D i n → dRk V D i = nI (ρ i) ∧ ρ i < 8 := fun i hi hc => by
    obtain ⟨t, ht, rfl⟩ := hloc i hi hc
    rw [hρ t ht]
    exact ⟨(h2 t ht).2.2, by omega⟩
  have hi : ∀ i j, i < dNl V D → j < dNl V D → vCd V D i n → vCd V D j n → ρ i = ρ j → i = j := fun i j hi hj ci cj e => by
    obtain ⟨t, ht, rfl⟩ := hloc i hi ci
    obtain ⟨s, hs, rfl⟩ := hloc j hj cj
    rw [hρ t ht, hρ s hs] at e
    rw [e]
  cases hz : zBest W V D n ld lc with
  | none =>
    cases hv : vBest W V D n (dNl V D) with
    | none => rfl
    | some b =>
      obtain ⟨b1, b2, -⟩ := vBest_yes hr hi (Nat.le_refl _) hv
      obtain ⟨t, ht, rfl⟩ := hloc b b1 b2
      exact absurd b2 (zBest_no hz t ht)
  | some z =>
    obtain ⟨s, s1, rfl, s3, s4⟩ := zBest_yes hz
    have hs := (h2 s s1).1
    cases hv : vBest W V D n (dNl V D) with
    | none => exact absurd s3 (vBest_no hv _ hs)
    | some b =>
      obtain ⟨b1, b2, b3⟩ := vBest_yes hr hi (Nat.le_refl _) hv
      obtain ⟨t, ht, rfl⟩ := hloc b b1 b2
      by_cases e : s = t
      · rw [e]
      · have q1 := s4 t ht b2 (fun q => e q.symm)
        have q2 := b3 (ld s) hs s3 (fun q => e (LK_rk h s1 ht q))
        rw [hρ t ht, hρ s s1] at q2
        omega
theorem p_support (hV : gVal T0 V D) (h : LK P T M a A B L R O lc ld V D k m) (hok : wOK k m) (h5 : lc ≤ 5) (hn : n < dNn V D) {c' : Nat} (hc' : c' < 8) (hT : T.length + 5 ≤ 900000) : cR T M (f_X10_support T M a (nI c') (nI n)) 5 20 (fun v _ _ => v = nI (vSup (vW V D k m) V D n c' (dNl V D))) := by
  have h8 := hV.2.1
  have hs : sumN (fun t => if vVt V D (ld t) n = nI c' then vW V D k m (ld t) else 0) lc = vSup (vW V D k m) V D n c' (dNl V D) := by
    rw [LK_sum (f := fun q => if vVt V D q n = nI c' then vW V D k m q else 0) hV h]
    refine sumN_ext (fun i hi => ?_)
    by_cases e : dRk V D i = -1
    · rw [if_pos e, if_neg]
      unfold vVt
      rw [if_pos e]
      exact fun q => nI_nneg (v := c') (by omega) (by decide) q.symm
    · rw [if_neg e]
  unfold f_X10_support
  rw [LK_row h, Option.bind_some, LK_al h]
  obtain ⟨e, c1, s1, e1, e2, e3, e4, e5⟩ := loopc_ex (B := fun x : Int32 × Int32 × gT × gM => f_X10_support_B16 x.2.2.1 x.2.2.2 a (nI c') (nI n) x.1 B (Int32.ofNat lc) x.2.1) (P := fun t y c s => y.1 = nI (sumN (fun t => if vVt V D (ld t) n = nI c' then vW V D k m (ld t) else 0) t) ∧ y.2.1 = nI t ∧ t ≤ lc ∧ gTo T M y.2.2.1 y.2.2.2 c ∧ c ≤ t ∧ s ≤ 4 * t) (Q := fun e c s => e.1 = nI (vSup (vW V D k m) V D n c' (dNl V D)) ∧ gTo T M e.2.1 e.2.2 c ∧ c ≤ 5 ∧ s ≤ 20) (fu := gFU) (x := ((0 : Int32), (0 : Int32), T, M)) lc (Nat.lt_of_le_of_lt h5 (by decide)) ⟨rfl, rfl, Nat.zero_le _, gTo_refl, by omega, by omega⟩ (fun t y c s _ hP => by
    obtain ⟨y1, y2, T1, M1⟩ := y
    obtain ⟨rfl, rfl, ht, hG, hc, hs9⟩ := hP
    dsimp only at hG
    have h1 := LK_to hG h
    dsimp only
    unfold f_X10_support_B16 f_X10_support_50
    rw [LK_kd h1, Option.bind_some, LK_kB h1, Option.bind_some]
    by_cases e : t = lc
    · rw [if_pos (show Int32.ofNat lc ≤ nI t from nI_le (by omega) (by omega))]
      exact Or.inl ⟨_, _, _, rfl, by rw [e, hs], hG, by omega, by omega⟩
    · have hlt : t < lc := by omega
      have hd := (h.2.2.2.2.1.2.1 t hlt).1
      have hT1 := hG.2.2
      rw [if_neg (show ¬ Int32.ofNat lc ≤ nI t from nI_ge hlt (by omega)), LK_ld h1 hlt, Option.bind_some, p_vote hV h1 hd hn, Option.bind_some, nI_1]
      by_cases hv : vVt V D (ld t) n = nI c'
      · rw [if_neg (fun q => q hv)]
        obtain ⟨v, T2, M2, c2, s2, w1, w2, w3, w4, w5⟩ := p_weight (i := ld t) hV h1 hok hd (by omega)
        have hl : ¬ dRk V D (ld t) = -1 := fun q => by
          rw [(h.2.2.2.2.1.2.1 t hlt).2.2] at q
          exact nI_nneg (v := t) (by omega) (by decide) q
        rw [w1, Option.bind_some, w5, if_neg hl, nI_add]
        dsimp only
        rw [cadd_some]
        refine Or.inr ⟨hlt, _, _, _, rfl, ?_, rfl, by omega, gTo_tr hG w2, by omega, by omega⟩
        show nI (sumN _ t + _) = nI (sumN _ t + (if _ then _ else _))
        rw [if_pos hv]
      · rw [if_pos hv]
        refine Or.inr ⟨hlt, _, _, _, rfl, ?_, rfl, by omega, hG, by omega, by omega⟩
        show nI (sumN _ t) = nI (sumN _ t + (if _ then _ else _))
        rw [if_neg hv]
        rfl)
  rw [e1, Option.bind_some]
  dsimp only
  rw [cadd_some]
  exact ⟨_, _, _, _, _, rfl, e3, e4, e5, e2⟩
end PEL
