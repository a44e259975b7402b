/-! UNLOAD AND RELOAD: both sides -/
section PUN2
variable {T : gT} {M N G : gM} {Dk : Nat} {k : Nat → Nat × Nat} {m C a nx sz : Nat} {i : Int32}
theorem up_unload (hS : gSlt T N Dk 313 k m C) (hDk : gD Dk) (hda : gDat T N 37) (h37 : ∀ b j, dIn 37 b j → ¬ rkP b j → gi N b j = gi N (b - 37 + Dk) j) (hg4 : gr N 37 4 = gr N Dk 4) (ha : a < dNl N Dk) (hl : dRk N Dk a ≠ -1) (hr : ∀ i, i < dNl N Dk → dRk N 37 i = nRk N Dk a i) : gSlt T (si N 313 (6 + 24 * a + 2) 0) 37 313 k m C := by
  have hV := hS.1
  have hE := hS.2.1
  have h8 := hV.2.1
  obtain ⟨c, hc1, hc2, hc3⟩ := hS.2.2.2.2.2.2
  have hL : ∀ i, gi (si N 313 (6 + 24 * a + 2) 0) 313 (6 + 24 * i + 2) = if i = a then 0 else gi N 313 (6 + 24 * i + 2) := fun i => by
    rw [gi_si]
    by_cases e : i = a
    · rw [if_pos ⟨rfl, by omega⟩, if_pos e]
    · rw [if_neg (by omega), if_neg e]
  have hR : ∀ i, i < dNl N Dk → dRk (si N 313 (6 + 24 * a + 2) 0) 37 i = nRk N Dk a i := fun i hi => by
    rw [← hr i hi]
    show gi (si N 313 (6 + 24 * a + 2) 0) (37 + 5 + 3 * i) 2 = _
    rw [gi_si, if_neg (by omega)]
  have hrn : ∀ i, i < dNl N Dk → dRk N Dk i = -1 ∨ ∃ r, r < 8 ∧ dRk N Dk i = nI r := fun i hi => (hV.2.2.2.2.2 i hi).2.2.1
  obtain ⟨ra, hra, era⟩ : ∃ r, r < 8 ∧ dRk N Dk a = nI r := (hrn a ha).resolve_left hl
  have hnr : ∀ i, i < dNl N Dk → (nRk N Dk a i = -1 ∨ ∃ r, r < 8 ∧ nRk N Dk a i = nI r) ∧ (nRk N Dk a i = -1 ↔ i = a ∨ dRk N Dk i = -1) := fun i hi => by
    unfold nRk
    by_cases e : i = a
    · rw [if_pos e]
      exact ⟨Or.inl rfl, fun _ => Or.inl e, fun _ => rfl⟩
    · rw [if_neg e]
      rcases hrn i hi with z | ⟨r, hr8, z⟩
      · rw [z, if_neg (by rw [era, Int32.lt_iff_toInt_lt, nI_toInt (by omega), show (-1 : Int32).toInt = -1 from rfl]; omega)]
        exact ⟨Or.inl rfl, fun _ => Or.inr rfl, fun _ => rfl⟩
      · have nz : ∀ r, r < 8 → ¬ nI r = -1 := fun r hr => nI_nneg (by omega) (by decide)
        by_cases hlt : dRk N Dk a < dRk N Dk i
        · rw [if_pos hlt]
          rw [era, z] at hlt
          have h2 := (nI_ltI (by omega) (by omega)).mp hlt
          obtain ⟨s, rfl⟩ : ∃ s, r = s + 1 := ⟨r - 1, by omega⟩
          rw [z, nI_pred]
          exact ⟨Or.inr ⟨s, by omega, rfl⟩, fun q => absurd q (nz s (by omega)), fun q => q.elim (fun q => absurd q e) (fun q => absurd q (nz _ hr8))⟩
        · rw [if_neg hlt, z]
          exact ⟨Or.inr ⟨r, hr8, rfl⟩, fun q => Or.inr q, fun q => q.elim (fun q => absurd q e) id⟩
  refine gSl_rank hS hDk hda h37 hg4 (fun _ _ => rfl) (fun b j hb => by rw [gi_si, if_neg (fun q => hb q.1)]) (fun j h1 h2 => by rw [gi_si, if_neg (fun q => h2 a (by omega) q.2)]) (fun i hi => ?_) ⟨c, hc1, by rw [gi_si, if_neg (by omega)]; exact hc2, fun i hi => ?_⟩
  · rw [hR i hi, hL i]
    obtain ⟨n1, n2⟩ := hnr i hi
    refine ⟨n1, ?_, fun hne => ?_⟩
    · by_cases e : i = a
      · rw [if_pos e]
        exact ⟨fun _ => n2.mpr (Or.inl e), fun _ => by decide⟩
      · rw [if_neg e, (hE.2.2.2 i hi).2.2.2.2.2.1]
        exact ⟨fun q => n2.mpr (Or.inr q), fun q => (n2.mp q).resolve_left e⟩
    · have hia : i ≠ a := fun q => hne (n2.mpr (Or.inl q))
      have hil : dRk N Dk i ≠ -1 := fun q => hne (n2.mpr (Or.inr q))
      rw [if_neg hia]
      have ei := (hE.2.2.2 i hi).2.2.2.2.2.2 hil
      have ea := (hE.2.2.2 a ha).2.2.2.2.2.2 hl
      have e1 : cntN (fun k => decide (dRk (si N 313 (6 + 24 * a + 2) 0) 37 k ≠ -1 ∧ gi (si N 313 (6 + 24 * a + 2) 0) 313 (6 + 24 * k + 2) < gi N 313 (6 + 24 * i + 2))) (dNl N Dk) = cntN (fun k => decide (dRk N Dk k ≠ -1 ∧ gi N 313 (6 + 24 * k + 2) < gi N 313 (6 + 24 * i + 2)) && decide (k ≠ a)) (dNl N Dk) := cntN_ext (fun q hq => by
        rw [hR q hq, hL q]
        obtain ⟨-, n3⟩ := hnr q hq
        by_cases e : q = a
        · rw [decide_eq_false (p := q ≠ a) (fun z => z e), Bool.and_false]
          exact decide_eq_false (fun z => z.1 (n3.mpr (Or.inl e)))
        · rw [decide_eq_true (p := q ≠ a) e, Bool.and_true, if_neg e]
          exact decide_eq_decide.mpr ⟨fun z => ⟨fun y => z.1 (n3.mpr (Or.inr y)), z.2⟩, fun z => ⟨fun y => (n3.mp y).elim e z.1, z.2⟩⟩)
      rw [e1]
      have e2 := cntN_but (c := fun k => decide (dRk N Dk k ≠ -1 ∧ gi N 313 (6 + 24 * k + 2) < gi N 313 (6 + 24 * i + 2))) ha
      have l1 := cntN_le (fun k => decide (dRk N Dk k ≠ -1 ∧ gi N 313 (6 + 24 * k + 2) < gi N 313 (6 + 24 * i + 2))) (dNl N Dk)
      have l2 := cntN_le (fun k => decide (dRk N Dk k ≠ -1 ∧ gi N 313 (6 + 24 * k + 2) < gi N 313 (6 + 24 * a + 2))) (dNl N Dk)
      unfold nRk
      rw [if_neg hia]
      by_cases hlt : gi N 313 (6 + 24 * a + 2) < gi N 313 (6 + 24 * i + 2)
      · have hm : cntN (fun k => decide (dRk N Dk k ≠ -1 ∧ gi N 313 (6 + 24 * k + 2) < gi N 313 (6 + 24 * a + 2))) (dNl N Dk) ≤ cntN (fun k => decide (dRk N Dk k ≠ -1 ∧ gi N 313 (6 + 24 * k + 2) < gi N 313 (6 + 24 * i + 2)) && decide (k ≠ a)) (dNl N Dk) := cntN_mono (fun q hq z => by
          have z2 := of_decide_eq_true z
          have z3 := z2.2
          rw [Int32.lt_iff_toInt_lt] at hlt z3
          rw [Bool.and_eq_true]
          refine ⟨decide_eq_true ⟨z2.1, Int32.lt_iff_toInt_lt.mpr (by omega)⟩, decide_eq_true (fun y => ?_)⟩
          rw [y] at z3
          omega)
        have e3 : (if (decide (dRk N Dk a ≠ -1 ∧ gi N 313 (6 + 24 * a + 2) < gi N 313 (6 + 24 * i + 2))) = true then 1 else 0) = 1 := if_pos (decide_eq_true ⟨hl, hlt⟩)
        rw [e3] at e2
        rw [if_pos (by rw [ei, ea]; exact nI_lt (by omega) (by omega)), ei, e2, nI_pred]
      · have hm : cntN (fun k => decide (dRk N Dk k ≠ -1 ∧ gi N 313 (6 + 24 * k + 2) < gi N 313 (6 + 24 * i + 2))) (dNl N Dk) ≤ cntN (fun k => decide (dRk N Dk k ≠ -1 ∧ gi N 313 (6 + 24 * k + 2) < gi N 313 (6 + 24 * a + 2))) (dNl N Dk) := cntN_mono (fun q hq z => by
          have z2 := of_decide_eq_true z
          have z3 := z2.2
          have z4 := hlt
          rw [Int32.lt_iff_toInt_lt] at z3 z4
          exact decide_eq_true ⟨z2.1, Int32.lt_iff_toInt_lt.mpr (by omega)⟩)
        have e3 : (if (decide (dRk N Dk a ≠ -1 ∧ gi N 313 (6 + 24 * a + 2) < gi N 313 (6 + 24 * i + 2))) = true then 1 else 0) = 0 := if_neg (fun z => hlt (of_decide_eq_true z).2)
        rw [e3] at e2
        rw [if_neg (by rw [ei, ea]; exact nI_nlt hm (by omega)), ei, e2, Nat.add_zero]
  · rw [hL i]
    by_cases e : i = a
    · rw [if_pos e]
      exact ⟨0, Nat.zero_le _, rfl⟩
    · rw [if_neg e]
      exact hc3 i hi
/-- the new rank of i when a is loaded again -/
def lRk (M : gM) (D a i : Nat) : Int32 := if i = a then nI (cntN (fun q => decide (dRk M D q ≠ -1)) (dNl M D)) else dRk M D i
theorem up_reload (hC : C < 1000000) (hS : gSlt T N Dk 313 k m C) (hDk : gD Dk) (hda : gDat T N 37) (h37 : ∀ b j, dIn 37 b j → ¬ rkP b j → gi N b j = gi N (b - 37 + Dk) j) (hg4 : gr N 37 4 = gr N Dk 4) (ha : a < dNl N Dk) (hl : dRk N Dk a = -1) (hr : ∀ i, i < dNl N Dk → dRk N 37 i = lRk N Dk a i) : gSlt T (si (si N 313 3 (gi N 313 3 + 1)) 313 (6 + 24 * a + 2) (gi N 313 3 + 1)) 37 313 k m (C + 1) := by
  have hV := hS.1
  have hE := hS.2.1
  have h8 := hV.2.1
  obtain ⟨c, hc1, hc2, hc3⟩ := hS.2.2.2.2.2.2
  rw [hc2, nI_1]
  have hL : ∀ i, gi (si (si N 313 3 (nI (c + 1))) 313 (6 + 24 * a + 2) (nI (c + 1))) 313 (6 + 24 * i + 2) = if i = a then nI (c + 1) else gi N 313 (6 + 24 * i + 2) := fun i => by
    rw [gi_si]
    by_cases e : i = a
    · rw [if_pos ⟨rfl, by omega⟩, if_pos e]
    · rw [if_neg (by omega), if_neg e, gi_si, if_neg (by omega)]
  have hR : ∀ i, i < dNl N Dk → dRk (si (si N 313 3 (nI (c + 1))) 313 (6 + 24 * a + 2) (nI (c + 1))) 37 i = lRk N Dk a i := fun i hi => by
    rw [← hr i hi]
    show gi (si (si N 313 3 (nI (c + 1))) 313 (6 + 24 * a + 2) (nI (c + 1))) (37 + 5 + 3 * i) 2 = _
    rw [gi_si, if_neg (by omega), gi_si, if_neg (by omega)]
  have hn0 : cntN (fun q => decide (dRk N Dk q ≠ -1)) (dNl N Dk) < 8 := by
    have l1 := cntN_le (fun q => decide (dRk N Dk q ≠ -1)) (dNl N Dk)
    by_cases e : cntN (fun q => decide (dRk N Dk q ≠ -1)) (dNl N Dk) = dNl N Dk
    · exact absurd hl (of_decide_eq_true (cntN_full e a ha))
    · omega
  have nz : ∀ r, r < 8 → ¬ nI r = -1 := fun r hr => nI_nneg (by omega) (by decide)
  have hlr : lRk N Dk a a ≠ -1 := by
    unfold lRk
    rw [if_pos rfl]
    exact nz _ hn0
  refine gSl_rank hS hDk hda h37 hg4 (fun _ _ => rfl) (fun b j hb => by rw [gi_si, if_neg (fun q => hb q.1), gi_si, if_neg (fun q => hb q.1)]) (fun j h1 h2 => by rw [gi_si, if_neg (fun q => h2 a (by omega) q.2), gi_si, if_neg (fun q => h1 q.2)]) (fun i hi => ?_) ⟨c + 1, by omega, by rw [gi_si, if_neg (by omega), gi_si, if_pos ⟨rfl, rfl⟩], fun i hi => ?_⟩
  · rw [hR i hi, hL i]
    by_cases e : i = a
    · subst e
      rw [if_pos rfl]
      refine ⟨Or.inr ⟨_, hn0, by unfold lRk; rw [if_pos rfl]⟩, ⟨fun q => absurd q (nI_nle (by omega) (by omega)), fun q => absurd q hlr⟩, fun _ => ?_⟩
      unfold lRk
      rw [if_pos rfl]
      refine congrArg nI (cntN_ext (fun q hq => ?_))
      rw [hR q hq, hL q]
      by_cases eq : q = i
      · subst eq
        rw [if_pos rfl, decide_eq_false (p := dRk N Dk q ≠ -1) (fun z => z hl)]
        exact (decide_eq_false (fun z => by
          have := z.2
          rw [Int32.lt_iff_toInt_lt] at this
          omega)).symm
      · obtain ⟨x, hx, ex⟩ := hc3 q hq
        unfold lRk
        rw [if_neg eq, if_neg eq, ex]
        exact decide_eq_decide.mpr ⟨fun z => ⟨z, nI_lt (by omega) (by omega)⟩, fun z => z.1⟩
    · have el : lRk N Dk a i = dRk N Dk i := if_neg e
      rw [el, if_neg e]
      refine ⟨(hV.2.2.2.2.2 i hi).2.2.1, (hE.2.2.2 i hi).2.2.2.2.2.1, fun hne => ((hE.2.2.2 i hi).2.2.2.2.2.2 hne).trans (congrArg nI (cntN_ext (fun q hq => ?_)))⟩
      rw [hR q hq, hL q]
      obtain ⟨x, hx, ex⟩ := hc3 i hi
      by_cases eq : q = a
      · subst eq
        rw [if_pos rfl, decide_eq_false (p := dRk N Dk q ≠ -1 ∧ _) (fun z => z.1 hl)]
        refine (decide_eq_false (fun z => ?_)).symm
        have z2 := z.2
        rw [ex] at z2
        have := (nI_ltI (by omega) (by omega)).mp z2
        omega
      · unfold lRk
        rw [if_neg eq, if_neg eq]
  · rw [hL i]
    by_cases e : i = a
    · rw [if_pos e]
      exact ⟨c + 1, Nat.le_refl _, rfl⟩
    · rw [if_neg e]
      obtain ⟨x, hx, ex⟩ := hc3 i hi
      exact ⟨x, by omega, ex⟩
theorem rkP_dIn {b j : Nat} (h : rkP b j) : dIn 37 b j := by
  obtain ⟨rfl, h1, h2, h3⟩ := h
  have e : b = 37 + 5 + 3 * ((b - 42) / 3) := by omega
  rw [e]
  exact dIn_lib (by omega) (Or.inr (Or.inr (Or.inl rfl)))
/-- behind begin: the old data in the slot, and at 37 too -/
theorem c_beg (hI : gInv T M k m C nx sz) : ∃ M1, f_X8_beginChange T M 0 = some M1 ∧ gBg M M1 nx sz ∧ gFx T M1 ∧ gVal T M1 37 ∧ dSame M1 37 M 37 ∧ gSlt T M1 (78 + 29 * nx) 313 k m C ∧ gD (78 + 29 * nx) ∧ gr M1 37 4 = gr M1 (78 + 29 * nx) 4 := by
  obtain ⟨i1, i2, i3, ⟨hnx, hsz, j1, j2, j3, j4⟩, i5, i6, i7⟩ := hI
  obtain ⟨M1, c1, c2⟩ := p_begin i2 i6 i5 i1.2.2.1 hnx hsz j1 j2
  have hDk : gD (78 + 29 * nx) := Or.inr ⟨nx, hnx, rfl⟩
  have hg : ∀ b j, ¬ (b ∈ gDs ∧ j = 4) → gr M1 b j = gr M b j := fun b j hb => c2.1 b j (fun q => hb ⟨by rw [q.1]; exact gDs_mem (Or.inr hDk), q.2⟩)
  have hs1 : dSame M1 37 M 37 := fun b j hd => by
    have hr := dIn_rng hd
    rw [show b - 37 + 37 = b by omega]
    exact c2.2.2.2.2.2.2.2 b j (dIn_apart (Or.inr (Or.inl rfl)) (Or.inr hDk) (by omega) hd) (by omega) (by omega)
  have hDa1 : gDa T M1 := gDa_of i6 hg
  refine ⟨M1, c1, c2, gFx_of i2 hg, gVal_same hs1 (hDa1 37 (Or.inr (Or.inl rfl))) i1.1, hs1, gSl_mv i1 (Nat.le_refl C) (hDa1 _ (Or.inr hDk)) c2.2.2.2.1 c2.2.1 hg (fun b j hb => ?_) (fun j _ => ?_), hDk, ?_⟩
  · have hb2 := gCo_no hb
    exact c2.2.2.2.2.2.2.2 b j (fun q => dIn_noCo (Or.inr hDk) q hb) (by omega) (by omega)
  · exact c2.2.2.2.2.2.2.2 313 j (fun q => by have := dIn_rngs (Or.inr hDk) q; omega) (by omega) (by omega)
  · rw [c2.2.1]
    exact c2.1 37 4 (by omega)
theorem sumN_but {f : Nat → Nat} {a : Nat} : ∀ {n : Nat}, n ≤ 8 → a < n → sumN f n = sumN (fun i => if nI i = nI a then 0 else f i) n + f a
  | 0, _, h => by omega
  | n + 1, h8, h => by
    show sumN f n + f n = sumN _ n + (if nI n = nI a then 0 else f n) + f a
    by_cases e : a = n
    · subst e
      rw [if_pos rfl, sumN_ext (f := f) (g := fun i => if nI i = nI a then 0 else f i) (fun q hq => (if_neg (fun z => by have := (nI_eq (by omega) (by omega)).mp z; omega)).symm)]
      omega
    · rw [if_neg (fun z => e ((nI_eq (by omega) (by omega)).mp z).symm), sumN_but (show n ≤ 8 by omega) (show a < n by omega)]
      omega
end PUN2
