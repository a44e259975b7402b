/-! THE CALL LOAD -/
section PLZ
variable {T : gT} {M : gM} {k : Nat → Nat × Nat} {m C C' nx sz L : Nat} {i1 : Int32}
theorem nI_back {q : Nat} (h0 : ¬ i1 < 0) (h1 : i1 ≤ nI q) (hq : q ≤ 800) : ∃ n, i1 = nI n ∧ n ≤ q := by
  rw [Int32.lt_iff_toInt_lt, show (0 : Int32).toInt = 0 from rfl] at h0
  rw [Int32.le_iff_toInt_le, nI_toInt (by omega)] at h1
  refine ⟨i1.toInt.toNat, Int32.toInt_inj.mp ?_, by omega⟩
  rw [nI_toInt (by omega)]
  omega
theorem o_load (hl : T.length = L) (hL0 : ∃ j, L = 359 + 3 * j) (hL : L + 3 ≤ 900000) (hI : gInv T M k m C nx sz) (hC8 : 8 ≤ C) (hC : C ≤ C') : opL T M C' (f_X8_load T M 0 i1) (fun T N => f_X9_load T N 311 i1) := by
  have h359 : 359 ≤ L := by obtain ⟨j, hj⟩ := hL0; omega
  obtain ⟨q, b1, b2, b3, b4, b5⟩ := hI.2.2.2.2.2.2
  by_cases hno : i1 < 0 ∨ ¬ i1 ≤ gi M 0 1
  · exact o_loadNo hI hC hno
  obtain ⟨n, rfl, hn⟩ := nI_back (i1 := i1) (q := q) (fun z => hno (Or.inl z)) (by
    rw [← b2]
    exact Decidable.not_not.mp (fun z => hno (Or.inr z))) b1
  obtain ⟨B, hB⟩ := gB_ex hI.2.2.2.2.2.2
  obtain ⟨A, R0, -, hG, -, -, -, r6⟩ := l_first hI hB b3 hn b1 (fun _ _ => 0) (U := T) (R := M) hI.2.1 b3 (fun _ => rfl)
  rcases r6 with ⟨u1, s, e, p, u2⟩ | ⟨u1, u2, u3⟩
  · obtain ⟨T1, N, k0, m0, hcls, l3, c2, c3, c4, -, -, c7, ⟨hnx, hsz, h1, h2, h3, h4⟩, -, -, e01, e02, eM⟩ := l_chain hl hL0 hL hI b2 hn b1 hG u2 u1
    refine Or.inl ⟨gi N 37 1, T1, N, hcls, Or.inr (by rw [l3, hl]), fun l => ?_⟩
    obtain ⟨A2, R2, t1, t2, t3, t4, t5, t6⟩ := l_first hI hB b3 hn b1 l (U := T1) (R := (N.1, l, N.2.2)) (gFx_gr c2 (fun _ _ => rfl)) ((eM 311 2 (by omega) (by decide)).trans b3) (fun j => eM 312 j (by omega) (by decide))
    rcases t6 with ⟨v1, s2, e2, p2, v2⟩ | ⟨v1, -⟩
    · obtain ⟨T2, N2, k2, m2, hcls2, -, -, -, -, d5, d6, -, -, d9, d10, -⟩ := l_chain hl hL0 hL hI b2 hn b1 t2 v2 v1
      have hEq := Sum.inr.inj (Option.some.inj (hcls.symm.trans hcls2))
      have eT : T1 = T2 := congrArg (fun z => z.2.1) hEq
      have eN : N = N2 := congrArg (fun z => z.2.2) hEq
      subst eT
      subst eN
      obtain ⟨hS, ⟨nl, nn, hD⟩, hPC⟩ := v2
      obtain ⟨z1, z2, z3, z4, z5, z6⟩ := pD_val hD
      have hR : ∀ b j, b ≠ 311 → b ≠ 314 → gi (si R2 311 7 (-1)) b j = gi N b j := fun b j q1 q2 => by
        rw [gi_si, if_neg (fun z => q1 z.1)]
        exact t3.2.2 b j (fun z => by have := rSL_T z; omega)
      have hRr : ∀ b j, gr (si R2 311 7 (-1)) b j = gr N b j := fun b j => t3.1 b j
      have hX3 : gFx T1 (si R2 311 7 (-1)) := gFx_gr c2 hRr
      have h11 : gi (si R2 311 7 (-1)) 311 11 = gi N 311 11 := by
        rw [gi_si, if_neg (by omega)]
        exact t3.2.2 311 11 (fun z => by have := rSL_T z; omega)
      have mv : ∀ D B0 k m, gD D → B0 ≠ 311 → B0 ≠ 314 → gSlt T1 N D B0 k m C → gSlt T1 (si R2 311 7 (-1)) D B0 k m C := fun D B0 k m hDD q1 q2 hs => by
        have hr5 : ∀ b j, dIn D b j → b ≠ 311 ∧ b ≠ 314 := fun b j hd => by have := dIn_rngs (Or.inr hDD) hd; omega
        refine gSl_mv hs (Nat.le_refl C) (gDat_gr hs.1.1 hRr) (fun b j hd => ?_) (hRr _ _) (fun b j _ => hRr b j) (fun b j hb => hR b j (gCo_311 hb) (by rcases hb with hb | hb | ⟨i, hi, hb⟩ | ⟨i, hb⟩ <;> omega)) (fun j _ => hR B0 j q1 q2)
        have h6 := dIn_rng hd
        rw [show b - D + D = b by omega]
        exact hR b j (hr5 b j hd).1 (hr5 b j hd).2
      obtain ⟨N5, n1, n2, n3⟩ := m_remember hX3 hnx hsz ((hR 76 1 (by decide) (by decide)).trans h1) ((hR 76 2 (by decide) (by decide)).trans h2) (h11.trans h3) (mv _ _ _ _ (Or.inr ⟨nx, hnx, rfl⟩) (by decide) (by decide) c7) (fun x hx hx7 => by
        obtain ⟨k', m', hs⟩ := h4 x hx hx7
        exact ⟨k', m', mv _ _ _ _ (gD_slot nx x) (by omega) (by omega) hs⟩)
      have hX5 : gFx T1 N5 := gFx_gr hX3 n2.1
      have hfin := rTail_good (U := T1) hS.2.2.2.2.2.2.1 hS.2.2.2.2.2.2.2 n1 hX5
      have e5 : ∀ b j, ¬ (316 ≤ b ∧ b < 324) → b ≠ 311 → b ≠ 314 → gi N5 b j = gi N b j := fun b j q0 q1 q2 => (n2.2.2 b j q0 (by omega)).trans (hR b j q1 q2)
      have e314 : ∀ j, gi N5 314 j = gi R2 314 j := fun j => (n2.2.2 314 j (by omega) (by omega)).trans (by rw [gi_si, if_neg (by omega)])
      have eF : ∀ b j, b ≠ 313 → gi (cpi N5 314 0 313 0 1498) b j = gi N5 b j := fun b j hb => by rw [gi_cpi, if_neg (fun z => hb z.1)]
      have eF3 : ∀ j, j < 1498 → gi (cpi N5 314 0 313 0 1498) 313 j = gi R2 314 j := fun j hj => by
        rw [gi_cpi, if_pos ⟨rfl, Nat.zero_le j, by omega⟩, Nat.sub_zero, Nat.zero_add]
        exact e314 j
      have eFr : ∀ b j, gr (cpi N5 314 0 313 0 1498) b j = gr N b j := fun b j => (n2.1 b j).trans (hRr b j)
      have eFN : ∀ b j, ¬ (311 ≤ b ∧ b < 324) → gi (cpi N5 314 0 313 0 1498) b j = gi N b j := fun b j hb => (eF b j (by omega)).trans (e5 b j (by omega) (by omega) (by omega))
      have dsF : ∀ D, (D = 5 ∨ gD D) → dSame (cpi N5 314 0 313 0 1498) D N D := fun D hDD b j hd => by
        have h6 := dIn_rng hd
        have h7 := dD_lo hDD
        have h8 := dIn_rngs hDD hd
        rw [show b - D + D = b by omega]
        exact eFN b j (by omega)
      have h37 : gD 37 := Or.inl rfl
      have hDaF : gDa T1 (cpi N5 314 0 313 0 1498) := gDa_r c3 eFr
      have dX : dSame (cpi N5 314 0 313 0 1498) 37 (gX A2 R2) 5 := fun b j hd => by
        have h6 := dIn_rng hd
        rw [eFN b j (by omega), d9 b j hd, gX_m (by omega)]
      have eqX : ∀ b j, b ≠ 314 → gi (gX A2 R2) b j = gi A2 b j := fun b j hb => gX_m hb
      have x1 : gi (gX A2 R2) 5 1 = gi A2 5 1 := eqX 5 1 (by decide)
      have enX : dNl (gX A2 R2) 5 = dNl A2 5 := by
        show (gi (gX A2 R2) 5 1).toNatClampNeg = (gi A2 5 1).toNatClampNeg
        rw [x1]
      have hVF : gVal T1 (cpi N5 314 0 313 0 1498) 37 := gVal_same (dsF 37 (Or.inr h37)) (hDaF 37 (Or.inr h37)) d5.2.1
      have hEF : gEq (cpi N5 314 0 313 0 1498) 37 313 := gEq_same dX (by rw [enX]; exact z1.2.1) (fun i hi => by
        rw [enX] at hi
        have hx := (z1.2.2.2.2.2 i hi).2.2.2.1.2
        have hi8 : i < 8 := by have := z1.2.1; omega
        show (gi (gX A2 R2) (5 + 5 + 3 * i) 5).toNatClampNeg ≤ 8
        rw [eqX _ _ (by omega)]
        exact hx) (fun j hj => by rw [eF3 j (by omega), gX_r]) z3
      have hcF : ∀ b j, gCo b → gi (cpi N5 314 0 313 0 1498) b j = gi N b j := fun b j hb => eFN b j (by rcases hb with hb | hb | ⟨i, hi, hb⟩ | ⟨i, hb⟩ <;> omega)
      have hWF : gWt T1 (cpi N5 314 0 313 0 1498) 37 k2 m2 := gWt_mv d5.2.2.2.1 (eFr _ _) (fun b j _ => eFr b j) hcF
      have hRF : wRf (cpi N5 314 0 313 0 1498) 313 k2 m2 := by
        rcases d10 with ⟨y1, y2, y3⟩ | ⟨y1, y2⟩
        · refine Or.inl ⟨(eF3 5 (by omega)).trans y1, y2, fun t ht => ?_⟩
          have hp := wP_mono (k := k2) ht
          have hw : 1 ≤ wL (k2 t) := by unfold wL; split <;> omega
          refine ⟨(eF3 _ (by omega)).trans (y3 t ht).1, fun y => ?_⟩
          have : wL (k2 t) = 2 := by unfold wL; rw [if_pos y]
          exact (eF3 _ (by omega)).trans ((y3 t ht).2 y)
        · exact Or.inr ⟨(eF3 5 (by omega)).trans y1, y2⟩
      have enF : dNl (cpi N5 314 0 313 0 1498) 37 = nl := by
        rw [dNl_same dX, enX, z2]
      refine ⟨cpi N5 314 0 313 0 1498, ?_, ?_, ?_, k2, m2, (nx + 1) % 8, (if sz < 8 then sz + 1 else 8), gInv_C' (C := C) ⟨⟨hVF, hEF, hWF, hRF, d5.2.2.2.2.2.1, d5.2.2.2.2.2.2.1, nl, by omega, (eF3 3 (by omega)).trans z4, fun i hi => ?_⟩, gFx_gr c2 eFr, gEl_ex2 d5.2.1 d6 (dsF 37 (Or.inr h37)) (fun b j q1 q2 => eFN b j (by omega)), gHs_B n3 ⟨fun _ _ => rfl, fun _ _ _ => rfl, fun b j h => eF b j (fun z => h (Or.inl z))⟩, fun D hDD i hi => ?_, hDaF, ?_⟩ hC⟩
      · show f_X9_load T1 _ 311 (nI n) = _
        rw [t1, hfin, e314 1, hD.2.2.1.2.2.1, d9 37 1 (dIn_hd (Or.inl rfl)), hD.2.2.1.1]
      · rw [eF 311 0 (by decide), n2.2.2 311 0 (by omega) (by omega), gi_si, if_neg (by omega)]
        exact t4
      · show gl N5 358 0 = l 358 0
        rw [n2.2.1]
        exact t3.2.1 358 0 (fun z => by unfold rL at z; omega)
      · rw [enF] at hi
        exact ⟨i + 1, by omega, (eF3 _ (by omega)).trans (z6 i hi)⟩
      · have h8 := dIn_rngs hDD (dIn_lib hi (Or.inr (Or.inl rfl)))
        rw [show dKp (cpi N5 314 0 313 0 1498) D i = dKp N D i from eFN _ _ (by omega)]
        exact c4 D hDD i hi
      · refine ⟨0, by decide, ?_, ?_, fun j hj => ?_, ?_⟩
        · rw [eFN 0 1 (by omega), e01]; rfl
        · rw [eF 311 2 (by decide), n2.2.2 311 2 (by omega) (by omega), gi_si, if_neg (by omega), t5]; rfl
        · rw [eF 312 j (by decide), e5 312 j (by omega) (by decide) (by decide), eFN 1 j (by omega), eM 312 j (by omega) (by decide), eM 1 j (by omega) (by decide)]
          exact b4 j hj
        · rw [eFN 0 2 (by omega), e02, eF 311 7 (by decide), n2.2.2 311 7 (by omega) (by omega), gi_si, if_pos ⟨rfl, rfl⟩]
    · obtain ⟨k2, m2, w1, w2, -⟩ := pC_val u2.2.2
      obtain ⟨N9, z1, -⟩ := c_tail u2.1.1 (by omega) (by omega) w1 w2
      rw [v1, z1] at u1
      exact absurd (congrArg Prod.fst (Option.some.inj u1)) (show ¬ (0 : Int32) = 1 by decide)
  · exact o_loadBad (by omega) (by omega) hI hC hB b2 b3 hn b1 hG u1
end PLZ
