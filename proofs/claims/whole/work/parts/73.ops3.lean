/-! UNLOAD, RELOAD, UNDO as calls -/
section POS
variable {T : gT} {M M2 N G : gM} {Dk : Nat} {k : Nat → Nat × Nat} {m C C' a nx sz nx1 sz1 : Nat} {i : Int32}
theorem dTo {K : gM} (hd : dSame K Dk M 37) {b j : Nat} (h : dIn 37 b j) : gi K (b - 37 + Dk) j = gi M b j := by
  have hr := dIn_rng h
  rw [hd (b - 37 + Dk) j (by
    rcases h with ⟨q1, q2⟩ | ⟨i, hi, q⟩
    · exact Or.inl ⟨by omega, q2⟩
    · refine Or.inr ⟨i, hi, ?_⟩
      unfold lIn at q ⊢
      omega), show b - 37 + Dk - Dk + 37 = b by omega]
theorem m_fin (h : gPost T M M2 N k m C nx nx1 sz1) (hC : C ≤ C') (hF : fr rB N G) (hS : gSlt T G 37 313 k m C') : gInv T G k m C' nx1 sz1 := by
  obtain ⟨h1, h2, h3, h4, h5, h6, ⟨hnx, h7⟩, h8, h9, h10, h11⟩ := h
  have hA : fr rA N G := fr_mono hF (fun b j q => rB_A b j q)
  obtain ⟨c1, c2, c3⟩ := gCls_r h5 h6 hA
  exact ⟨hS, gFx_fr h1 hF, c2, gHs_C' (gHs_B h8 hF) hC, gKf_r h3 hA, gDa_r h2 hF.1, gBf_B h4 hF⟩
theorem nRk_same {K : gM} {D' : Nat} (hd : dSame K Dk M D') {q : Nat} (ha : a < 8) (hq : q < 8) : nRk K Dk a q = nRk M D' a q := by
  unfold nRk
  rw [dRk_same hd ha, dRk_same hd hq]
theorem lRk_same {K : gM} {D' : Nat} (hd : dSame K Dk M D') (h8 : dNl M D' ≤ 8) {q : Nat} (hq : q < 8) : lRk K Dk a q = lRk M D' a q := by
  unfold lRk
  rw [dRk_same hd hq, dNl_same hd, cntN_ext (fun z hz => by rw [dRk_same hd (show z < 8 by omega)])]
/-- what up_unload and up_reload need, of any later memory K -/
theorem rk_pre {M1 K : gM} (hs1 : dSame M1 37 M 37) (hF : fr rkP M1 M2) (h12 : ∀ b j, dIn 37 b j → gi K b j = gi M2 b j) (hd : dSame K Dk M 37) : ∀ b j, dIn 37 b j → ¬ rkP b j → gi K b j = gi K (b - 37 + Dk) j := fun b j hb hr => by
  have h := dIn_rng hb
  have e := hs1 b j hb
  rw [show b - 37 + 37 = b by omega] at e
  rw [h12 b j hb, hF.2.2 b j hr, e, dTo hd hb]
theorem mid_kp {M1 : gM} (hI : gInv T M k m C nx sz) (hs1 : dSame M1 37 M 37) (hF : fr rkP M1 M2) : ∀ i, i < 8 → dKp M2 37 i = 0 ∨ dKp M2 37 i = 1 := fun i hi => by
  rw [show dKp M2 37 i = dKp M1 37 i from hF.2.2 _ _ (fun q => by unfold rkP at q; omega), dKp_same hs1 hi]
  exact hI.2.2.2.2.1 37 (Or.inr (Or.inl rfl)) i hi
theorem o_unload (hI : gInv T M k m C nx sz) : opA T M C (f_X8_unload T M 0 i) (fun N => f_X9_unload T N 311 i) cdx := by
  have hR := gInv_rel hI
  have h := hR.cl
  have hV := h.2.1
  have h8 := hV.2.1
  by_cases g : gdL M 37 i
  · obtain ⟨a, ha, rfl⟩ := gdL_of h g
    have ha8 : a < 8 := by omega
    by_cases hl : dRk M 37 a = -1
    · refine opA_no hI (Nat.le_refl C) (c := 3) ?_ (fun M' r e => ?_)
      · unfold f_X8_unload
        rw [c_libY h g, r_0_4 h.1, Option.bind_some, p_row1 hV.1, Option.bind_some, p_row2 hV.1 ha8, Option.bind_some, p_isLoaded, Option.bind_some, if_pos hl, if_neg (fun q => q rfl)]
      · obtain ⟨r0, d0, t0, f0⟩ := m_st r
        have gN : gdL M' 37 (nI a) := (gdL_1 e).mpr g
        have eN : a < dNl (si M' 311 0 0) 37 := by
          have := ((gdL_same d0).mpr gN).2
          have h9 := r0.2.1.2.1
          exact (nI_ltI (by omega) (by omega)).mp this
        have el : dRk (si M' 311 0 0) 37 a = -1 := by
          rw [dRk_same d0 ha8]
          show M'.1 _ _ = _
          rw [e]
          exact hl
        refine ⟨0, si (si M' 311 0 0) 311 0 2, ?_, m_fr1 f0, by rw [gi_si, if_pos ⟨rfl, rfl⟩]; rfl⟩
        show f_X9_unload T M' 311 (nI a) = _
        unfold f_X9_unload f_X9_unload_27
        rw [m_libY r0 ((gdL_same d0).mpr gN) t0, Option.bind_some, if_neg (fun q => q rfl), p_mLoaded (gMo_Fx r0.1) r0.2.2.1 r0.2.1.2.1 eN, Option.bind_some, if_pos el, if_neg (fun q => q rfl), p_X9_fails1 t0 (by decide), Option.bind_some, if_neg (show ¬ ((1 : Int32) = 0) by decide)]
    · obtain ⟨M1, c1, hB, hX1, hV1, hs1, hS1, hDk, hg4⟩ := c_beg hI
      have ha1 : a < dNl M1 37 := by rw [dNl_same hs1]; exact ha
      obtain ⟨M2, t1, t2, t3⟩ := p_takeOut hV1 ha1 (by rw [dRk_same hs1 ha8]; exact hl)
      have hne : 78 + 29 * nx ≠ 37 := by omega
      have hS2 : gSlt T M2 (78 + 29 * nx) 313 k m C := gSl_fr hS1 t2 (fun b j q => dIn_apart (Or.inr (Or.inl rfl)) (Or.inr hDk) (fun z => hne z.symm) (rkP_dIn q)) (fun b j q => dIn_noCo (Or.inr (Or.inl rfl)) (rkP_dIn q)) (fun j _ q => by unfold rkP at q; omega)
      have hd2 : dSame M2 (78 + 29 * nx) M 37 := fun b j hb => by
        rw [t2.2.2 b j (fun q => dIn_apart (Or.inr hDk) (Or.inr (Or.inl rfl)) hne hb (rkP_dIn q))]
        exact hB.2.2.2.1 b j hb
      have hr2 : ∀ q, q < dNl M 37 → dRk M2 37 q = nRk M 37 a q := fun q hq => by
        rw [t3 q (by rw [dNl_same hs1]; exact hq), nRk_same hs1 ha8 (by omega)]
      have hda2 : gDat T M2 37 := gDat_gr hV1.1 t2.1
      have up2 := up_unload (a := a) hS2 hDk hda2 (rk_pre hs1 t2 (fun _ _ _ => rfl) hd2) ((t2.1 _ _).trans (hg4.trans (t2.1 _ _).symm)) (by rw [dNl_same hd2]; exact ha) (by rw [dRk_same hd2 ha8]; exact hl) (fun q hq => by
        rw [dNl_same hd2] at hq
        rw [hr2 q hq, nRk_same hd2 ha8 (by omega)])
      have hV2 : gVal T M2 37 := gVal_same (D' := 37) (fun b j hb => by
        have hr := dIn_rng hb
        rw [show b - 37 + 37 = b by omega, gi_si, if_neg (by omega)]) hda2 up2.1
      obtain ⟨N, c2, c3, -⟩ := p_mid hI hB t2.1 (fun b j hb => t2.2.2 b j (fun q => hb (rkP_dIn q))) hV2 (mid_kp hI hs1 t2)
      have hCN := c3.2.2.2.2.1
      have h12N := c3.2.2.2.2.2.2.2.2.2.2.2
      have hdim : ∀ j, j = 1 ∨ j = 2 → gi N 37 j = gi M 37 j := fun j hj => by
        rw [h12N 37 j (dIn_hd (by omega)), t2.2.2 37 j (fun q => by unfold rkP at q; omega)]
        exact hs1.hd (by omega)
      have e1N : dNl N 37 = dNl M 37 := congrArg Int32.toNatClampNeg (hdim 1 (Or.inl rfl))
      have e2N : dNn N 37 = dNn M 37 := congrArg Int32.toNatClampNeg (hdim 2 (Or.inr rfl))
      refine Or.inl ⟨nI (sumN (fun i => vCh (vW N 37 k m) N 37 (vBd (vW M 37 k m) M 37) i (dNn N 37)) (dNl N 37)), N, ?_, fun l => ?_⟩
      · unfold f_X8_unload
        have hXs : gFx T M2 := gFx_fr hX1 t2
        rw [c_libY h g, r_0_4 h.1, Option.bind_some, p_row1 hV.1, Option.bind_some, p_row2 hV.1 ha8, Option.bind_some, p_isLoaded, Option.bind_some, if_neg (show ¬ gi M (37 + 5 + 3 * a) 2 = -1 from hl), if_pos (by decide), c1, Option.bind_some, r_0_4 hX1, Option.bind_some, t1, Option.bind_some, r_0_5 hXs, Option.bind_some, r_0_4 hXs, Option.bind_some, c2, Option.bind_some, q_changedAll hCN c3.2.2.2.2.2.1 (w := vBd (vW M 37 k m) M 37) (fun a ha n hn => q_were hI c3 (by rw [← e1N]; exact ha) (by rw [← e2N]; exact hn)), Option.bind_some]
      · have hM := gMid_l c3 l
        obtain ⟨r0, t0, d0⟩ := m_mid hM
        obtain ⟨N1, N2, a1, a2, a3, a4, a5, a6⟩ := m_ch1 hM hV
        have hdN2 := a3.2.2.2.2.2.2.2.2.1
        have h12N2 := a3.2.2.2.2.2.2.2.2.2.2
        have hSN2 := a3.2.2.2.2.2.2.1.2
        have up3 := up_unload (a := a) hSN2 hDk (a3.2.1 37 (Or.inr (Or.inl rfl))) (rk_pre hs1 t2 h12N2 hdN2) a3.2.2.2.2.2.2.2.2.2.1 (by rw [dNl_same hdN2]; exact ha) (by rw [dRk_same hdN2 ha8]; exact hl) (fun q hq => by
          rw [dNl_same hdN2] at hq
          rw [show dRk N2 37 q = dRk M2 37 q from h12N2 _ _ (dIn_lib (by omega) (Or.inr (Or.inr (Or.inl rfl)))), hr2 q hq, nRk_same hdN2 ha8 (by omega)])
        have hN3 := m_fin a3 (Nat.le_refl C) (fr_si fr_refl (Or.inl rfl)) up3
        have hd3 : dSame (si N2 313 (6 + 24 * a + 2) 0) 37 N 37 := fun b j hd => by
          have hr := dIn_rng hd
          rw [show b - 37 + 37 = b by omega, gi_si, if_neg (by omega), h12N2 b j hd, h12N b j hd]
        obtain ⟨N4, b1, b2, b3, b4⟩ := m_ch2 (but := -1) (w := vBd (vW M 37 k m) M 37) hN3 hd3 hCN.2.1 (fun q hq n hn => by
          rw [gi_si, if_neg (by omega)]
          exact a4 q (by rw [← e1N]; exact hq) n (by rw [← e2N]; exact hn))
        rw [sumN_m1 hCN.2.1.2.1] at b1
        refine ⟨N4, ?_, by rw [b3, si_thr.1]; exact a5, by rw [b4, si_thr.2]; exact a6, k, m, _, _, b2⟩
        show f_X9_unload T (N.1, l, N.2.2) 311 (nI a) = _
        unfold f_X9_unload f_X9_unload_27
        rw [m_libY r0 (i := nI a) ⟨g.1, by rw [dNl_same d0]; exact g.2⟩ t0, Option.bind_some, if_neg (fun q => q rfl), p_mLoaded (gMo_Fx r0.1) r0.2.2.1 r0.2.1.2.1 (by rw [dNl_same d0]; exact ha), Option.bind_some, if_neg (show ¬ dRk (si (N.1, l, N.2.2) 311 0 0) (78 + 29 * nx) a = -1 by rw [dRk_same d0 ha8]; exact hl), if_pos (show ¬ ((1 : Int32) = 0) by decide), p_X9_fails0 t0, Option.bind_some, if_pos rfl, a1, Option.bind_some, a2, Option.bind_some, p_mdat (gMo_Fx a3.1), Option.bind_some, p_at, Option.bind_some, show (2 : Int32) = nI 2 from rfl, nI_add, ast_ok (s_313 a3.1) (by omega) (by decide), Option.bind_some, b1, Option.bind_some]
  · refine opA_no hI (Nat.le_refl C) (c := 2) (c_libN h g) (fun M' r e => ?_)
    obtain ⟨r0, d0, t0, f0⟩ := m_st r
    refine ⟨0, si (si M' 311 0 0) 311 0 1, ?_, m_fr1 f0, by rw [gi_si, if_pos ⟨rfl, rfl⟩]; rfl⟩
    show f_X9_unload T M' 311 i = _
    unfold f_X9_unload
    rw [m_libN r0 (fun q => g ((gdL_1 e).mp ((gdL_same d0).mp q))) t0, Option.bind_some, if_pos (show ¬ ((1 : Int32) = 0) by decide)]
theorem o_reload (hC : C < 1000000) (hI : gInv T M k m C nx sz) : opA T M (C + 1) (f_X8_reload T M 0 i) (fun N => f_X9_reload T N 311 i) cdx := by
  have hR := gInv_rel hI
  have h := hR.cl
  have hV := h.2.1
  have h8 := hV.2.1
  by_cases g : gdL M 37 i
  · obtain ⟨a, ha, rfl⟩ := gdL_of h g
    have ha8 : a < 8 := by omega
    by_cases hl : dRk M 37 a = -1
    · obtain ⟨M1, c1, hB, hX1, hV1, hs1, hS1, hDk, hg4⟩ := c_beg hI
      have ha1 : a < dNl M1 37 := by rw [dNl_same hs1]; exact ha
      have t1 := p_takeIn hV1 ha1
      generalize hM2 : si M1 (37 + 5 + 3 * a) 2 (nI (cntN (fun i => decide (dRk M1 37 i ≠ -1)) (dNl M1 37))) = M2 at t1
      have t2 : fr rkP M1 M2 := by rw [← hM2]; exact fr_si fr_refl ⟨rfl, by omega, by omega, by omega⟩
      have hne : 78 + 29 * nx ≠ 37 := by omega
      have hS2 : gSlt T M2 (78 + 29 * nx) 313 k m C := gSl_fr hS1 t2 (fun b j q => dIn_apart (Or.inr (Or.inl rfl)) (Or.inr hDk) (fun z => hne z.symm) (rkP_dIn q)) (fun b j q => dIn_noCo (Or.inr (Or.inl rfl)) (rkP_dIn q)) (fun j _ q => by unfold rkP at q; omega)
      have hd2 : dSame M2 (78 + 29 * nx) M 37 := fun b j hb => by
        rw [t2.2.2 b j (fun q => dIn_apart (Or.inr hDk) (Or.inr (Or.inl rfl)) hne hb (rkP_dIn q))]
        exact hB.2.2.2.1 b j hb
      have hr2 : ∀ q, q < dNl M 37 → dRk M2 37 q = lRk M 37 a q := fun q hq => by
        rw [← lRk_same hs1 h8 (show q < 8 by omega)]
        unfold lRk
        show gi M2 (37 + 5 + 3 * q) 2 = _
        rw [← hM2, gi_si]
        by_cases e : q = a
        · rw [if_pos ⟨by omega, rfl⟩, if_pos e]
        · rw [if_neg (by omega), if_neg e]
      have hda2 : gDat T M2 37 := gDat_gr hV1.1 t2.1
      have up2 := up_reload (a := a) hC hS2 hDk hda2 (rk_pre hs1 t2 (fun _ _ _ => rfl) hd2) ((t2.1 _ _).trans (hg4.trans (t2.1 _ _).symm)) (by rw [dNl_same hd2]; exact ha) (by rw [dRk_same hd2 ha8]; exact hl) (fun q hq => by
        rw [dNl_same hd2] at hq
        rw [hr2 q hq, lRk_same hd2 h8 (by omega)])
      have hV2 : gVal T M2 37 := gVal_same (D' := 37) (fun b j hb => by
        have hr := dIn_rng hb
        rw [show b - 37 + 37 = b by omega, gi_si, if_neg (by omega), gi_si, if_neg (by omega)]) hda2 up2.1
      obtain ⟨N, c2, c3, -⟩ := p_mid hI hB t2.1 (fun b j hb => t2.2.2 b j (fun q => hb (rkP_dIn q))) hV2 (mid_kp hI hs1 t2)
      have hCN := c3.2.2.2.2.1
      have h12N := c3.2.2.2.2.2.2.2.2.2.2.2
      have hdim : ∀ j, j = 1 ∨ j = 2 → gi N 37 j = gi M 37 j := fun j hj => by
        rw [h12N 37 j (dIn_hd (by omega)), t2.2.2 37 j (fun q => by unfold rkP at q; omega)]
        exact hs1.hd (by omega)
      have e1N : dNl N 37 = dNl M 37 := congrArg Int32.toNatClampNeg (hdim 1 (Or.inl rfl))
      have e2N : dNn N 37 = dNn M 37 := congrArg Int32.toNatClampNeg (hdim 2 (Or.inr rfl))
      have hsb := sumN_but (f := fun i => vCh (vW N 37 k m) N 37 (vBd (vW M 37 k m) M 37) i (dNn N 37)) hCN.2.1.2.1 (show a < dNl N 37 by rw [e1N]; exact ha)
      refine Or.inl ⟨nI (sumN (fun i => if nI i = nI a then 0 else vCh (vW N 37 k m) N 37 (vBd (vW M 37 k m) M 37) i (dNn N 37)) (dNl N 37)), N, ?_, fun l => ?_⟩
      · unfold f_X8_reload
        have hXs : gFx T M2 := gFx_fr hX1 t2
        have hw := fun a ha n hn => q_were hI c3 (a := a) (n := n) (show a < dNl M 37 by rw [← e1N]; exact ha) (show n < dNn M 37 by rw [← e2N]; exact hn)
        rw [c_libY h g, r_0_4 h.1, Option.bind_some, p_row1 hV.1, Option.bind_some, p_row2 hV.1 ha8, Option.bind_some, p_isLoaded, Option.bind_some, if_pos (show gi M (37 + 5 + 3 * a) 2 = -1 from hl), if_pos rfl, c1, Option.bind_some, r_0_4 hX1, Option.bind_some, t1, Option.bind_some, r_0_5 hXs, Option.bind_some, r_0_4 hXs, Option.bind_some, c2, Option.bind_some, q_changedAll hCN c3.2.2.2.2.2.1 (w := vBd (vW M 37 k m) M 37) hw, Option.bind_some, q_changed hCN c3.2.2.2.2.2.1 (w := vBd (vW M 37 k m) M 37) hw (by rw [e1N]; exact ha), Option.bind_some, pk_sub (by rw [hsb]; omega)]
        rw [hsb, Nat.add_sub_cancel]
      · have hM := gMid_l c3 l
        obtain ⟨r0, t0, d0⟩ := m_mid hM
        obtain ⟨N1, N2, a1, a2, a3, a4, a5, a6⟩ := m_ch1 hM hV
        have hdN2 := a3.2.2.2.2.2.2.2.2.1
        have h12N2 := a3.2.2.2.2.2.2.2.2.2.2
        have hSN2 := a3.2.2.2.2.2.2.1.2
        have up3 := up_reload (a := a) hC hSN2 hDk (a3.2.1 37 (Or.inr (Or.inl rfl))) (rk_pre hs1 t2 h12N2 hdN2) a3.2.2.2.2.2.2.2.2.2.1 (by rw [dNl_same hdN2]; exact ha) (by rw [dRk_same hdN2 ha8]; exact hl) (fun q hq => by
          rw [dNl_same hdN2] at hq
          rw [show dRk N2 37 q = dRk M2 37 q from h12N2 _ _ (dIn_lib (by omega) (Or.inr (Or.inr (Or.inl rfl)))), hr2 q hq, lRk_same hdN2 h8 (by omega)])
        have hN3 := m_fin a3 (Nat.le_succ C) (fr_si (fr_si fr_refl (Or.inl rfl)) (Or.inl rfl)) up3
        have hd3 : dSame (si (si N2 313 3 (gi N2 313 3 + 1)) 313 (6 + 24 * a + 2) (gi N2 313 3 + 1)) 37 N 37 := fun b j hd => by
          have hr := dIn_rng hd
          rw [show b - 37 + 37 = b by omega, gi_si, if_neg (by omega), gi_si, if_neg (by omega), h12N2 b j hd, h12N b j hd]
        obtain ⟨N4, b1, b2, b3, b4⟩ := m_ch2 (but := nI a) (w := vBd (vW M 37 k m) M 37) hN3 hd3 hCN.2.1 (fun q hq n hn => by
          rw [gi_si, if_neg (by omega), gi_si, if_neg (by omega)]
          exact a4 q (by rw [← e1N]; exact hq) n (by rw [← e2N]; exact hn))
        have hXa : gFx T (si N2 313 3 (gi N2 313 3 + 1)) := gFx_gr a3.1 (fun _ _ => rfl)
        refine ⟨N4, ?_, by rw [b3, si_thr.1, si_thr.1]; exact a5, by rw [b4, si_thr.2, si_thr.2]; exact a6, k, m, _, _, b2⟩
        show f_X9_reload T (N.1, l, N.2.2) 311 (nI a) = _
        unfold f_X9_reload
        rw [m_libY r0 (i := nI a) ⟨g.1, by rw [dNl_same d0]; exact g.2⟩ t0, Option.bind_some, if_neg (fun q => q rfl), p_mLoaded (gMo_Fx r0.1) r0.2.2.1 r0.2.1.2.1 (by rw [dNl_same d0]; exact ha), Option.bind_some, if_pos (show dRk (si (N.1, l, N.2.2) 311 0 0) (78 + 29 * nx) a = -1 by rw [dRk_same d0 ha8]; exact hl), p_X9_fails0 t0, Option.bind_some, if_pos rfl, a1, Option.bind_some, a2, Option.bind_some, p_mdat (gMo_Fx a3.1), Option.bind_some, show ald T N2 313 (3 : Int32) = some (gi N2 313 3) from p_mald (k := 3) (gMo_Fx a3.1) (by omega), Option.bind_some, show ast T N2 313 (3 : Int32) (gi N2 313 3 + 1) = some (si N2 313 3 (gi N2 313 3 + 1)) from ast_ok (k := 3) (s_313 a3.1) (by omega) (by decide), Option.bind_some, p_mdat (gMo_Fx hXa), Option.bind_some, p_at, Option.bind_some, Option.bind_some, show ald T (si N2 313 3 (gi N2 313 3 + 1)) 313 (3 : Int32) = some (gi N2 313 3 + 1) from (p_mald (k := 3) (gMo_Fx hXa) (by omega)).trans (by rw [gi_si, if_pos ⟨rfl, rfl⟩]), Option.bind_some, show (2 : Int32) = nI 2 from rfl, nI_add, ast_ok (s_313 hXa) (by omega) (by decide), Option.bind_some, b1, Option.bind_some]
    · refine opA_no hI (Nat.le_succ C) (c := 3) ?_ (fun M' r e => ?_)
      · unfold f_X8_reload
        rw [c_libY h g, r_0_4 h.1, Option.bind_some, p_row1 hV.1, Option.bind_some, p_row2 hV.1 ha8, Option.bind_some, p_isLoaded, Option.bind_some, if_neg (show ¬ gi M (37 + 5 + 3 * a) 2 = -1 from hl), if_neg (by decide)]
      · obtain ⟨r0, d0, t0, f0⟩ := m_st r
        have gN : gdL M' 37 (nI a) := (gdL_1 e).mpr g
        have eN : a < dNl (si M' 311 0 0) 37 := by
          have := ((gdL_same d0).mpr gN).2
          have h9 := r0.2.1.2.1
          exact (nI_ltI (by omega) (by omega)).mp this
        have el : ¬ dRk (si M' 311 0 0) 37 a = -1 := by
          rw [dRk_same d0 ha8]
          show ¬ M'.1 _ _ = _
          rw [e]
          exact hl
        refine ⟨0, si (si M' 311 0 0) 311 0 2, ?_, m_fr1 f0, by rw [gi_si, if_pos ⟨rfl, rfl⟩]; rfl⟩
        show f_X9_reload T M' 311 (nI a) = _
        unfold f_X9_reload
        rw [m_libY r0 ((gdL_same d0).mpr gN) t0, Option.bind_some, if_neg (fun q => q rfl), p_mLoaded (gMo_Fx r0.1) r0.2.2.1 r0.2.1.2.1 eN, Option.bind_some, if_neg el, p_X9_fails1 t0 (by decide), Option.bind_some, if_neg (show ¬ ((1 : Int32) = 0) by decide)]
  · refine opA_no hI (Nat.le_succ C) (c := 2) (c_libN h g) (fun M' r e => ?_)
    obtain ⟨r0, d0, t0, f0⟩ := m_st r
    refine ⟨0, si (si M' 311 0 0) 311 0 1, ?_, m_fr1 f0, by rw [gi_si, if_pos ⟨rfl, rfl⟩]; rfl⟩
    show f_X9_reload T M' 311 i = _
    unfold f_X9_reload
    rw [m_libN r0 (fun q => g ((gdL_1 e).mp ((gdL_same d0).mp q))) t0, Option.bind_some, if_pos (show ¬ ((1 : Int32) = 0) by decide)]
end POS
