/-! THE ROUNDS' CASE: reload -/
section PBV
variable {T T1 T' T0 : gT} {M M1 M' N V V1 : gM} {rr a7 l A : Nat} {L R O : Nat → Nat} {nl nn : Nat} {k : Nat → Nat × Nat} {m dn nx sz B lc B2 lc2 : Nat} {ld ld2 : Nat → Nat} {c b D p R0 kk q fw r : Nat} {n : Nat} {f : Nat → Int32} {i2 i9 : Int32} {P : Nat → Prop}
theorem vRe_same (hd : dSame M1 37 M 37) (h8 : dNl M 37 ≤ 8) {a : Nat} : dSame (vRe M1 a) 37 (vRe M a) 37 := by
  unfold vRe
  rw [show cntN (fun i => decide (dRk M1 37 i ≠ -1)) (dNl M1 37) = cntN (fun i => decide (dRk M 37 i ≠ -1)) (dNl M 37) by
    rw [dNl_same hd]
    exact cntN_ext (fun q hq => by rw [dRk_same hd (by omega)])]
  exact si_dS hd
theorem b_rel [gW0] {k0 : Int32} (hX : FX rr a7 l L R O nl) (hM : MP T M rr a7 l A L R O nl nn k m dn nx sz B lc ld p R0) (hkk : kk ≤ nl) (hk0 : k0 = if kk < nl ∧ dRk M 37 kk = -1 then 1 else 0) (hT : T.length + 5440 ≤ 900000) : RO (f_L_law_1070 n f T M i2 0 rr l a7 (nI dn) i9 p R0 (-2000000097) (nI kk) (if kk < nl then 1 else 0) k0) i9 dn (T.length + 5440) 5440 28980 rr a7 l A L R O nl nn k m := by
  have hC := hM.1
  have hI := hC.1
  have hV := hI.1.2.1
  have h8 := hV.2.1
  have hn1 := hC.2.2.2.2.1
  have hn2 := hC.2.2.2.2.2.1
  have h5 := hX.2.2.2.2.2.2.2.2.2
  have h4 := hC.2.2.2.2.2.2.1
  have h := hC.2.2.1
  unfold f_L_law_1070 f_L_law_1081 f_L_law_1112 f_L_law_1128
  by_cases hkn : kk < nl
  · have hkm : kk < dNl M 37 := by rw [hn1]; exact hkn
    rw [if_pos hkn]
    simp only [d1, d0, if_false, if_true]
    by_cases hl : dRk M 37 kk = -1
    · rw [hk0, if_pos (show kk < nl ∧ dRk M 37 kk = -1 from ⟨hkn, hl⟩)]
      simp only [d1, d0, if_false, if_true]
      have hcnt := LK_cnt hV h
      have hlcn : lc < dNl M 37 := by
        rw [← hcnt]
        have h1 := cntN_but (c := fun i => decide (dRk M 37 i ≠ -1)) hkm
        have h2 := cnt_le (c := fun i => decide (dRk M 37 i ≠ -1)) (e := fun i => decide (i ≠ kk)) (n := dNl M 37) (fun q hq hc => by
          have hq2 : dRk M 37 q ≠ -1 := of_decide_eq_true hc
          exact decide_eq_true (fun e => hq2 (by rw [e]; exact hl)))
        have h3 := cntN_but (c := fun _ => true) hkm
        have h4 : cntN (fun _ => true) (dNl M 37) ≤ dNl M 37 := cntN_le _ _
        simp only [Bool.true_and, if_true] at h3
        omega
      obtain ⟨v1, T2, M2, c2, s2, w1, w2, w3, w4, rfl, w6, w7, w8⟩ := p_with (x := nI kk) h.2.2.1.2.2 (by have := hC.2.2.2.1; omega) (show T.length < 900000 by omega)
      have hl2 := w2.2.2
      have hV2 := vRe_val hV hkm hl
      have hw0 := hC.2.2.2.2.2.2.2.2.2.2.1
      have h311 := w0_ge
      have ha7 := sh_lt hC.2.2.2.2.2.2.2.2.2.1
      have hrr := hX.2.1
      have nv : ∀ {b j : Nat}, ¬ (b = 37 + 5 + 3 * kk ∧ j = 2) → gi (vRe M kk) b j = gi M b j := fun hn => by rw [gi_si, if_neg hn]
      have n1 : dNl (vRe M kk) 37 = nl := (congrArg Int32.toNatClampNeg (nv (by omega))).trans hn1
      have n2 : dNn (vRe M kk) 37 = nn := (congrArg Int32.toNatClampNeg (nv (by omega))).trans hn2
      have rkk : dRk (vRe M kk) 37 kk = nI lc := by
        show gi (vRe M kk) (37 + 5 + 3 * kk) 2 = _
        rw [gi_si, if_pos ⟨rfl, rfl⟩, hcnt]
      have rko : ∀ i, i ≠ kk → dRk (vRe M kk) 37 i = dRk M 37 i := fun i hi => nv (by omega)
      have hLK : LK (Pl rr a7) T2 (sr M2 l 3 (some T.length)) l A T.length L R O (lc + 1) (fun t => if t < lc then ld t else kk) (vRe M kk) 37 k m := by
        refine LK_ldd (LK_to w2 h) ⟨by omega, by omega, by omega, by omega⟩ w6 (n1.trans hn1.symm) (n2.trans hn2.symm) (nv (by omega)) (nv (by omega)) (fun i hi => ⟨nv (by omega), nv (by omega), congrArg Int32.toNatClampNeg (nv (by omega)), fun j hj => nv (by omega), fun n hn => nv (by omega)⟩) (by omega) (fun t ht => ?_) (fun i hi => ?_)
        · by_cases htl : t < lc
          · have hd := h.2.2.2.2.1.2.1 t htl
            have hne : ld t ≠ kk := fun z => by
              rw [z, hl] at hd
              exact nI_nneg (v := t) (by omega) (by decide) hd.2.2.symm
            rw [if_pos htl]
            exact ⟨hd.1, by rw [w7 t htl]; exact hd.2.1, by rw [rko _ hne]; exact hd.2.2⟩
          · have et : t = lc := by omega
            rw [if_neg htl, et]
            exact ⟨hkm, w8, rkk⟩
        · by_cases ei : i = kk
          · exact Or.inr ⟨lc, by omega, by rw [if_neg (by omega), ei]⟩
          · rw [rko i ei]
            rcases h.2.2.2.2.1.2.2 i hi with z | ⟨t, ht, z⟩
            · exact Or.inl z
            · exact Or.inr ⟨t, by omega, by rw [if_pos ht, z]⟩
      obtain ⟨v3, T3, M3, c3, s3, x1, x2, x3, x4, x5⟩ := p_changed (but := nI kk) (w := vBd (vW M 37 k m) M 37) hV2 hLK hI.1.2.2.2.2.2.1 (by omega) (by rw [n2]; exact h4) (R0 := R0) (by
        rw [n1, n2]
        exact ⟨gTo_sh w2 hM.2.2.2.2.1.1, fun i hi => ⟨by rw [gr_sr, if_neg (fun z => kne hM.2.2.2.2.1.1 h.1.2.1 (by decide) z.1), gTo_gr w2 hM.2.2.2.2.1.1]; exact (hM.2.2.2.2.1.2 i hi).1, gTo_sh w2 (hM.2.2.2.2.1.2 i hi).2⟩⟩) (fun i hi n hn => by
        rw [n1] at hi
        rw [n2] at hn
        rw [gi_sr, gTo_gi w2 (hM.2.2.2.2.1.2 i hi).2]
        exact hM.2.2.2.2.2.1 i hi n hn) (by omega)
      have hl3 := x2.2.2
      have hE : gLm T M T3 M3 l L O nl := gLm_to (T' := T2) (M' := sr M2 l 3 (some T.length)) (fun b y hy => ⟨gTo_sh w2 hy, fun h1 _ => ⟨fun j => by rw [gi_sr]; exact gTo_gi w2 hy j, fun j => by rw [gr_sr, if_neg (fun z => h1 z.1)]; exact gTo_gr w2 hy j⟩⟩) x2
      obtain ⟨-, -, hd2, hI2⟩ := MP_row hX hM hE
      obtain ⟨N, e1, hm⟩ := o_reload hI2 (a := kk) (by rw [dNl_same hd2]; exact hkm) (by rw [dRk_same hd2 (by omega)]; exact hl)
      have hdd : dSame (vRe M3 kk) 37 (vRe M kk) 37 := vRe_same hd2 h8
      have hTP := t_fin hX hM hE (LK_to x2 hLK) (by omega) (fun i hi z => by have := hX.2.2.2.2.2.1 i hi; omega) hV2 n1 n2 hm (fun b j hb => (d37_eq hdd hb).symm)
      rw [LK_row h, Option.bind_some, w1, Option.bind_some]
      dsimp only
      rw [gkd_ok w6, Option.bind_some, x1, Option.bind_some]
      dsimp only
      rw [e1, Option.bind_some]
      dsimp only
      rw [x5, if_neg (fun z => z (by
        rw [dNl_same hdd, dNn_same hdd]
        congr 1
        refine sumN_ext (fun i hi => ?_)
        rw [vCh_same hdd hV2 hi (Nat.le_refl _) (vW_two hV2 hdd)]
        by_cases ei : nI i = nI kk
        · rw [if_pos ei, if_pos ei]
        · rw [if_neg ei, if_neg ei]
          refine cntN_ext (fun z hz => ?_)
          rw [vBd_same hd2 hV (by rw [hn1, ← n1]; exact hi) (by rw [n2] at hz; omega) (vW_sameV hV hd2)]))]
      exact RO_cadd (RO_cadd (RO_cadd (t_ye hX hTP (by omega)) (C' := 3825) (S' := 22528) (len' := T.length + 5435) (by omega) (by omega) (by omega)) (C' := 5425) (S' := 28928) (len' := T.length + 5435) (by omega) (by omega) (by omega)) (by omega) (by omega) (by omega)
    · rw [hk0, if_neg (show ¬ (kk < nl ∧ dRk M 37 kk = -1) from fun z => hl z.2)]
      simp only [d1, d0, if_false, if_true]
      rw [o_reloadS hI hkm hl, Option.bind_some]
      dsimp only
      rw [if_neg (fun z => z rfl)]
      exact RO_cadd (t_no hX hM (by omega)) (by omega) (by omega) (by omega)
  · rw [if_neg hkn, hk0, if_neg (show ¬ (kk < nl ∧ dRk M 37 kk = -1) from fun z => hkn z.1)]
    simp only [d1, d0, if_false, if_true]
    rw [o_reloadN hI (nogd hn1 h5 hkn hkk), Option.bind_some]
    dsimp only
    rw [if_neg (fun z => z rfl)]
    exact RO_cadd (t_no hX hM (by omega)) (by omega) (by omega) (by omega)
end PBV
