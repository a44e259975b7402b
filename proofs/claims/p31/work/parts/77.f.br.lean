/-! THE ROUNDS' CASES: trust, offers -/
section PBY
variable {T T1 T' T0 : gT} {M M1 M' N V V' : gM} {rr a7 l A : Nat} {L R O : Nat → Nat} {nl nn : Nat} {k : Nat → Nat × Nat} {m dn nx sz B lc B2 lc2 : Nat} {ld ld2 : Nat → Nat} {c b D p R0 kk q : Nat} {n : Nat} {f : Nat → Int32} {i2 i9 : Int32}
theorem nogd (hn1 : dNl M 37 = nl) (h5 : nl ≤ 5) (hk : ¬ kk < nl) (hk2 : kk ≤ nl) : ¬ gdL M 37 (nI kk) := fun z => by
  have z2 : nI kk < nI (dNl M 37) := z.2
  rw [hn1] at z2
  exact nI_nlt (by omega) (by omega) z2
theorem nogn (hn2 : dNn M 37 = nn) (h5 : nn ≤ 4) (hk : ¬ q < nn) (hk2 : q ≤ nn) : ¬ gdN M 37 (nI q) := fun z => by
  have z2 : nI q < nI (dNn M 37) := z.2
  rw [hn2] at z2
  exact nI_nlt (by omega) (by omega) z2
theorem d1 : ((1 : Int32) = 0) = False := eq_false (by decide)
theorem d0 : ((0 : Int32) = 0) = True := eq_self 0
theorem b_trust [gW0] {kb : Nat} (hX : FX rr a7 l L R O nl) (hM : MP T M rr a7 l A L R O nl nn k m dn nx sz B lc ld p R0) (hkk : kk ≤ nl) (hkb : 0 < kb) (hkb2 : kb < 2 ^ 31) (hT : T.length + 5440 ≤ 900000) : RO (f_L_law_575 n f T M i2 0 rr l a7 (nI dn) i9 p (-2000000097) (nI kk) (if kk < nl then 1 else 0) (if kk < nl then some (L kk) else none) rr (nI kb)) i9 dn (T.length + 5440) 5440 28980 rr a7 l A L R O nl nn k m := by
  obtain ⟨v, x, hv, e⟩ := below_ok (M := M) (T := T) (rr := rr) hkb hkb2
  have hM := MP_rr (x := x) hX hM
  unfold f_L_law_575
  rw [e, Option.bind_some]
  dsimp only
  generalize si M rr 0 x = M at hM ⊢
  have hI := hM.1.1
  have hV := hI.1.2.1
  have hn1 := hM.1.2.2.2.2.1
  have h5 := hX.2.2.2.2.2.2.2.2.2
  unfold f_L_law_597 f_L_law_598 f_L_law_620 f_L_law_622 f_L_law_634 f_L_law_652
  by_cases hkn : kk < nl
  · have hkm : kk < dNl M 37 := by rw [hn1]; exact hkn
    rw [if_pos hkn, if_pos hkn]
    simp only [d1, d0, if_false, if_true]
    by_cases hg : 1000 ≤ v
    · rw [if_pos (show (1000 : Int32) ≤ nI v from nI_le (a := 1000) hg (by omega)), o_trustB hI hkm (fun z => z.2 (nI_lt (a := 999) (by omega) (by omega))), Option.bind_some]
      dsimp only
      rw [if_neg (fun z => z rfl)]
      exact RO_cadd (t_no hX hM (by omega)) (by omega) (by omega) (by omega)
    · have hLa := (hM.1.2.2.1.2.2.2.1 kk hkm).1.2.2.1
      have hE : gLm T M T (si M (L kk) 0 (nI v)) l L O nl := gLm_si (Or.inr ⟨kk, hkn, Or.inl rfl⟩)
      obtain ⟨hb1, hw1, hd1, hI1⟩ := MP_row hX hM hE
      have hLK : LK (Pl rr a7) T (si M (L kk) 0 (nI v)) l A B L R O lc ld (si M (37 + 5 + 3 * kk) 0 (nI v)) 37 k m := LK_libp (Or.inl rfl) hM.1.2.2.1 hkm (fun i j hi hj => hX.2.2.2.2.2.2.1 i j (by rw [← hn1]; exact hi) (by rw [← hn1]; exact hj))
      obtain ⟨hV2, -⟩ := o_trust hI (t := v) hkm (by omega)
      obtain ⟨hV3, N, e1, hm⟩ := o_trust hI1 (a := kk) (t := v) (by rw [dNl_same hd1]; exact hkm) (by omega)
      have hdV : ∀ {b j : Nat}, ¬ (b = 37 + 5 + 3 * kk ∧ j = 0) → gi (si M (37 + 5 + 3 * kk) 0 (nI v)) b j = gi M b j := fun hn => by rw [gi_si, if_neg hn]
      have n1 : dNl (si M (37 + 5 + 3 * kk) 0 (nI v)) 37 = nl := (congrArg Int32.toNatClampNeg (hdV (by omega))).trans hn1
      have n2 : dNn (si M (37 + 5 + 3 * kk) 0 (nI v)) 37 = nn := (congrArg Int32.toNatClampNeg (hdV (by omega))).trans hM.1.2.2.2.2.2.1
      have hdd : dSame (si (si M (L kk) 0 (nI v)) (37 + 5 + 3 * kk) 0 (nI v)) 37 (si M (37 + 5 + 3 * kk) 0 (nI v)) 37 := si_dS hd1
      have hTP := t_fin hX hM hE hLK hM.1.2.2.2.1 hM.1.2.2.2.2.2.2.2.1 hV2 n1 n2 hm (fun b j hb => (d37_eq hdd hb).symm)
      have ev : gi M (L kk) 0 = dTr M 37 kk := (hM.1.2.2.1.2.2.2.1 kk hkm).1.2.2.2.1
      rw [if_neg (show ¬ (1000 : Int32) ≤ nI v from nI_ge (b := 1000) (by omega) (by omega)), gsm_some hLa, Option.bind_some, Option.bind_some, e1, Option.bind_some]
      dsimp only
      rw [ev, dTr_same hd1 (show kk < 8 by omega), if_neg (fun z => z rfl)]
      exact RO_cadd (t_ye hX hTP (by omega)) (by omega) (by omega) (by omega)
  · rw [if_neg hkn, if_neg hkn]
    simp only [d1, d0, if_false, if_true]
    rw [o_trustN hI (nogd hn1 h5 hkn hkk), Option.bind_some]
    dsimp only
    rw [if_neg (fun z => z rfl)]
    exact RO_cadd (t_no hX hM (by omega)) (by omega) (by omega) (by omega)
/-- an offer of l set to y, and the winner then -/
theorem off_put [gW0] {y : Int32} (hX : FX rr a7 l L R O nl) (hM : MP T M rr a7 l A L R O nl nn k m dn nx sz B lc ld p R0) (hkn : kk < nl) (hqn : q < nn) (hy : okO nn y) (hT : T.length + 50 ≤ 900000) : ∃ T2 M2 c2 s2, f_X10_winner T (si M (O kk) q y) l (nI q) = some ((vWin (vW (si M (37 + 6 + 3 * kk) q y) 37 k m) (si M (37 + 6 + 3 * kk) q y) 37 q, T2, M2), c2, s2) ∧ c2 ≤ 50 ∧ s2 ≤ 200 ∧ T2.length ≤ T.length + 50 ∧ cInv T2 M2 k m nx sz dn 0 ∧ dNl M2 37 = nl ∧ dNn M2 37 = nn ∧ dSame M2 37 M 37 ∧ (∀ N V', cMid T2 M2 V' N k m nx sz dn 0 → (∀ b j, dIn 37 b j → gi V' b j = gi (si M2 (37 + 6 + 3 * kk) q y) b j) → TP T2 N rr a7 l A L R O nl nn k m dn p) ∧ vWin (vW (si M2 (37 + 6 + 3 * kk) q y) 37 k m) (si M2 (37 + 6 + 3 * kk) q y) 37 q = vWin (vW (si M (37 + 6 + 3 * kk) q y) 37 k m) (si M (37 + 6 + 3 * kk) q y) 37 q := by
  have hI := hM.1.1
  have hn1 := hM.1.2.2.2.2.1
  have hn2 := hM.1.2.2.2.2.2.1
  have hkm : kk < dNl M 37 := by rw [hn1]; exact hkn
  have hqm : q < dNn M 37 := by rw [hn2]; exact hqn
  have h4 := hM.1.2.2.2.2.2.2.1
  have hE : gLm T M T (si M (O kk) q y) l L O nl := gLm_si (Or.inr ⟨kk, hkn, Or.inr rfl⟩)
  have hLK : LK (Pl rr a7) T (si M (O kk) q y) l A B L R O lc ld (si M (37 + 6 + 3 * kk) q y) 37 k m := LK_offp hM.1.2.2.1 hkm (fun i j hi hj => hX.2.2.2.2.2.2.2.1 i j (by rw [← hn1]; exact hi) (by rw [← hn1]; exact hj)) (fun i hi => hX.2.2.2.2.2.2.2.2.1 kk i hkn (by rw [← hn1]; exact hi)) (hM.1.2.2.2.2.2.2.2.1 kk hkn)
  obtain ⟨hV2, -⟩ := o_change hI hkm hqm (x := y) (by rw [hn2]; exact hy)
  have hdV : ∀ {b j : Nat}, ¬ (b = 37 + 6 + 3 * kk ∧ j = q) → gi (si M (37 + 6 + 3 * kk) q y) b j = gi M b j := fun hn => by rw [gi_si, if_neg hn]
  have n1 : dNl (si M (37 + 6 + 3 * kk) q y) 37 = nl := (congrArg Int32.toNatClampNeg (hdV (by omega))).trans hn1
  have n2 : dNn (si M (37 + 6 + 3 * kk) q y) 37 = nn := (congrArg Int32.toNatClampNeg (hdV (by omega))).trans hn2
  obtain ⟨v2, T2, M2, c2, s2, w1, w2, w3, w4, rfl⟩ := p_winner (n := q) hV2 hLK hI.1.2.2.2.2.2.1 hM.1.2.2.2.1 (by rw [n2]; exact hqn) hT
  have hl2 := w2.2.2
  have hE2 := gLm_to hE w2
  obtain ⟨-, -, hd2, hI2⟩ := MP_row hX hM hE2
  have hdd : dSame (si M2 (37 + 6 + 3 * kk) q y) 37 (si M (37 + 6 + 3 * kk) q y) 37 := si_dS hd2
  refine ⟨T2, M2, c2, s2, w1, w3, w4, by omega, hI2, (dNl_same hd2).trans hn1, (dNn_same hd2).trans hn2, hd2, fun N V' hm hVV => ?_, vWin_same hdd hV2 (by omega) (vW_two hV2 hdd)⟩
  exact t_fin hX hM hE2 (LK_to w2 hLK) hM.1.2.2.2.1 hM.1.2.2.2.2.2.2.2.1 hV2 n1 n2 hm (fun b j hb => (d37_eq hdd hb).symm.trans (hVV b j hb).symm)
theorem b_with [gW0] (hX : FX rr a7 l L R O nl) (hM : MP T M rr a7 l A L R O nl nn k m dn nx sz B lc ld p R0) (hkk : kk ≤ nl) (hqq : q ≤ nn) (hT : T.length + 5440 ≤ 900000) {k0 : Int32} (hk0 : k0 = if kk < nl ∧ q < nn ∧ dOf M 37 kk q ≠ -1 then 1 else 0) : RO (f_L_law_678 n f T M i2 0 rr l a7 (nI dn) i9 p (-2000000097) (nI kk) (nI q) (if kk < nl ∧ q < nn then 1 else 0) (if kk < nl then some (L kk) else none) k0) i9 dn (T.length + 5440) 5440 28980 rr a7 l A L R O nl nn k m := by
  have hI := hM.1.1
  have hn1 := hM.1.2.2.2.2.1
  have hn2 := hM.1.2.2.2.2.2.1
  have h5 := hX.2.2.2.2.2.2.2.2.2
  have h4 := hM.1.2.2.2.2.2.2.1
  unfold f_L_law_678 f_L_law_689 f_L_law_712 f_L_law_730
  by_cases hp2 : kk < nl ∧ q < nn
  · have hkm : kk < dNl M 37 := by rw [hn1]; exact hp2.1
    have hqm : q < dNn M 37 := by rw [hn2]; exact hp2.2
    rw [if_pos hp2, if_pos hp2.1]
    simp only [d1, d0, if_false, if_true]
    by_cases ho : dOf M 37 kk q = -1
    · rw [hk0, if_neg (show ¬ (kk < nl ∧ q < nn ∧ dOf M 37 kk q ≠ -1) from fun z => z.2.2 ho)]
      simp only [d1, d0, if_false, if_true]
      rw [o_withdrawS hI hkm hqm ho, Option.bind_some]
      dsimp only
      rw [if_neg (fun z => z rfl)]
      exact RO_cadd (t_no hX hM (by omega)) (by omega) (by omega) (by omega)
    · have hL := hM.1.2.2.1.2.2.2.1 kk hkm
      obtain ⟨T2, M2, c2, s2, w1, w2, w3, w4, hI2, m1, m2, hd2, hTP, hw⟩ := off_put hX hM hp2.1 hp2.2 (y := -1) (Or.inl rfl) (by omega)
      obtain ⟨-, N, e1, hm⟩ := o_withdraw hI2 (a := kk) (n0 := q) (by rw [m1]; exact hp2.1) (by rw [m2]; exact hp2.2) (by
        rw [show dOf M2 37 kk q = dOf M 37 kk q from hd2.off (by omega) (by omega)]
        exact ho)
      rw [hk0, if_pos (show kk < nl ∧ q < nn ∧ dOf M 37 kk q ≠ -1 from ⟨hp2.1, hp2.2, ho⟩)]
      simp only [d1, d0, if_false, if_true]
      rw [gsm_some hL.1.2.2.1, Option.bind_some, LK_off hM.1.2.2.1 hkm, Option.bind_some, ast_ok hL.2.2.2.2.1 hqm (by omega), Option.bind_some, w1, Option.bind_some]
      dsimp only
      rw [e1, Option.bind_some]
      dsimp only
      rw [hw, if_neg (fun z => z rfl)]
      exact RO_cadd (RO_cadd (t_ye hX (hTP N _ hm (fun _ _ _ => rfl)) (by omega)) (C' := 3825) (S' := 22528) (len' := T.length + 5424) (by omega) (by omega) (by omega)) (by omega) (by omega) (by omega)
  · rw [if_neg hp2, hk0, if_neg (show ¬ (kk < nl ∧ q < nn ∧ dOf M 37 kk q ≠ -1) from fun z => hp2 ⟨z.1, z.2.1⟩)]
    simp only [d1, d0, if_false, if_true]
    rw [o_withdrawN hI (fun z => hp2 (by
      have z1 : nI kk < nI (dNl M 37) := z.1.2
      have z2 : nI q < nI (dNn M 37) := z.2.2
      rw [hn1] at z1
      rw [hn2] at z2
      exact ⟨(nI_ltI (by omega) (by omega)).mp z1, (nI_ltI (by omega) (by omega)).mp z2⟩)), Option.bind_some]
    dsimp only
    rw [if_neg (fun z => z rfl)]
    exact RO_cadd (t_no hX hM (by omega)) (by omega) (by omega) (by omega)
end PBY
