/-! THE ROUNDS' CASES: unload, reload -/
section PBU
variable {T T1 T' T0 : gT} {M M1 M' N V V1 : gM} {rr a7 l A : Nat} {L R O : Nat → Nat} {nl nn : Nat} {k : Nat → Nat × Nat} {m dn nx sz B lc B2 lc2 : Nat} {ld ld2 : Nat → Nat} {c b D p R0 kk q fw r : Nat} {n : Nat} {f : Nat → Int32} {i2 i9 : Int32} {P : Nat → Prop}
/-- the row without its place r -/
def ldM (ld : Nat → Nat) (r t : Nat) : Nat := ld (if t < r then t else t + 1)
theorem t_left [gW0] {i12 i8 : Int32} (hX : FX rr a7 l L R O nl) (hM : MP T M rr a7 l A L R O nl nn k m dn nx sz B lc ld p R0) (hr : r < lc) (hT : T.length + 7 ≤ 900000) : ∃ (B2 : Nat) (T2 : gT) (M2 : gM) (c s : Nat), gloopc (fun x : Nat × Int32 × gT × gM => f_L_law_B977 n f x.2.2.1 x.2.2.2 i2 0 rr l a7 i8 i9 p R0 i12 (nI (ld r)) x.1 B (Int32.ofNat lc) x.2.1) gFU (T.length, (0 : Int32), T ++ [(11, 0)], zr M T.length) = some ((B2, T2, M2), c, s) ∧ gTo T M T2 M2 (1 + c) ∧ c ≤ 5 ∧ s ≤ 30 ∧ T.length ≤ B2 ∧ T2[B2]? = some (11, lc - 1) ∧ ∀ t, t < lc - 1 → gi M2 B2 t = nI (ldM ld r t) := by
  have hC := hM.1
  have h := hC.2.2.1
  have h5 := hC.2.2.2.1
  have hn1 := hC.2.2.2.2.1
  have hnl := hX.2.2.2.2.2.2.2.2.2
  have g0 : gTo T M (T ++ [(11, 0)]) (zr M T.length) 1 := gTo_new
  have s0 : (T ++ [(11, 0)])[T.length]? = some (11, 0) := sh_new
  generalize T ++ [(11, 0)] = T1 at g0 s0 ⊢
  generalize zr M T.length = M1 at g0 ⊢
  have h1 := LK_to g0 h
  have hl1 := g0.2.2
  obtain ⟨⟨B2, T2, M2⟩, c2, s2, e1, e2, e3, e4, e5, e6, e7⟩ := loopc_ex (B := fun x : Nat × Int32 × gT × gM => f_L_law_B977 n f x.2.2.1 x.2.2.2 i2 0 rr l a7 i8 i9 p R0 i12 (nI (ld r)) x.1 B (Int32.ofNat lc) x.2.1) (P := fun t y c s => y.2.1 = nI t ∧ t ≤ lc ∧ gTo T M y.2.2.1 y.2.2.2 (1 + c) ∧ c ≤ t ∧ s ≤ 6 * t ∧ T.length ≤ y.1 ∧ y.2.2.1[y.1]? = some (11, if t ≤ r then t else t - 1) ∧ ∀ j, j < (if t ≤ r then t else t - 1) → gi y.2.2.2 y.1 j = nI (ldM ld r j)) (Q := fun (e : Nat × gT × gM) c s => gTo T M e.2.1 e.2.2 (1 + c) ∧ c ≤ 5 ∧ s ≤ 30 ∧ T.length ≤ e.1 ∧ e.2.1[e.1]? = some (11, lc - 1) ∧ ∀ j, j < lc - 1 → gi e.2.2 e.1 j = nI (ldM ld r j)) (fu := gFU) (x := (T.length, (0 : Int32), T1, M1)) lc (Nat.lt_of_le_of_lt h5 (by decide)) ⟨rfl, Nat.zero_le _, g0, by omega, by omega, Nat.le_refl _, by rw [if_pos (Nat.zero_le _)]; exact s0, fun j hj => by rw [if_pos (Nat.zero_le _)] at hj; exact absurd hj (Nat.not_lt_zero j)⟩ (fun t y c s _ hP => by
    obtain ⟨y1, y2, T2, M2⟩ := y
    obtain ⟨rfl, ht, hG, hc, hs9, hy, hsh, hel⟩ := hP
    dsimp only at hG hy hsh hel
    have h2 := LK_to hG h
    have hl2 := hG.2.2
    dsimp only
    unfold f_L_law_B977 f_L_law_1007
    rw [gkd_ok (gTo_sh hG (s_obj hC.1)), Option.bind_some, gkd_ok (gTo_sh hG hC.2.2.2.2.2.2.2.2.1), Option.bind_some, LK_kd h2, Option.bind_some, gkd_ok (gTo_sh hG hC.2.2.2.2.2.2.2.2.2.1), Option.bind_some, gkd_ok (gTo_sh hG hM.2.2.2.1), Option.bind_some, gkd_ok (gTo_sh hG hM.2.2.2.2.1.1), Option.bind_some, gkd_ok hsh, Option.bind_some, LK_kB h2, Option.bind_some]
    by_cases e : t = lc
    · rw [if_pos (show Int32.ofNat lc ≤ nI t from nI_le (by omega) (by omega))]
      have et : (if t ≤ r then t else t - 1) = lc - 1 := by rw [if_neg (by omega), e]
      rw [et] at hsh hel
      exact Or.inl ⟨(y1, T2, M2), 0, 0, rfl, hG, by omega, by omega, hy, hsh, hel⟩
    · have hlt : t < lc := by omega
      rw [if_neg (show ¬ Int32.ofNat lc ≤ nI t from nI_ge hlt (by omega)), LK_ld h2 hlt, Option.bind_some, nI_1]
      have hd1 := (h.2.2.2.2.1.2.1 t hlt).1
      have hd2 := (h.2.2.2.2.1.2.1 r hr).1
      by_cases er : t = r
      · rw [er, if_pos rfl]
        refine Or.inr ⟨by omega, _, _, _, rfl, rfl, by omega, hG, by omega, by omega, hy, ?_, ?_⟩
        · rw [if_neg (by omega), Nat.add_sub_cancel]
          rw [er, if_pos (Nat.le_refl r)] at hsh
          exact hsh
        · rw [if_neg (by omega), Nat.add_sub_cancel]
          rw [er, if_pos (Nat.le_refl r)] at hel
          exact hel
      · have hne : ¬ nI (ld t) = nI (ld r) := fun z => er (LK_rk h hlt hr ((nI_eq (by omega) (by omega)).mp z))
        obtain ⟨v, T3, M3, c3, s3, w1, w2, w3, w4, rfl, w6, w7, w8⟩ := p_with (x := nI (ld t)) hsh (by split <;> omega) (show T2.length < 900000 by omega)
        have ep : (if t ≤ r then t else t - 1) + 1 = if t + 1 ≤ r then t + 1 else t + 1 - 1 := by split <;> split <;> omega
        rw [ep] at w6
        rw [if_neg hne, w1, Option.bind_some]
        dsimp only
        rw [gkd_ok w6, Option.bind_some, cadd_some]
        refine Or.inr ⟨hlt, _, _, _, rfl, rfl, by omega, ?_, by omega, by split at w4 <;> omega, by have := gExt_lt hG.1; omega, w6, fun j hj => ?_⟩
        · show gTo T M T3 M3 (1 + (c + (c3 + 0)))
          exact gTo_c (gTo_tr hG w2) (by omega)
        · dsimp only
          rw [← ep] at hj
          by_cases ej : j = if t ≤ r then t else t - 1
          · rw [ej, w8]
            unfold ldM
            congr 2
            split <;> split <;> omega
          · rw [w7 j (by omega)]
            exact hel j (by omega))
  dsimp only at e2 e5 e6 e7
  exact ⟨B2, T2, M2, _, _, e1, e2, e3, e4, e5, e6, e7⟩
theorem vUn_same (hd : dSame M1 37 M 37) (h8 : dNl M 37 ≤ 8) {a : Nat} (ha : a < 8) : dSame (vUn M1 a) 37 (vUn M a) 37 := fun b j hb => by
  have hr := dIn_rng hb
  rw [show b - 37 + 37 = b by omega, vUn_gi, vUn_gi, dNl_same hd, d37_eq hd hb]
  by_cases h : j = 2 ∧ 42 ≤ b ∧ b < 42 + 3 * dNl M 37 ∧ (b - 42) % 3 = 0
  · rw [if_pos h, if_pos h]
    unfold nRk
    rw [dRk_same hd ha, dRk_same hd (show (b - 42) / 3 < 8 by omega)]
  · rw [if_neg h, if_neg h]
theorem b_unl [gW0] {k0 : Int32} (hX : FX rr a7 l L R O nl) (hM : MP T M rr a7 l A L R O nl nn k m dn nx sz B lc ld p R0) (hkk : kk ≤ nl) (hk0 : k0 = if kk < nl ∧ dRk M 37 kk ≠ -1 then 1 else 0) (hT : T.length + 5440 ≤ 900000) : RO (f_L_law_941 n f T M i2 0 rr l a7 (nI dn) i9 p R0 (-2000000097) (nI kk) (if kk < nl then 1 else 0) k0) i9 dn (T.length + 5440) 5440 28980 rr a7 l A L R O nl nn k m := by
  have hC := hM.1
  have hI := hC.1
  have hV := hI.1.2.1
  have h8 := hV.2.1
  have hn1 := hC.2.2.2.2.1
  have hn2 := hC.2.2.2.2.2.1
  have h5 := hX.2.2.2.2.2.2.2.2.2
  have h4 := hC.2.2.2.2.2.2.1
  have h := hC.2.2.1
  unfold f_L_law_941 f_L_law_952 f_L_law_1030 f_L_law_1046
  by_cases hkn : kk < nl
  · have hkm : kk < dNl M 37 := by rw [hn1]; exact hkn
    rw [if_pos hkn]
    simp only [d1, d0, if_false, if_true]
    by_cases hl : dRk M 37 kk = -1
    · rw [hk0, if_neg (show ¬ (kk < nl ∧ dRk M 37 kk ≠ -1) from fun z => z.2 hl)]
      simp only [d1, d0, if_false, if_true]
      rw [o_unloadS hI hkm hl, Option.bind_some]
      dsimp only
      rw [if_neg (fun z => z rfl)]
      exact RO_cadd (t_no hX hM (by omega)) (by omega) (by omega) (by omega)
    · rw [hk0, if_pos (show kk < nl ∧ dRk M 37 kk ≠ -1 from ⟨hkn, hl⟩)]
      simp only [d1, d0, if_false, if_true]
      obtain ⟨r, hr, er⟩ := (h.2.2.2.2.1.2.2 kk hkm).resolve_left hl
      obtain ⟨B2, T2, M2, c2, s2, w1, w2, w3, w4, w5, w6, w7⟩ := t_left (n := n) (f := f) (i2 := i2) (i9 := i9) (i12 := 1) (i8 := nI dn) hX hM hr (by omega)
      have hl2 := w2.2.2
      have erk : dRk M 37 kk = nI r := by rw [← er]; exact (h.2.2.2.2.1.2.1 r hr).2.2
      have hV2 := vUn_val hV hkm hl
      have hw0 := hC.2.2.2.2.2.2.2.2.2.2.1
      have h311 := w0_ge
      have ha7 := sh_lt hC.2.2.2.2.2.2.2.2.2.1
      have hrr := hX.2.1
      have nv : ∀ {b j : Nat}, ¬ (j = 2 ∧ 42 ≤ b ∧ b < 42 + 3 * dNl M 37 ∧ (b - 42) % 3 = 0) → gi (vUn M kk) b j = gi M b j := fun h => vUn_no h
      have n1 : dNl (vUn M kk) 37 = nl := (congrArg Int32.toNatClampNeg (nv (by omega))).trans hn1
      have n2 : dNn (vUn M kk) 37 = nn := (congrArg Int32.toNatClampNeg (nv (by omega))).trans hn2
      have hLK : LK (Pl rr a7) T2 (sr M2 l 3 (some B2)) l A B2 L R O (lc - 1) (ldM ld r) (vUn M kk) 37 k m := by
        refine LK_ldd (LK_to w2 h) ⟨by omega, by omega, by omega, by omega⟩ w6 (n1.trans hn1.symm) (n2.trans hn2.symm) (nv (by omega)) (nv (by omega)) (fun i hi => ⟨nv (by omega), nv (by omega), congrArg Int32.toNatClampNeg (nv (by omega)), fun j hj => nv (by omega), fun n hn => nv (by omega)⟩) (by have := hC.2.2.2.1; omega) (fun t ht => ?_) (fun i hi => ?_)
        · have hlt : (if t < r then t else t + 1) < lc := by split <;> omega
          have hd := h.2.2.2.2.1.2.1 _ hlt
          refine ⟨hd.1, w7 t ht, ?_⟩
          rw [show ldM ld r t = ld (if t < r then t else t + 1) from rfl, vUn_rk hd.1]
          unfold nRk
          rw [hd.2.2, erk, if_neg (fun z => by
            have := LK_rk h hlt hr (z.trans er.symm)
            split at this <;> omega)]
          have hlc := hC.2.2.2.1
          by_cases htr : t < r
          · rw [if_pos htr, if_neg (nI_nlt (by omega) (by omega))]
          · rw [if_neg htr, if_pos (nI_lt (by omega) (by omega)), nI_pred]
        · rw [vUn_rk hi]
          by_cases ei : i = kk
          · unfold nRk
            rw [if_pos ei]
            exact Or.inl rfl
          · rcases h.2.2.2.2.1.2.2 i hi with z | ⟨t, ht, z⟩
            · left
              unfold nRk
              rw [if_neg ei, z, erk, if_neg (by rw [Int32.lt_iff_toInt_lt, nI_toInt (by have := hC.2.2.2.1; omega), show (-1 : Int32).toInt = -1 from rfl]; omega)]
            · right
              have hne : t ≠ r := fun q => ei (by rw [← z, q, er])
              refine ⟨if t < r then t else t - 1, by split <;> omega, ?_⟩
              unfold ldM
              rw [← z]
              congr 1
              by_cases htr : t < r
              · simp only [htr, if_true]
              · rw [if_neg htr, if_neg (by omega)]
                omega
      obtain ⟨v3, T3, M3, c3, s3, x1, x2, x3, x4, x5⟩ := p_changed (but := -1) (w := vBd (vW M 37 k m) M 37) hV2 hLK hI.1.2.2.2.2.2.1 (by have := hC.2.2.2.1; omega) (by rw [n2]; exact h4) (R0 := R0) (by
        rw [n1, n2]
        exact ⟨gTo_sh w2 hM.2.2.2.2.1.1, fun i hi => ⟨by rw [gr_sr, if_neg (fun z => kne hM.2.2.2.2.1.1 h.1.2.1 (by decide) z.1), gTo_gr w2 hM.2.2.2.2.1.1]; exact (hM.2.2.2.2.1.2 i hi).1, gTo_sh w2 (hM.2.2.2.2.1.2 i hi).2⟩⟩) (fun i hi n hn => by
        rw [n1] at hi
        rw [n2] at hn
        rw [gi_sr, gTo_gi w2 (hM.2.2.2.2.1.2 i hi).2]
        exact hM.2.2.2.2.2.1 i hi n hn) (by omega)
      have hl3 := x2.2.2
      have hE : gLm T M T3 M3 l L O nl := gLm_to (T' := T2) (M' := sr M2 l 3 (some B2)) (fun b y hy => ⟨gTo_sh w2 hy, fun h1 _ => ⟨fun j => by rw [gi_sr]; exact gTo_gi w2 hy j, fun j => by rw [gr_sr, if_neg (fun z => h1 z.1)]; exact gTo_gr w2 hy j⟩⟩) x2
      obtain ⟨-, -, hd2, hI2⟩ := MP_row hX hM hE
      obtain ⟨N, e1, hm⟩ := o_unload hI2 (a := kk) (by rw [dNl_same hd2]; exact hkm) (by rw [dRk_same hd2 (by omega)]; exact hl)
      have hdd : dSame (vUn M3 kk) 37 (vUn M kk) 37 := vUn_same hd2 h8 (by omega)
      have hTP := t_fin hX hM hE (LK_to x2 hLK) (by have := hC.2.2.2.1; omega) (fun i hi z => by have := hX.2.2.2.2.2.1 i hi; omega) hV2 n1 n2 hm (fun b j hb => (d37_eq hdd hb).symm)
      have hgr2 : gTo T M (T ++ [(11, 0)]) (zr M T.length) 1 := gTo_new
      have h1 := LK_to hgr2 h
      rw [er] at w1
      rw [gnew_ok (by omega), Option.bind_some]
      dsimp only
      rw [LK_row h1, Option.bind_some, LK_al h1, w1, Option.bind_some]
      dsimp only
      rw [gkd_ok w6, Option.bind_some, x1, Option.bind_some]
      dsimp only
      rw [e1, Option.bind_some]
      dsimp only
      rw [x5, sumN_neg hV2.2.1, if_neg (fun z => z (by
        rw [dNl_same hdd, dNn_same hdd]
        congr 1
        refine sumN_ext (fun i hi => ?_)
        rw [vCh_same hdd hV2 hi (Nat.le_refl _) (vW_two hV2 hdd)]
        refine cntN_ext (fun z hz => ?_)
        rw [vBd_same hd2 hV (by rw [hn1, ← n1]; exact hi) (by rw [n2] at hz; omega) (vW_sameV hV hd2)]))]
      exact RO_cadd (RO_cadd (RO_cadd (RO_cadd (t_ye hX hTP (by omega)) (C' := 3825) (S' := 22528) (len' := T.length + 5435) (by omega) (by omega) (by omega)) (C' := 5425) (S' := 28928) (len' := T.length + 5435) (by omega) (by omega) (by omega)) (C' := 5430) (S' := 28958) (len' := T.length + 5435) (by omega) (by omega) (by omega)) (by omega) (by omega) (by omega)
  · rw [if_neg hkn, hk0, if_neg (show ¬ (kk < nl ∧ dRk M 37 kk ≠ -1) from fun z => hkn z.1)]
    simp only [d1, d0, if_false, if_true]
    rw [o_unloadN hI (nogd hn1 h5 hkn hkk), Option.bind_some]
    dsimp only
    rw [if_neg (fun z => z rfl)]
    exact RO_cadd (t_no hX hM (by omega)) (by omega) (by omega) (by omega)
end PBU
