/-! THE ROUNDS' CASES: share, keeps, trust -/
def RO [gW0] (r : Option (((Int32 × Int32 × gT × gM) ⊕ (Int32 × Int32 × Int32 × gT × gM)) × Nat × Nat)) (i9 : Int32) (dn len C S rr a7 l A : Nat) (L R O : Nat → Nat) (nl nn : Nat) (k : Nat → Nat × Nat) (m : Nat) : Prop := ∃ (dn' : Nat) (T' : gT) (M' : gM) (c s : Nat), r = some (.inr (1, nI dn', i9 + 1, T', M'), c, s) ∧ MS T' M' rr a7 l A L R O nl nn k m dn' ∧ T'.length ≤ len ∧ c ≤ C ∧ s ≤ S ∧ dn' ≤ dn + 1
theorem sumN_neg {f : Nat → Nat} {n : Nat} (hn : n ≤ 8) : sumN (fun i => if nI i = (-1 : Int32) then 0 else f i) n = sumN f n := sumN_ext (fun q hq => if_neg (nI_nneg (v := q) (by omega) (by decide)))
theorem si_dS {M M2 : gM} {b0 j0 : Nat} {x : Int32} (h : dSame M2 37 M 37) : dSame (si M2 b0 j0 x) 37 (si M b0 j0 x) 37 := fun b j hb => by
  have := dIn_rng hb
  have e := h b j hb
  rw [show b - 37 + 37 = b by omega] at e ⊢
  rw [gi_si, gi_si, e]
theorem d37_eq {N M : gM} (h : dSame N 37 M 37) {b j : Nat} (hb : dIn 37 b j) : gi N b j = gi M b j := by
  have := dIn_rng hb
  have e := h b j hb
  rwa [show b - 37 + 37 = b by omega] at e
section PBX
variable {T T1 T' T0 : gT} {M M1 M' N V V' : gM} {rr a7 l A : Nat} {L R O : Nat → Nat} {nl nn : Nat} {k : Nat → Nat × Nat} {m dn nx sz B lc B2 lc2 : Nat} {ld ld2 : Nat → Nat} {c b D p R0 kk q : Nat} {n : Nat} {f : Nat → Int32} {i2 i9 : Int32}
theorem RO_cadd [gW0] {r : Option (((Int32 × Int32 × gT × gM) ⊕ (Int32 × Int32 × Int32 × gT × gM)) × Nat × Nat)} {len C S c s C' S' : Nat} (h : RO r i9 dn len C S rr a7 l A L R O nl nn k m) (hC : c + C ≤ C') (hS : s + S ≤ S') {len' : Nat} (hl : len ≤ len') : RO (cadd c s r) i9 dn len' C' S' rr a7 l A L R O nl nn k m := by
  obtain ⟨dn', T', M', c1, s1, e1, e2, e3, e4, e5, e6⟩ := h
  refine ⟨dn', T', M', c + c1, s + s1, by rw [e1, cadd_some], e2, by omega, by omega, by omega, e6⟩
theorem RO_le [gW0] {r : Option (((Int32 × Int32 × gT × gM) ⊕ (Int32 × Int32 × Int32 × gT × gM)) × Nat × Nat)} {len C S C' S' : Nat} (h : RO r i9 dn len C S rr a7 l A L R O nl nn k m) (hC : C ≤ C') (hS : S ≤ S') {len' : Nat} (hl : len ≤ len') : RO r i9 dn len' C' S' rr a7 l A L R O nl nn k m := by
  obtain ⟨dn', T', M', c1, s1, e1, e2, e3, e4, e5, e6⟩ := h
  exact ⟨dn', T', M', c1, s1, e1, e2, by omega, by omega, by omega, e6⟩
theorem t_no [gW0] (hX : FX rr a7 l L R O nl) (h : MP T M rr a7 l A L R O nl nn k m dn nx sz B lc ld p R0) (hT : T.length + 3824 ≤ 900000) : RO (f_L_law_1129 n f T M 1 i2 0 rr l a7 (nI dn) i9 p 0) i9 dn (T.length + 3824) 3824 22522 rr a7 l A L R O nl nn k m := by
  obtain ⟨T', M', c, s, e1, e2, e3, e4, e5⟩ := t_tail0 (n := n) (f := f) (i2 := i2) (i9 := i9) (p := p) hX (MP_MS h) hT
  exact ⟨dn, T', M', c, s, e1, e2, e3, e4, e5, by omega⟩
theorem t_ye [gW0] (hX : FX rr a7 l L R O nl) (h : TP T M rr a7 l A L R O nl nn k m dn p) (hT : T.length + 3824 ≤ 900000) : RO (f_L_law_1129 n f T M 1 i2 0 rr l a7 (nI dn) i9 p 1) i9 dn (T.length + 3824) 3824 22522 rr a7 l A L R O nl nn k m := by
  obtain ⟨T', M', c, s, e1, e2, e3, e4, e5⟩ := TP_tail (n := n) (f := f) (i2 := i2) (i9 := i9) hX h hT
  exact ⟨dn + 1, T', M', c, s, e1, e2, e3, e4, e5, by omega⟩
/-- l changed at one of its own places -/
theorem gLm_si {a0 j0 : Nat} {x : Int32} (ha : a0 = l ∨ ∃ i, i < nl ∧ (a0 = L i ∨ a0 = O i)) : gLm T M T (si M a0 j0 x) l L O nl := fun b y hy => ⟨hy, fun h1 h2 => ⟨fun j => by
  rw [gi_si, if_neg]
  rintro ⟨e, -⟩
  rcases ha with e2 | ⟨i, hi, e2 | e2⟩
  · exact h1 (e.trans e2)
  · exact (h2 i hi).1 (e.trans e2)
  · exact (h2 i hi).2 (e.trans e2), fun j => rfl⟩⟩
/-- the rows of bindings from before, later -/
theorem MP_row [gW0] (hX : FX rr a7 l L R O nl) (hM : MP T M rr a7 l A L R O nl nn k m dn nx sz B lc ld p R0) (hE : gLm T M T' M' l L O nl) : gBR T' M' R0 nl nn ∧ (∀ i, i < nl → ∀ n, n < nn → gi M' (R0 + 1 + i) n = vBd (vW M 37 k m) M 37 i n) ∧ dSame M' 37 M 37 ∧ cInv T' M' k m nx sz dn 0 := by
  obtain ⟨hC, hq, hp, hps, hb, hw, hR⟩ := hM
  obtain ⟨hI, hds⟩ := cInv_ce (gLm_ce hX hE) hC.1
  have hd := hds 37 (Or.inr (Or.inl rfl))
  have hne : ∀ {z : Nat}, R0 ≤ z → z ≠ l ∧ ∀ i, i < nl → z ≠ L i ∧ z ≠ O i := fun hz => ⟨by have := hX.2.2.2.1; omega, fun i hi => by have := hX.2.2.2.2.2.1 i hi; omega⟩
  refine ⟨⟨(hE R0 _ hb.1).1, fun i hi => ⟨?_, (hE _ _ (hb.2 i hi).2).1⟩⟩, fun i hi n hn => ?_, hd, hI⟩
  · rw [((hE R0 _ hb.1).2 (hne (Nat.le_refl _)).1 (hne (Nat.le_refl _)).2).2]
    exact (hb.2 i hi).1
  · rw [((hE _ _ (hb.2 i hi).2).2 (hne (by omega)).1 (hne (by omega)).2).1]
    exact hw i hi n hn
theorem b_share [gW0] {kb : Nat} (hX : FX rr a7 l L R O nl) (hM : MP T M rr a7 l A L R O nl nn k m dn nx sz B lc ld p R0) (hkb : 0 < kb) (hkb2 : kb < 2 ^ 31) (hT : T.length + 5440 ≤ 900000) : RO (f_L_law_424 n f T M i2 0 rr l a7 (nI dn) i9 p R0 rr (nI kb)) i9 dn (T.length + 5440) 5440 28980 rr a7 l A L R O nl nn k m := by
  obtain ⟨v, x, hv, e⟩ := below_ok (M := M) (T := T) (rr := rr) hkb hkb2
  have hM := MP_rr (x := x) hX hM
  unfold f_L_law_424
  rw [e, Option.bind_some]
  dsimp only
  generalize si M rr 0 x = M at hM ⊢
  have hI := hM.1.1
  by_cases hg : 101 ≤ v
  · rw [if_pos (show (101 : Int32) ≤ nI v from nI_le (a := 101) hg (by omega))]
    unfold f_L_law_441 f_L_law_455
    rw [if_pos rfl, o_shareB (fun z => z.2 (nI_lt (a := 100) (by omega) (by omega))), Option.bind_some]
    dsimp only
    rw [if_pos rfl]
    unfold f_L_law_479 f_L_law_487
    rw [if_neg (fun z => z rfl)]
    exact RO_cadd (t_no hX hM (by omega)) (by omega) (by omega) (by omega)
  · rw [if_neg (show ¬ (101 : Int32) ≤ nI v from nI_ge (b := 101) (by omega) (by omega))]
    unfold f_L_law_441 f_L_law_455
    rw [if_neg (by decide)]
    have hE : gLm T M T (si M l 1 (nI v)) l L O nl := gLm_si (Or.inl rfl)
    obtain ⟨hb1, hw1, hd1, hI1⟩ := MP_row hX hM hE
    have hV := hI.1.2.1
    have hLK : LK (Pl rr a7) T (si M l 1 (nI v)) l A B L R O lc ld (si (si M l 1 (nI v)) 37 3 (nI v)) 37 k m := LK_share (LK_same hV hd1 hM.1.2.2.1)
    obtain ⟨hV2, N, e1, hm⟩ := o_share hI1 (i := nI v) ⟨nI_pos (by omega), show ¬ (100 : Int32) < nI v from nI_nlt (a := 100) (b := v) (by omega) (by omega)⟩
    have hdV : ∀ {b j : Nat}, ¬ (b = 37 ∧ j = 3) → gi (si (si M l 1 (nI v)) 37 3 (nI v)) b j = gi (si M l 1 (nI v)) b j := fun hn => by rw [gi_si _ 37, if_neg hn]
    have n1 : dNl (si (si M l 1 (nI v)) 37 3 (nI v)) 37 = nl := (congrArg Int32.toNatClampNeg (hdV (by omega))).trans ((dNl_same hd1).trans hM.1.2.2.2.2.1)
    have n2 : dNn (si (si M l 1 (nI v)) 37 3 (nI v)) 37 = nn := (congrArg Int32.toNatClampNeg (hdV (by omega))).trans ((dNn_same hd1).trans hM.1.2.2.2.2.2.1)
    have hTP := t_fin hX hM hE hLK hM.1.2.2.2.1 hM.1.2.2.2.2.2.2.2.1 hV2 n1 n2 hm (fun _ _ _ => rfl)
    have hLf := hm.2.2.2.2.2.1
    have hR0 := hM.2.2.2.2.2.2
    have h311 := w0_ge
    have hLN := LK_ke (M1 := N) (T1 := T) (fun b hb y hy => ⟨hy, (hLf b hb.1).2 hb.2.1, (hLf b hb.1).1⟩) hLK
    have hbN : gBR T N R0 nl nn := ⟨hb1.1, fun i hi => ⟨((hLf R0 (by omega)).1 i).trans (hb1.2 i hi).1, (hb1.2 i hi).2⟩⟩
    rw [e1, Option.bind_some]
    dsimp only
    rw [if_neg (by decide)]
    obtain ⟨v2, T2, M2, c2, s2, w1, w2, w3, w4, w5⟩ := p_changed (but := -1) (w := vBd (vW (si M l 1 (nI v)) 37 k m) (si M l 1 (nI v)) 37) hV2 hLN hI.1.2.2.2.2.2.1 hM.1.2.2.2.1 (by rw [n2]; exact hM.1.2.2.2.2.2.2.1) (by rw [n1, n2]; exact hbN) (fun i hi n hn => by
      rw [n1] at hi
      rw [n2] at hn
      rw [(hLf (R0 + 1 + i) (by omega)).2 (by omega), hw1 i hi n hn]
      exact (vBd_same hd1 hV (by rw [hM.1.2.2.2.2.1]; exact hi) (by have := hM.1.2.2.2.2.2.2.1; omega) (vW_sameV hV hd1)).symm) (by omega)
    have hl2 := w2.2.2
    rw [w1, Option.bind_some]
    dsimp only
    unfold f_L_law_479 f_L_law_487
    rw [w5, sumN_neg hV2.2.1, if_neg (fun z => z rfl)]
    exact RO_cadd (RO_cadd (t_ye hX (TP_to w2 hTP) (by omega)) (C' := 5424) (S' := 28922) (len' := T.length + 5424) (by omega) (by omega) (by omega)) (by omega) (by omega) (by omega)
theorem b_keeps [gW0] {k0 : Int32} (hk0 : k0 = 0 ∨ k0 = 1) (hX : FX rr a7 l L R O nl) (hM : MP T M rr a7 l A L R O nl nn k m dn nx sz B lc ld p R0) (hkk : kk ≤ nl) (hT : T.length + 5440 ≤ 900000) : RO (f_L_law_505 n f T M i2 0 rr l a7 (nI dn) i9 p R0 (-2000000097) (nI kk) (if kk < nl then 1 else 0) (if kk < nl then some (L kk) else none) k0) i9 dn (T.length + 5440) 5440 28980 rr a7 l A L R O nl nn k m := by
  have hI := hM.1.1
  have hV := hI.1.2.1
  have hn1 := hM.1.2.2.2.2.1
  have hn2 := hM.1.2.2.2.2.2.1
  have h5 := hX.2.2.2.2.2.2.2.2.2
  unfold f_L_law_505 f_L_law_533 f_L_law_551
  by_cases hkn : kk < nl
  · rw [if_pos hkn, if_pos hkn, if_neg (show ¬ (1 : Int32) = 0 by decide)]
    have hLa := (hM.1.2.2.1.2.2.2.1 kk (by rw [hn1]; exact hkn)).1.2.2.1
    have hE : gLm T M T (si M (L kk) 1 k0) l L O nl := gLm_si (Or.inr ⟨kk, hkn, Or.inl rfl⟩)
    obtain ⟨hb1, hw1, hd1, hI1⟩ := MP_row hX hM hE
    have hLK : LK (Pl rr a7) T (si M (L kk) 1 k0) l A B L R O lc ld (si M (37 + 5 + 3 * kk) 1 k0) 37 k m := LK_libp (Or.inr rfl) hM.1.2.2.1 (by rw [hn1]; exact hkn) (fun i j hi hj => hX.2.2.2.2.2.2.1 i j (by rw [← hn1]; exact hi) (by rw [← hn1]; exact hj))
    obtain ⟨hV2, -⟩ := o_keeps hI (by rw [hn1]; exact hkn) hk0
    have n1 : dNl (si M (37 + 5 + 3 * kk) 1 k0) 37 = nl := kNl.trans hn1
    have n2 : dNn (si M (37 + 5 + 3 * kk) 1 k0) 37 = nn := kNn.trans hn2
    obtain ⟨v2, T2, M2, c2, s2, w1, w2, w3, w4, w5⟩ := p_changed (but := -1) (w := vBd (vW M 37 k m) M 37) hV2 hLK hI.1.2.2.2.2.2.1 hM.1.2.2.2.1 (by rw [n2]; exact hM.1.2.2.2.2.2.2.1) (by rw [n1, n2]; exact hb1) (fun i hi n hn => hw1 i (by rw [← n1]; exact hi) n (by rw [← n2]; exact hn)) (by omega)
    have hl2 := w2.2.2
    have hE2 := gLm_to hE w2
    obtain ⟨-, -, hd2, hI2⟩ := MP_row hX hM hE2
    obtain ⟨hV3, N, e1, hm⟩ := o_keeps hI2 (a := kk) (by rw [dNl_same hd2, hn1]; exact hkn) hk0
    have hdd : dSame (si M2 (37 + 5 + 3 * kk) 1 k0) 37 (si M (37 + 5 + 3 * kk) 1 k0) 37 := si_dS hd2
    have hTP := t_fin hX hM hE2 (LK_to w2 hLK) hM.1.2.2.2.1 hM.1.2.2.2.2.2.2.2.1 hV2 n1 n2 hm (fun b j hb => (d37_eq hdd hb).symm)
    rw [gsm_some hLa, Option.bind_some, chk_ok hk0, Option.bind_some, w1, Option.bind_some]
    dsimp only
    rw [e1, Option.bind_some]
    dsimp only
    rw [w5, sumN_neg hV2.2.1, if_neg (fun z => z (by
      rw [dNl_same hdd, dNn_same hdd]
      congr 1
      refine sumN_ext (fun i hi => ?_)
      rw [vCh_same hdd hV2 hi (Nat.le_refl _) (vW_two hV2 hdd)]
      refine cntN_ext (fun z hz => ?_)
      rw [vBd_same hd2 hV (by rw [hn1, ← n1]; exact hi) (by have := hM.1.2.2.2.2.2.2.1; rw [n2] at hz; omega) (vW_sameV hV hd2)]))]
    exact RO_cadd (RO_cadd (t_ye hX hTP (by omega)) (C' := 3825) (S' := 22528) (len' := T.length + 5424) (by omega) (by omega) (by omega)) (by omega) (by omega) (by omega)
  · rw [if_neg hkn, if_neg hkn, if_pos rfl, o_keepsN hI (fun z => by
      have z2 : nI kk < nI (dNl M 37) := z.2
      rw [hn1] at z2
      exact nI_nlt (by omega) (by omega) z2), Option.bind_some]
    dsimp only
    rw [if_neg (fun z => z rfl)]
    exact RO_cadd (t_no hX hM (by omega)) (by omega) (by omega) (by omega)
end PBX
