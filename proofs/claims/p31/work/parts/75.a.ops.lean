/-! THE CLASS'S CHANGES -/
section POC
variable {T : gT} {M N K V : gM} {D D' a n0 t : Nat} {k : Nat → Nat × Nat} {m nx sz dn bq : Nat} {i j x : Int32}
theorem gVal_mk (hV : gVal T M D) (hg : ∀ b j, gr N b j = gr M b j) (h1 : gi N D 1 = gi M D 1) (h2 : gi N D 2 = gi M D 2) (hl : ∀ i, i < dNl M D → gLib N D (dNl M D) (dNn M D) i) : gVal T N D := by
  have e1 : dNl N D = dNl M D := congrArg Int32.toNatClampNeg h1
  have e2 : dNn N D = dNn M D := congrArg Int32.toNatClampNeg h2
  refine ⟨gDat_gr hV.1 hg, by rw [e1]; exact hV.2.1, by rw [e2]; exact hV.2.2.1, by rw [h1, e1]; exact hV.2.2.2.1, by rw [h2, e2]; exact hV.2.2.2.2.1, fun i hi => ?_⟩
  rw [e1] at hi ⊢
  rw [e2]
  exact hl i hi
theorem gLib_of {nl nn i : Nat} (ht : ∃ t, t ≤ 999 ∧ dTr N D i = nI t) (hk : dKp N D i = 0 ∨ dKp N D i = 1) (hr : dRk N D i = -1 ∨ ∃ r, r < 8 ∧ dRk N D i = nI r) (hp : dPn N D i = dPn M D i) (hpr : ∀ q, dPr N D i q = dPr M D i q) (ho : ∀ n, n < 12 → dOf N D i n = -1 ∨ n < nn ∧ ((∃ v, v ≤ 9999 ∧ dOf N D i n = nI v) ∨ ∃ k, k < nn ∧ dOf N D i n = -2 - nI k)) (h : gLib M D nl nn i) : gLib N D nl nn i := by
  have ep : dPk N D i = dPk M D i := congrArg Int32.toNatClampNeg hp
  refine ⟨ht, hk, hr, ?_, fun q hq => ?_, ho⟩
  · rw [hp, ep]
    exact h.2.2.2.1
  · rw [ep] at hq
    rw [hpr]
    exact h.2.2.2.2.1 q hq
theorem q_were [gW0] {M2 : gM} (hI : cInv T M k m nx sz dn bq) (h : cMid T M M2 N k m nx sz dn bq) {a n : Nat} (ha : a < dNl M 37) (hn : n < dNn M 37) : gi N 310 (12 * a + n) = vBd (vW M 37 k m) M 37 a n := by
  have h8 := hI.1.2.1.2.1
  have h12 := hI.1.2.1.2.2.1
  rw [h.2.2.1 _ (by omega)]
  exact ((hI.2.1.2 n hn).2.2.2 a ha).2.2
theorem cMid_V [gW0] {M2 : gM} (h : cMid T M M2 N k m nx sz dn bq) (hV : ∀ b j, dIn 37 b j → gi V b j = gi M2 b j) : dSame N 37 V 37 := fun b j hd => by
  have := dIn_rng hd
  rw [show b - 37 + 37 = b by omega, h.2.2.2.1 b j hd, hV b j hd]
/-- how many bindings of all are other ones now, said of V -/
theorem ch_V [gW0] {M2 : gM} (hI : cInv T M k m nx sz dn bq) (h : cMid T M M2 N k m nx sz dn bq) (hd : dSame N 37 V 37) (hV : gVal T V 37) (e1 : dNl V 37 = dNl M 37) (e2 : dNn V 37 = dNn M 37) : f_X8_changedBindingsOfAll T N 0 = some (nI (sumN (fun i => vCh (vW V 37 k m) V 37 (vBd (vW M 37 k m) M 37) i (dNn V 37)) (dNl V 37))) ∧ ∀ a, a < dNl V 37 → f_X8_changedBindings T N 0 (nI a) = some (nI (vCh (vW V 37 k m) V 37 (vBd (vW M 37 k m) M 37) a (dNn V 37))) := by
  have n1 := dNl_same hd
  have n2 := dNn_same hd
  have hw : ∀ a, a < dNl N 37 → ∀ n, n < dNn N 37 → gi N 310 (12 * a + n) = vBd (vW M 37 k m) M 37 a n := fun a ha n hn => q_were hI h (by rw [← e1, ← n1]; exact ha) (by rw [← e2, ← n2]; exact hn)
  refine ⟨?_, fun a ha => ?_⟩
  · rw [q_changedAll h.1.1 h.1.2.1 hw, n1, n2]
    congr 2
    exact sumN_ext (fun i hi => vCh_same hd hV hi (Nat.le_refl _) (vW_two hV hd))
  · rw [q_changed h.1.1 h.1.2.1 hw (by rw [n1]; exact ha), n2, vCh_same hd hV ha (Nat.le_refl _) (vW_two hV hd)]
theorem o_trust [gW0] (hI : cInv T M k m nx sz dn bq) (ha : a < dNl M 37) (ht : t ≤ 999) : gVal T (si M (37 + 5 + 3 * a) 0 (nI t)) 37 ∧ ∃ N, f_L_setTrust T M 0 (nI a) (nI t) = some (dTr M 37 a, N) ∧ cMid T M (si M (37 + 5 + 3 * a) 0 (nI t)) N k m nx sz dn bq := by
  have h := hI.1
  have hV := h.2.1
  have ha8 : a < 8 := Nat.lt_of_lt_of_le ha hV.2.1
  have hb : dIn 37 (37 + 5 + 3 * a) 0 := dIn_lib ha8 (Or.inl rfl)
  have ekp : ∀ q, dKp (si M (37 + 5 + 3 * a) 0 (nI t)) 37 q = dKp M 37 q := fun q => by show gi (si M (37 + 5 + 3 * a) 0 (nI t)) (37 + 5 + 3 * q) 1 = _; rw [gi_si, if_neg (by omega)]
  have hV2 : gVal T (si M (37 + 5 + 3 * a) 0 (nI t)) 37 := by
    refine gVal_mk hV (fun _ _ => rfl) (by rw [gi_si, if_neg (by omega)]) (by rw [gi_si, if_neg (by omega)]) (fun i hi => ?_)
    have hL := hV.2.2.2.2.2 i hi
    refine gLib_of ?_ (by rw [ekp]; exact hL.2.1) ?_ ?_ (fun q => ?_) (fun n hn => ?_) hL
    · show ∃ t', t' ≤ 999 ∧ gi (si M (37 + 5 + 3 * a) 0 (nI t)) (37 + 5 + 3 * i) 0 = nI t'
      rw [gi_si]
      by_cases e : i = a
      · rw [if_pos (by omega)]; exact ⟨t, ht, rfl⟩
      · rw [if_neg (by omega)]; exact hL.1
    · rw [show dRk (si M (37 + 5 + 3 * a) 0 (nI t)) 37 i = dRk M 37 i by show gi (si M (37 + 5 + 3 * a) 0 (nI t)) (37 + 5 + 3 * i) 2 = _; rw [gi_si, if_neg (by omega)]]
      exact hL.2.2.1
    · show gi (si M (37 + 5 + 3 * a) 0 (nI t)) (37 + 5 + 3 * i) 5 = _; rw [gi_si, if_neg (by omega)]
    · show gi (si M (37 + 5 + 3 * a) 0 (nI t)) (37 + 7 + 3 * i) q = _; rw [gi_si, if_neg (by omega)]
    · rw [show dOf (si M (37 + 5 + 3 * a) 0 (nI t)) 37 i n = dOf M 37 i n by show gi (si M (37 + 5 + 3 * a) 0 (nI t)) (37 + 6 + 3 * i) n = _; rw [gi_si, if_neg (by omega)]]
      exact hL.2.2.2.2.2 n hn
  obtain ⟨M1, c1, hX1, hd1, hs1, N, c2, c3⟩ := c_put hI hb (fun q hq => by rw [ekp]; exact hI.2.2.2.1 37 (Or.inr (Or.inl rfl)) q hq) hV2
  refine ⟨hV2, N, ?_, c3⟩
  have hXs : gFx T (si M1 (37 + 5 + 3 * a) 0 (nI t)) := gFx_gr hX1 (fun _ _ => rfl)
  unfold f_L_setTrust f_X8_setTrust
  rw [c_libY h (gdL_nI h ha), if_neg (nI_pos (by omega)), if_pos (show nI t ≤ (999 : Int32) from nI_le (b := 999) ht (by omega)), c1, Option.bind_some, r_0_4 hX1, Option.bind_some, p_row1 hd1, Option.bind_some, p_row2 hd1 ha8, Option.bind_some, Option.bind_some, p_row1 hd1, Option.bind_some, p_row2 hd1 ha8, Option.bind_some, r_0_5 hXs, Option.bind_some, r_0_4 hXs, Option.bind_some, c2, Option.bind_some, show gi M1 (37 + 5 + 3 * a) 0 = dTr M 37 a from dTr_same hs1 ha8]
  rfl
theorem o_trustB [gW0] (hI : cInv T M k m nx sz dn bq) (ha : a < dNl M 37) (gt : ¬ (¬ j < 0 ∧ ¬ (999 : Int32) < j)) : f_L_setTrust T M 0 (nI a) j = some (-2000000098, M) := by
  unfold f_L_setTrust f_X8_setTrust f_X8_setTrust_16
  rw [c_libY hI.1 (gdL_nI hI.1 ha)]
  by_cases g0 : j < 0
  · rw [if_pos g0]
    rfl
  · rw [if_neg g0, if_neg (fun q => gt ⟨g0, Int32.not_lt.mpr q⟩)]
    rfl
theorem o_trustN [gW0] (hI : cInv T M k m nx sz dn bq) (g : ¬ gdL M 37 i) : f_L_setTrust T M 0 i j = some (-2000000097, M) := by
  unfold f_L_setTrust f_X8_setTrust
  rw [c_libN hI.1 g]
  rfl
theorem o_share [gW0] (hI : cInv T M k m nx sz dn bq) (gt : ¬ i < 0 ∧ ¬ (100 : Int32) < i) : gVal T (si M 37 3 i) 37 ∧ ∃ N, f_L_setShare T M 0 i = some (nI (sumN (fun q => vCh (vW (si M 37 3 i) 37 k m) (si M 37 3 i) 37 (vBd (vW M 37 k m) M 37) q (dNn (si M 37 3 i) 37)) (dNl (si M 37 3 i) 37)), N) ∧ cMid T M (si M 37 3 i) N k m nx sz dn bq := by
  have h := hI.1
  have hV := h.2.1
  have hb : dIn 37 37 3 := dIn_hd (Or.inr (Or.inr rfl))
  have ne : ∀ {b j : Nat}, ¬ (b = 37 ∧ j = 3) → gi (si M 37 3 i) b j = gi M b j := fun hn => by rw [gi_si, if_neg hn]
  have ekp : ∀ q, dKp (si M 37 3 i) 37 q = dKp M 37 q := fun q => ne (by omega)
  have hV2 : gVal T (si M 37 3 i) 37 := by
    refine gVal_mk hV (fun _ _ => rfl) (ne (by omega)) (ne (by omega)) (fun q hq => ?_)
    have hL := hV.2.2.2.2.2 q hq
    exact gLib_of (by rw [show dTr (si M 37 3 i) 37 q = dTr M 37 q from ne (by omega)]; exact hL.1) (by rw [ekp]; exact hL.2.1) (by rw [show dRk (si M 37 3 i) 37 q = dRk M 37 q from ne (by omega)]; exact hL.2.2.1) (ne (by omega)) (fun z => ne (by omega)) (fun n hn => by rw [show dOf (si M 37 3 i) 37 q n = dOf M 37 q n from ne (by omega)]; exact hL.2.2.2.2.2 n hn) hL
  obtain ⟨M1, c1, hX1, hd1, hs1, N, c2, c3⟩ := c_put hI hb (fun q hq => by rw [ekp]; exact hI.2.2.2.1 37 (Or.inr (Or.inl rfl)) q hq) hV2
  refine ⟨hV2, N, ?_, c3⟩
  have hXs : gFx T (si M1 37 3 i) := gFx_gr hX1 (fun _ _ => rfl)
  unfold f_L_setShare f_X8_setShare
  rw [if_neg gt.1, if_pos (Int32.not_lt.mp gt.2), c1, Option.bind_some, r_0_4 hX1, Option.bind_some, r_0_5 hXs, Option.bind_some, r_0_4 hXs, Option.bind_some, c2, Option.bind_some, (ch_V hI c3 (cMid_V c3 (fun _ _ _ => rfl)) hV2 (congrArg Int32.toNatClampNeg (ne (by omega))) (congrArg Int32.toNatClampNeg (ne (by omega)))).1, Option.bind_some]
  rfl
theorem o_shareB (gt : ¬ (¬ i < 0 ∧ ¬ (100 : Int32) < i)) : f_L_setShare T M 0 i = some (-2000000098, M) := by
  unfold f_L_setShare f_X8_setShare f_X8_setShare_10
  by_cases g0 : i < 0
  · rw [if_pos g0]
    rfl
  · rw [if_neg g0, if_neg (fun q => gt ⟨g0, Int32.not_lt.mpr q⟩)]
    rfl
theorem o_keeps [gW0] (hI : cInv T M k m nx sz dn bq) (ha : a < dNl M 37) (hx : x = 0 ∨ x = 1) : gVal T (si M (37 + 5 + 3 * a) 1 x) 37 ∧ ∃ N, f_L_setKeeps T M 0 (nI a) x = some (nI (sumN (fun q => vCh (vW (si M (37 + 5 + 3 * a) 1 x) 37 k m) (si M (37 + 5 + 3 * a) 1 x) 37 (vBd (vW M 37 k m) M 37) q (dNn (si M (37 + 5 + 3 * a) 1 x) 37)) (dNl (si M (37 + 5 + 3 * a) 1 x) 37)), N) ∧ cMid T M (si M (37 + 5 + 3 * a) 1 x) N k m nx sz dn bq := by
  have h := hI.1
  have hV := h.2.1
  have ha8 : a < 8 := Nat.lt_of_lt_of_le ha hV.2.1
  have hb : dIn 37 (37 + 5 + 3 * a) 1 := dIn_lib ha8 (Or.inr (Or.inl rfl))
  have hka : dKp (si M (37 + 5 + 3 * a) 1 x) 37 a = x := by show gi (si M (37 + 5 + 3 * a) 1 x) (37 + 5 + 3 * a) 1 = _; rw [gi_si, if_pos ⟨rfl, rfl⟩]
  have hV2 : gVal T (si M (37 + 5 + 3 * a) 1 x) 37 := by
    refine gVal_mk hV (fun _ _ => rfl) (by rw [gi_si, if_neg (by omega)]) (by rw [gi_si, if_neg (by omega)]) (fun q hq => ?_)
    have hL := hV.2.2.2.2.2 q hq
    refine gLib_of (by rw [kTr]; exact hL.1) ?_ (by rw [kRk]; exact hL.2.2.1) (by show gi (si M (37 + 5 + 3 * a) 1 x) (37 + 5 + 3 * q) 5 = _; rw [gi_si, if_neg (by omega)]) (fun z => kPr) (fun n hn => by rw [kOf]; exact hL.2.2.2.2.2 n hn) hL
    by_cases e : q = a
    · rw [e, hka]; exact hx
    · rw [kKp e]; exact hL.2.1
  obtain ⟨M1, c1, hX1, hd1, hs1, N, c2, c3⟩ := c_put hI hb (fun q hq => by
    by_cases e : q = a
    · rw [e, hka]; exact hx
    · rw [kKp e]; exact hI.2.2.2.1 37 (Or.inr (Or.inl rfl)) q hq) hV2
  refine ⟨hV2, N, ?_, c3⟩
  have hXs : gFx T (si M1 (37 + 5 + 3 * a) 1 x) := gFx_gr hX1 (fun _ _ => rfl)
  have hdV := cMid_V c3 (V := si M (37 + 5 + 3 * a) 1 x) (fun _ _ _ => rfl)
  have hsum : sumN (fun q => vCh (vW (si M (37 + 5 + 3 * a) 1 x) 37 k m) (si M (37 + 5 + 3 * a) 1 x) 37 (vBd (vW M 37 k m) M 37) q (dNn (si M (37 + 5 + 3 * a) 1 x) 37)) (dNl (si M (37 + 5 + 3 * a) 1 x) 37) = vCh (vW (si M (37 + 5 + 3 * a) 1 x) 37 k m) (si M (37 + 5 + 3 * a) 1 x) 37 (vBd (vW M 37 k m) M 37) a (dNn (si M (37 + 5 + 3 * a) 1 x) 37) := sumN_one (c := a) rfl (fun q hq hne => cntN_none (fun n hn => decide_eq_false (fun z => z.2 (by rw [kW, kBd hne])))) (by rw [kNl]; exact ha)
  unfold f_L_setKeeps f_X8_setKeeps
  rw [c_libY h (gdL_nI h ha), c1, Option.bind_some, r_0_4 hX1, Option.bind_some, p_row1 hd1, Option.bind_some, p_row2 hd1 ha8, Option.bind_some, chk_ok hx, Option.bind_some, r_0_5 hXs, Option.bind_some, r_0_4 hXs, Option.bind_some, c2, Option.bind_some, (ch_V hI c3 hdV hV2 kNl kNn).2 a (by rw [kNl]; exact ha), Option.bind_some, hsum]
  rfl
theorem o_keepsN [gW0] (hI : cInv T M k m nx sz dn bq) (g : ¬ gdL M 37 i) : f_L_setKeeps T M 0 i x = some (-2000000097, M) := by
  unfold f_L_setKeeps f_X8_setKeeps
  rw [c_libN hI.1 g]
  rfl
end POC
