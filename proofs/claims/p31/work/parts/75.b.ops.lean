/-! THE CLASS'S CHANGES: offers, unload, reload, undo; what it tells -/
section POD
variable {T : gT} {M N K V : gM} {D D' a n0 t : Nat} {k : Nat → Nat × Nat} {m nx sz dn bq : Nat} {i j x e3 : Int32}
def okO (nn : Nat) (x : Int32) : Prop := x = -1 ∨ (∃ v, v ≤ 9999 ∧ x = nI v) ∨ ∃ q, q < nn ∧ x = -2 - nI q
theorem o_change [gW0] (hI : cInv T M k m nx sz dn bq) (ha : a < dNl M 37) (hn : n0 < dNn M 37) (hx : okO (dNn M 37) x) : gVal T (si M (37 + 6 + 3 * a) n0 x) 37 ∧ ∃ N, f_X8_changeOffer T M 0 (nI a) (nI n0) x = some (vWin (vW (si M (37 + 6 + 3 * a) n0 x) 37 k m) (si M (37 + 6 + 3 * a) n0 x) 37 n0, N) ∧ cMid T M (si M (37 + 6 + 3 * a) n0 x) N k m nx sz dn bq := by
  have h := hI.1
  have hV := h.2.1
  have h8 := hV.2.1
  have h12 := hV.2.2.1
  have ha8 : a < 8 := by omega
  have hb : dIn 37 (37 + 6 + 3 * a) n0 := dIn_off ha8 (by omega)
  have ne : ∀ {b j : Nat}, ¬ (b = 37 + 6 + 3 * a ∧ j = n0) → gi (si M (37 + 6 + 3 * a) n0 x) b j = gi M b j := fun hn => by rw [gi_si, if_neg hn]
  have ekp : ∀ q, dKp (si M (37 + 6 + 3 * a) n0 x) 37 q = dKp M 37 q := fun q => ne (by omega)
  have hV2 : gVal T (si M (37 + 6 + 3 * a) n0 x) 37 := by
    refine gVal_mk hV (fun _ _ => rfl) (ne (by omega)) (ne (by omega)) (fun q hq => ?_)
    have hL := hV.2.2.2.2.2 q hq
    refine gLib_of (by rw [show dTr (si M (37 + 6 + 3 * a) n0 x) 37 q = dTr M 37 q from ne (by omega)]; exact hL.1) (by rw [ekp]; exact hL.2.1) (by rw [show dRk (si M (37 + 6 + 3 * a) n0 x) 37 q = dRk M 37 q from ne (by omega)]; exact hL.2.2.1) (ne (by omega)) (fun z => ne (by omega)) (fun n hn9 => ?_) hL
    by_cases e : q = a ∧ n = n0
    · rw [show dOf (si M (37 + 6 + 3 * a) n0 x) 37 q n = x by show gi (si M (37 + 6 + 3 * a) n0 x) (37 + 6 + 3 * q) n = _; rw [gi_si, if_pos (by omega)]]
      rcases hx with z | z
      · exact Or.inl z
      · exact Or.inr ⟨by omega, z⟩
    · rw [show dOf (si M (37 + 6 + 3 * a) n0 x) 37 q n = dOf M 37 q n from ne (by omega)]
      exact hL.2.2.2.2.2 n hn9
  obtain ⟨M1, c1, hX1, hd1, hs1, N, c2, c3⟩ := c_put hI hb (fun q hq => by rw [ekp]; exact hI.2.2.2.1 37 (Or.inr (Or.inl rfl)) q hq) hV2
  refine ⟨hV2, N, ?_, c3⟩
  have hdV := cMid_V c3 (V := si M (37 + 6 + 3 * a) n0 x) (fun _ _ _ => rfl)
  have e2N : dNn N 37 = dNn M 37 := (dNn_same hdV).trans (congrArg Int32.toNatClampNeg (ne (by omega)))
  have hnN : n0 < dNn N 37 := by rw [e2N]; exact hn
  have hXs : gFx T (si M1 (37 + 6 + 3 * a) n0 x) := gFx_gr hX1 (fun _ _ => rfl)
  have hL := hd1.2.2.2 a ha8
  have hXN := c3.1.1.1
  unfold f_X8_changeOffer
  rw [c1, Option.bind_some, r_0_4 hX1, Option.bind_some, p_row1 hd1, Option.bind_some, p_row2 hd1 ha8, Option.bind_some, ldr_ok hL.2.2.1 hL.1.2.1, Option.bind_some, ast_ok hL.1.2.1 (show n0 < 12 by omega) (by decide), Option.bind_some, r_0_5 hXs, Option.bind_some, r_0_4 hXs, Option.bind_some, c2, Option.bind_some, r_0_5 hXN, Option.bind_some, r_66_2 hXN, Option.bind_some, ald_ok (s_69 hXN) (by omega) (by decide), Option.bind_some, (c3.1.2.1.2 n0 hnN).2.1, vWin_same hdV hV2 (by omega) (vW_two hV2 hdV)]
theorem o_value [gW0] (hI : cInv T M k m nx sz dn bq) (ha : a < dNl M 37) (hn : n0 < dNn M 37) (ht : t ≤ 9999) : gVal T (si M (37 + 6 + 3 * a) n0 (nI t)) 37 ∧ ∃ N, f_L_offerValue T M 0 (nI a) (nI n0) (nI t) = some (vWin (vW (si M (37 + 6 + 3 * a) n0 (nI t)) 37 k m) (si M (37 + 6 + 3 * a) n0 (nI t)) 37 n0, N) ∧ cMid T M (si M (37 + 6 + 3 * a) n0 (nI t)) N k m nx sz dn bq := by
  obtain ⟨hV2, N, c1, c2⟩ := o_change hI ha hn (x := nI t) (Or.inr (Or.inl ⟨t, ht, rfl⟩))
  refine ⟨hV2, N, ?_, c2⟩
  unfold f_L_offerValue f_X8_offerValue
  rw [c_libY hI.1 (gdL_nI hI.1 ha), c_namY hI.1 (gdN_nI hI.1 hn), if_neg (nI_pos (by omega)), if_pos (show nI t ≤ (9999 : Int32) from nI_le (b := 9999) ht (by omega)), c1, Option.bind_some]
  rfl
theorem o_valueB [gW0] (hI : cInv T M k m nx sz dn bq) (ha : a < dNl M 37) (hn : n0 < dNn M 37) (gt : ¬ (¬ e3 < 0 ∧ ¬ (9999 : Int32) < e3)) : f_L_offerValue T M 0 (nI a) (nI n0) e3 = some (-2000000098, M) := by
  unfold f_L_offerValue f_X8_offerValue f_X8_offerValue_21
  rw [c_libY hI.1 (gdL_nI hI.1 ha), c_namY hI.1 (gdN_nI hI.1 hn)]
  by_cases g0 : e3 < 0
  · rw [if_pos g0]
    rfl
  · rw [if_neg g0, if_neg (fun q => gt ⟨g0, Int32.not_lt.mpr q⟩)]
    rfl
theorem o_valueN [gW0] (hI : cInv T M k m nx sz dn bq) (g : ¬ (gdL M 37 i ∧ gdN M 37 j)) : f_L_offerValue T M 0 i j e3 = some (-2000000097, M) := by
  unfold f_L_offerValue f_X8_offerValue
  rw [c_lnN hI.1 g]
  rfl
theorem o_forward [gW0] (hI : cInv T M k m nx sz dn bq) (ha : a < dNl M 37) (hn : n0 < dNn M 37) (ht : t < dNn M 37) : gVal T (si M (37 + 6 + 3 * a) n0 (-2 - nI t)) 37 ∧ ∃ N, f_L_offerForward T M 0 (nI a) (nI n0) (nI t) = some (vWin (vW (si M (37 + 6 + 3 * a) n0 (-2 - nI t)) 37 k m) (si M (37 + 6 + 3 * a) n0 (-2 - nI t)) 37 n0, N) ∧ cMid T M (si M (37 + 6 + 3 * a) n0 (-2 - nI t)) N k m nx sz dn bq := by
  obtain ⟨hV2, N, c1, c2⟩ := o_change hI ha hn (x := -2 - nI t) (Or.inr (Or.inr ⟨t, ht, rfl⟩))
  refine ⟨hV2, N, ?_, c2⟩
  unfold f_L_offerForward f_X8_offerForward
  rw [c_libY hI.1 (gdL_nI hI.1 ha), c_namY hI.1 (gdN_nI hI.1 hn), c_namY hI.1 (gdN_nI hI.1 ht), c1, Option.bind_some]
  rfl
theorem o_forwardN [gW0] (hI : cInv T M k m nx sz dn bq) (g : ¬ (gdL M 37 i ∧ gdN M 37 j)) : f_L_offerForward T M 0 i j e3 = some (-2000000097, M) := by
  unfold f_L_offerForward f_X8_offerForward
  rw [c_lnN hI.1 g]
  rfl
theorem o_forwardM [gW0] (hI : cInv T M k m nx sz dn bq) (ha : a < dNl M 37) (hn : n0 < dNn M 37) (g : ¬ gdN M 37 e3) : f_L_offerForward T M 0 (nI a) (nI n0) e3 = some (-2000000097, M) := by
  unfold f_L_offerForward f_X8_offerForward
  rw [c_libY hI.1 (gdL_nI hI.1 ha), c_namY hI.1 (gdN_nI hI.1 hn), c_namN hI.1 g]
  rfl
theorem o_withdraw [gW0] (hI : cInv T M k m nx sz dn bq) (ha : a < dNl M 37) (hn : n0 < dNn M 37) (ho : dOf M 37 a n0 ≠ -1) : gVal T (si M (37 + 6 + 3 * a) n0 (-1)) 37 ∧ ∃ N, f_L_withdraw T M 0 (nI a) (nI n0) = some (vWin (vW (si M (37 + 6 + 3 * a) n0 (-1)) 37 k m) (si M (37 + 6 + 3 * a) n0 (-1)) 37 n0, N) ∧ cMid T M (si M (37 + 6 + 3 * a) n0 (-1)) N k m nx sz dn bq := by
  have h := hI.1
  have h8 := h.2.1.2.1
  have h12 := h.2.1.2.2.1
  obtain ⟨hV2, N, c1, c2⟩ := o_change hI ha hn (x := -1) (Or.inl rfl)
  refine ⟨hV2, N, ?_, c2⟩
  unfold f_L_withdraw f_X8_withdraw
  rw [c_libY h (gdL_nI h ha), c_namY h (gdN_nI h hn), r_0_4 h.1, Option.bind_some, p_row1 h.2.1.1, Option.bind_some, p_row2 h.2.1.1 (by omega), Option.bind_some, p_hasOffer h.2.1.1 (by omega) (by omega), Option.bind_some, if_neg ho, if_pos (by decide), c1, Option.bind_some]
  rfl
theorem o_withdrawS [gW0] (hI : cInv T M k m nx sz dn bq) (ha : a < dNl M 37) (hn : n0 < dNn M 37) (ho : dOf M 37 a n0 = -1) : f_L_withdraw T M 0 (nI a) (nI n0) = some (-2000000099, M) := by
  have h := hI.1
  have h8 := h.2.1.2.1
  have h12 := h.2.1.2.2.1
  unfold f_L_withdraw f_X8_withdraw
  rw [c_libY h (gdL_nI h ha), c_namY h (gdN_nI h hn), r_0_4 h.1, Option.bind_some, p_row1 h.2.1.1, Option.bind_some, p_row2 h.2.1.1 (by omega), Option.bind_some, p_hasOffer h.2.1.1 (by omega) (by omega), Option.bind_some, if_pos ho, if_neg (fun q => q rfl)]
  rfl
theorem o_withdrawN [gW0] (hI : cInv T M k m nx sz dn bq) (g : ¬ (gdL M 37 i ∧ gdN M 37 j)) : f_L_withdraw T M 0 i j = some (-2000000097, M) := by
  unfold f_L_withdraw f_X8_withdraw
  rw [c_lnN hI.1 g]
  rfl
theorem c_beg [gW0] (hI : cInv T M k m nx sz dn bq) : ∃ M1, f_X8_beginChange T M 0 = some M1 ∧ gBg M M1 nx sz ∧ gFx T M1 ∧ gVal T M1 37 ∧ dSame M1 37 M 37 := by
  have i1 := cInv_sl hI
  obtain ⟨i0, i3, ⟨hnx, hsz, j1, j2, j4, j5⟩, i5, i6, i7⟩ := hI
  have i2 := i0.1
  obtain ⟨M1, c1, c2⟩ := p_begin i2 i6 i5 i1.2.1 hnx hsz j1 j2
  have hDk : gD (78 + 29 * nx) := Or.inr ⟨nx, hnx, rfl⟩
  have hX1 : gFx T M1 := gFx_of i2 (fun b j hb => c2.1 b j (fun q => hb ⟨by rw [q.1]; exact gDs_mem (Or.inr hDk), q.2⟩))
  have hd1 : gDat T M1 37 := gDa_of i6 (fun b j hb => c2.1 b j (fun q => hb ⟨by rw [q.1]; exact gDs_mem (Or.inr hDk), q.2⟩)) 37 (Or.inr (Or.inl rfl))
  have hs1 : dSame M1 37 M 37 := fun b j hd => by
    have hr := dIn_rng hd
    rw [show b - 37 + 37 = b by omega]
    exact c2.2.2.2.2.2.2.2 b j (dIn_apart (Or.inr (Or.inl rfl)) (Or.inr hDk) (by omega) hd) (by omega) (by omega)
  exact ⟨M1, c1, c2, hX1, gVal_same hs1 hd1 i1.1, hs1⟩
/-- the data with a taken out -/
def vUn (M : gM) (a : Nat) : gM := (fun b j => if j = 2 ∧ 42 ≤ b ∧ b < 42 + 3 * dNl M 37 ∧ (b - 42) % 3 = 0 then nRk M 37 a ((b - 42) / 3) else M.1 b j, M.2.1, M.2.2)
theorem vUn_gi {b j : Nat} : gi (vUn M a) b j = if j = 2 ∧ 42 ≤ b ∧ b < 42 + 3 * dNl M 37 ∧ (b - 42) % 3 = 0 then nRk M 37 a ((b - 42) / 3) else gi M b j := rfl
theorem vUn_rk {q : Nat} (hq : q < dNl M 37) : dRk (vUn M a) 37 q = nRk M 37 a q := by
  show gi (vUn M a) (37 + 5 + 3 * q) 2 = _
  rw [vUn_gi, if_pos (by omega), show (37 + 5 + 3 * q - 42) / 3 = q by omega]
theorem vUn_no {b j : Nat} (h : ¬ (j = 2 ∧ 42 ≤ b ∧ b < 42 + 3 * dNl M 37 ∧ (b - 42) % 3 = 0)) : gi (vUn M a) b j = gi M b j := by rw [vUn_gi, if_neg h]
theorem nRk_ok {i : Nat} (hV : gVal T M 37) (ha : a < dNl M 37) (hl : dRk M 37 a ≠ -1) (hi : i < dNl M 37) : nRk M 37 a i = -1 ∨ ∃ r, r < 8 ∧ nRk M 37 a i = nI r := by
  obtain ⟨ra, hra, era⟩ := ((hV.2.2.2.2.2 a ha).2.2.1).resolve_left hl
  unfold nRk
  by_cases e : i = a
  · rw [if_pos e]; exact Or.inl rfl
  · rw [if_neg e]
    rcases (hV.2.2.2.2.2 i hi).2.2.1 with z | ⟨r, hr8, z⟩
    · rw [z, if_neg (by rw [era, Int32.lt_iff_toInt_lt, nI_toInt (by omega), show (-1 : Int32).toInt = -1 from rfl]; omega)]
      exact Or.inl rfl
    · by_cases hlt : dRk M 37 a < dRk M 37 i
      · rw [if_pos hlt]
        rw [era, z] at hlt
        have h2 := (nI_ltI (by omega) (by omega)).mp hlt
        obtain ⟨s, rfl⟩ : ∃ s, r = s + 1 := ⟨r - 1, by omega⟩
        rw [z, nI_pred]
        exact Or.inr ⟨s, by omega, rfl⟩
      · rw [if_neg hlt, z]
        exact Or.inr ⟨r, hr8, rfl⟩
theorem vUn_val (hV : gVal T M 37) (ha : a < dNl M 37) (hl : dRk M 37 a ≠ -1) : gVal T (vUn M a) 37 := by
  refine gVal_mk hV (fun _ _ => rfl) (vUn_no (by omega)) (vUn_no (by omega)) (fun q hq => ?_)
  have hL := hV.2.2.2.2.2 q hq
  refine gLib_of (by rw [show dTr (vUn M a) 37 q = dTr M 37 q from vUn_no (by omega)]; exact hL.1) (by rw [show dKp (vUn M a) 37 q = dKp M 37 q from vUn_no (by omega)]; exact hL.2.1) (by rw [vUn_rk hq]; exact nRk_ok hV ha hl hq) (vUn_no (by omega)) (fun z => vUn_no (by omega)) (fun n hn => ?_) hL
  rw [show dOf (vUn M a) 37 q n = dOf M 37 q n from vUn_no (by omega)]
  exact hL.2.2.2.2.2 n hn
theorem dIn_k {b j : Nat} (h : dIn 37 b j) : (∃ i, i < 8 ∧ b = 37 + 5 + 3 * i ∧ j = 2) ∨ ¬ rkP b j := by
  by_cases hr : rkP b j
  · exact Or.inl ⟨(b - 42) / 3, by unfold rkP at hr; omega, by unfold rkP at hr; omega, hr.1⟩
  · exact Or.inr hr
theorem o_unload [gW0] (hI : cInv T M k m nx sz dn bq) (ha : a < dNl M 37) (hl : dRk M 37 a ≠ -1) : ∃ N, f_L_unload T M 0 (nI a) = some (nI (sumN (fun q => vCh (vW (vUn M a) 37 k m) (vUn M a) 37 (vBd (vW M 37 k m) M 37) q (dNn (vUn M a) 37)) (dNl (vUn M a) 37)), N) ∧ cMid T M (vUn M a) N k m nx sz dn bq := by
  have h := hI.1
  have hV := h.2.1
  have h8 := hV.2.1
  have ha8 : a < 8 := by omega
  obtain ⟨M1, c1, hB, hX1, hV1, hs1⟩ := c_beg hI
  have ha1 : a < dNl M1 37 := by rw [dNl_same hs1]; exact ha
  obtain ⟨M2, t1, t2, t3, t4⟩ := p_takeOut hV1 ha1 (by rw [dRk_same hs1 ha8]; exact hl)
  have hV2 := vUn_val hV ha hl
  have hM2 : ∀ b j, dIn 37 b j → gi M2 b j = gi (vUn M a) b j := fun b j hd => by
    rcases dIn_k hd with ⟨q, hq, rfl, rfl⟩ | hr
    · by_cases hq2 : q < dNl M 37
      · rw [show gi M2 (37 + 5 + 3 * q) 2 = nRk M1 37 a q from t3 q (by rw [dNl_same hs1]; exact hq2), show gi (vUn M a) (37 + 5 + 3 * q) 2 = nRk M 37 a q from vUn_rk hq2]
        unfold nRk
        rw [dRk_same hs1 ha8, dRk_same hs1 hq]
      · rw [show gi M2 (37 + 5 + 3 * q) 2 = dRk M1 37 q from t4 q (by rw [dNl_same hs1]; omega) hq, vUn_no (by omega)]
        exact dRk_same hs1 hq
    · have hrr := dIn_rng hd
      have e := hs1 b j hd
      rw [show b - 37 + 37 = b by omega] at e
      rw [t2.2.2 b j hr, e, vUn_no (by unfold rkP at hr; omega)]
  have hVM2 : gVal T M2 37 := gVal_same (M := vUn M a) (D' := 37) (fun b j hd => by
    have hr := dIn_rng hd
    rw [show b - 37 + 37 = b by omega, hM2 b j hd]) (gDat_gr hV1.1 t2.1) hV2
  obtain ⟨N, c2, c3, -⟩ := p_mid hI hB t2.1 (fun b j hb => t2.2.2 b j (fun q => hb (rkP_dIn q))) hVM2 (fun q hq => by
    rw [show dKp M2 37 q = dKp M1 37 q from t2.2.2 _ _ (fun z => by unfold rkP at z; omega), dKp_same hs1 hq]
    exact hI.2.2.2.1 37 (Or.inr (Or.inl rfl)) q hq)
  obtain ⟨e1, e2, e3, e4, e5, e6⟩ := c3
  have c3 : cMid T M (vUn M a) N k m nx sz dn bq := ⟨e1, e2, e3, fun b j hd => (e4 b j hd).trans (hM2 b j hd), e5, e6⟩
  refine ⟨N, ?_, c3⟩
  have hXs : gFx T M2 := gFx_fr hX1 t2
  unfold f_L_unload f_X8_unload
  rw [c_libY h (gdL_nI h ha), r_0_4 h.1, Option.bind_some, p_row1 hV.1, Option.bind_some, p_row2 hV.1 ha8, Option.bind_some, p_isLoaded, Option.bind_some, if_neg (show ¬ gi M (37 + 5 + 3 * a) 2 = -1 from hl), if_pos (by decide), c1, Option.bind_some, r_0_4 hX1, Option.bind_some, t1, Option.bind_some, r_0_5 hXs, Option.bind_some, r_0_4 hXs, Option.bind_some, c2, Option.bind_some, (ch_V hI c3 (cMid_V c3 (fun _ _ _ => rfl)) hV2 (congrArg Int32.toNatClampNeg (vUn_no (by omega))) (congrArg Int32.toNatClampNeg (vUn_no (by omega)))).1, Option.bind_some]
  rfl
theorem o_unloadS [gW0] (hI : cInv T M k m nx sz dn bq) (ha : a < dNl M 37) (hl : dRk M 37 a = -1) : f_L_unload T M 0 (nI a) = some (-2000000099, M) := by
  have h := hI.1
  have hV := h.2.1
  have h8 := hV.2.1
  unfold f_L_unload f_X8_unload
  rw [c_libY h (gdL_nI h ha), r_0_4 h.1, Option.bind_some, p_row1 hV.1, Option.bind_some, p_row2 hV.1 (by omega), Option.bind_some, p_isLoaded, Option.bind_some, if_pos hl, if_neg (fun q => q rfl)]
  rfl
theorem o_unloadN [gW0] (hI : cInv T M k m nx sz dn bq) (g : ¬ gdL M 37 i) : f_L_unload T M 0 i = some (-2000000097, M) := by
  unfold f_L_unload f_X8_unload
  rw [c_libN hI.1 g]
  rfl
/-- the data with a behind all loaded ones -/
abbrev vRe (M : gM) (a : Nat) : gM := si M (37 + 5 + 3 * a) 2 (nI (cntN (fun i => decide (dRk M 37 i ≠ -1)) (dNl M 37)))
theorem vRe_val (hV : gVal T M 37) (ha : a < dNl M 37) (hl : dRk M 37 a = -1) : gVal T (vRe M a) 37 := by
  have h8 := hV.2.1
  have hc : cntN (fun i => decide (dRk M 37 i ≠ -1)) (dNl M 37) < 8 := by
    have h1 := cntN_but (c := fun i => decide (dRk M 37 i ≠ -1)) ha
    have h2 := cnt_le (c := fun i => decide (dRk M 37 i ≠ -1)) (e := fun i => decide (i ≠ a)) (n := dNl M 37) (fun q hq hc => by
      have hq2 : dRk M 37 q ≠ -1 := of_decide_eq_true hc
      exact decide_eq_true (fun e => hq2 (by rw [e]; exact hl)))
    have h3 := cntN_but (c := fun _ => true) ha
    have h4 : cntN (fun _ => true) (dNl M 37) ≤ dNl M 37 := cntN_le _ _
    simp only [Bool.true_and, if_true] at h3
    omega
  have ne : ∀ {b j : Nat}, ¬ (b = 37 + 5 + 3 * a ∧ j = 2) → gi (vRe M a) b j = gi M b j := fun hn => by rw [gi_si, if_neg hn]
  refine gVal_mk hV (fun _ _ => rfl) (ne (by omega)) (ne (by omega)) (fun q hq => ?_)
  have hL := hV.2.2.2.2.2 q hq
  refine gLib_of (by rw [show dTr (vRe M a) 37 q = dTr M 37 q from ne (by omega)]; exact hL.1) (by rw [show dKp (vRe M a) 37 q = dKp M 37 q from ne (by omega)]; exact hL.2.1) ?_ (ne (by omega)) (fun z => ne (by omega)) (fun n hn => ?_) hL
  · by_cases e : q = a
    · exact Or.inr ⟨_, hc, by show gi (vRe M a) (37 + 5 + 3 * q) 2 = _; rw [gi_si, if_pos (by omega)]⟩
    · rw [show dRk (vRe M a) 37 q = dRk M 37 q from ne (by omega)]
      exact hL.2.2.1
  · rw [show dOf (vRe M a) 37 q n = dOf M 37 q n from ne (by omega)]
    exact hL.2.2.2.2.2 n hn
theorem o_reload [gW0] (hI : cInv T M k m nx sz dn bq) (ha : a < dNl M 37) (hl : dRk M 37 a = -1) : ∃ N, f_L_reload T M 0 (nI a) = some (nI (sumN (fun q => if nI q = nI a then 0 else vCh (vW (vRe M a) 37 k m) (vRe M a) 37 (vBd (vW M 37 k m) M 37) q (dNn (vRe M a) 37)) (dNl (vRe M a) 37)), N) ∧ cMid T M (vRe M a) N k m nx sz dn bq := by
  have h := hI.1
  have hV := h.2.1
  have h8 := hV.2.1
  have ha8 : a < 8 := by omega
  obtain ⟨M1, c1, hB, hX1, hV1, hs1⟩ := c_beg hI
  have ha1 : a < dNl M1 37 := by rw [dNl_same hs1]; exact ha
  have t1 := p_takeIn hV1 ha1
  have hcnt : cntN (fun i => decide (dRk M1 37 i ≠ -1)) (dNl M1 37) = cntN (fun i => decide (dRk M 37 i ≠ -1)) (dNl M 37) := by
    rw [dNl_same hs1]
    exact cntN_ext (fun q hq => by rw [dRk_same hs1 (by omega)])
  rw [hcnt] at t1
  generalize hM2' : si M1 (37 + 5 + 3 * a) 2 (nI (cntN (fun i => decide (dRk M 37 i ≠ -1)) (dNl M 37))) = M2 at t1
  have t2 : fr rkP M1 M2 := by rw [← hM2']; exact fr_si fr_refl ⟨rfl, by omega, by omega, by omega⟩
  have hV2 := vRe_val hV ha hl
  have hM2 : ∀ b j, dIn 37 b j → gi M2 b j = gi (vRe M a) b j := fun b j hd => by
    have hrr := dIn_rng hd
    have e := hs1 b j hd
    rw [show b - 37 + 37 = b by omega] at e
    rw [← hM2', gi_si, gi_si, e]
  have hVM2 : gVal T M2 37 := gVal_same (M := vRe M a) (D' := 37) (fun b j hd => by
    have hr := dIn_rng hd
    rw [show b - 37 + 37 = b by omega, hM2 b j hd]) (gDat_gr hV1.1 t2.1) hV2
  obtain ⟨N, c2, c3, -⟩ := p_mid hI hB t2.1 (fun b j hb => t2.2.2 b j (fun q => hb (rkP_dIn q))) hVM2 (fun q hq => by
    rw [show dKp M2 37 q = dKp M1 37 q from t2.2.2 _ _ (fun z => by unfold rkP at z; omega), dKp_same hs1 hq]
    exact hI.2.2.2.1 37 (Or.inr (Or.inl rfl)) q hq)
  obtain ⟨e1, e2, e3, e4, e5, e6⟩ := c3
  have c3 : cMid T M (vRe M a) N k m nx sz dn bq := ⟨e1, e2, e3, fun b j hd => (e4 b j hd).trans (hM2 b j hd), e5, e6⟩
  refine ⟨N, ?_, c3⟩
  have hXs : gFx T M2 := gFx_fr hX1 t2
  have ne : ∀ {b j : Nat}, ¬ (b = 37 + 5 + 3 * a ∧ j = 2) → gi (vRe M a) b j = gi M b j := fun hn => by rw [gi_si, if_neg hn]
  have n1 : dNl (vRe M a) 37 = dNl M 37 := congrArg Int32.toNatClampNeg (ne (by omega))
  have hch := ch_V hI c3 (cMid_V c3 (fun _ _ _ => rfl)) hV2 n1 (congrArg Int32.toNatClampNeg (ne (by omega)))
  have hsb := sumN_but (f := fun q => vCh (vW (vRe M a) 37 k m) (vRe M a) 37 (vBd (vW M 37 k m) M 37) q (dNn (vRe M a) 37)) hV2.2.1 (show a < dNl (vRe M a) 37 by rw [n1]; exact ha)
  unfold f_L_reload f_X8_reload
  rw [c_libY h (gdL_nI h ha), r_0_4 h.1, Option.bind_some, p_row1 hV.1, Option.bind_some, p_row2 hV.1 ha8, Option.bind_some, p_isLoaded, Option.bind_some, if_pos (show gi M (37 + 5 + 3 * a) 2 = -1 from hl), if_pos rfl, c1, Option.bind_some, r_0_4 hX1, Option.bind_some, t1, Option.bind_some, r_0_5 hXs, Option.bind_some, r_0_4 hXs, Option.bind_some, c2, Option.bind_some, hch.1, Option.bind_some, hch.2 a (by rw [n1]; exact ha), Option.bind_some, pk_sub (by rw [hsb]; omega), hsb, Nat.add_sub_cancel]
  rfl
theorem o_reloadS [gW0] (hI : cInv T M k m nx sz dn bq) (ha : a < dNl M 37) (hl : ¬ dRk M 37 a = -1) : f_L_reload T M 0 (nI a) = some (-2000000099, M) := by
  have h := hI.1
  have hV := h.2.1
  have h8 := hV.2.1
  unfold f_L_reload f_X8_reload
  rw [c_libY h (gdL_nI h ha), r_0_4 h.1, Option.bind_some, p_row1 hV.1, Option.bind_some, p_row2 hV.1 (by omega), Option.bind_some, p_isLoaded, Option.bind_some, if_neg (show ¬ gi M (37 + 5 + 3 * a) 2 = -1 from hl), if_neg (by decide)]
  rfl
theorem o_reloadN [gW0] (hI : cInv T M k m nx sz dn bq) (g : ¬ gdL M 37 i) : f_L_reload T M 0 i = some (-2000000097, M) := by
  unfold f_L_reload f_X8_reload
  rw [c_libN hI.1 g]
  rfl
end POD
