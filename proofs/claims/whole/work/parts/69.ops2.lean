/-! SHARE AND OFFERS -/
section POQ
variable {T : gT} {M M2 N N3 : gM} {k : Nat → Nat × Nat} {m C C' nx sz nx1 sz1 a : Nat} {i j e3 : Int32}
theorem sumN_m1 {f : Nat → Nat} {n : Nat} (hn : n ≤ 8) : sumN (fun i => if nI i = (-1 : Int32) then 0 else f i) n = sumN f n := sumN_ext (fun q hq => if_neg (nI_nneg (v := q) (by omega) (by decide)))
theorem o_setShare (hI : gInv T M k m C nx sz) : opA T M C (f_X8_setShare T M 0 i) (fun N => f_X9_setShare T N 311 i) (fun _ => 1) := by
  have hR := gInv_rel hI
  have h := hR.cl
  have hV := h.2.1
  by_cases gt : ¬ i < 0 ∧ ¬ (100 : Int32) < i
  · have hb : dIn 37 37 3 := dIn_hd (Or.inr (Or.inr rfl))
    obtain ⟨M1, c1, hX1, hd1, hs1, N, c2, c3⟩ := c_put (C' := C) (x := i) (y := i) hI hb (fun q hq => by
      rw [show dKp (si M 37 3 i) 37 q = dKp M 37 q from by show gi (si M 37 3 i) (37 + 5 + 3 * q) 1 = _; rw [gi_si, if_neg (by omega)]]
      exact hI.2.2.2.2.1 37 (Or.inr (Or.inl rfl)) q hq) (upShare hI.1)
    have hCN := c3.2.2.2.2.1
    have h12N := c3.2.2.2.2.2.2.2.2.2.2.2
    have e1N : dNl N 37 = dNl M 37 := by
      show (gi N 37 1).toNatClampNeg = _
      rw [h12N 37 1 (dIn_hd (Or.inl rfl)), gi_si, if_neg (by omega)]
    have e2N : dNn N 37 = dNn M 37 := by
      show (gi N 37 2).toNatClampNeg = _
      rw [h12N 37 2 (dIn_hd (Or.inr (Or.inl rfl))), gi_si, if_neg (by omega)]
    refine Or.inl ⟨nI (sumN (fun i => vCh (vW N 37 k m) N 37 (vBd (vW M 37 k m) M 37) i (dNn N 37)) (dNl N 37)), N, ?_, fun l => ?_⟩
    · unfold f_X8_setShare
      have hXs : gFx T (si M1 37 3 i) := gFx_gr hX1 (fun _ _ => rfl)
      rw [if_neg gt.1, if_pos (Int32.not_lt.mp gt.2), c1, Option.bind_some, r_0_4 hX1, Option.bind_some, r_0_5 hXs, Option.bind_some, r_0_4 hXs, Option.bind_some, c2, Option.bind_some, q_changedAll hCN c3.2.2.2.2.2.1 (w := vBd (vW M 37 k m) M 37) (fun a ha n hn => q_were hI c3 (by rw [← e1N]; exact ha) (by rw [← e2N]; exact hn)), Option.bind_some]
    · have hM := gMid_l c3 l
      obtain ⟨r0, t0, d0⟩ := m_mid hM
      obtain ⟨N1, N2, a1, a2, a3, a4, a5, a6⟩ := m_ch1 hM hV
      have hX1' : gFx T N1 := by
        obtain ⟨N1', b1, b2, -⟩ := m_rem hM
        rw [a1] at b1
        cases b1
        exact b2.1
      have hN3 := m_put a3 hb (Nat.le_refl C) (fun K hK _ _ => upShare hK)
      have hd3 : dSame (si N2 313 0 i) 37 N 37 := fun b j hd => by
        have hr := dIn_rng hd
        rw [show b - 37 + 37 = b by omega, gi_si, if_neg (by omega), a3.2.2.2.2.2.2.2.2.2.2 b j hd, h12N b j hd]
      obtain ⟨N4, b1, b2, b3, b4⟩ := m_ch2 (but := -1) (w := vBd (vW M 37 k m) M 37) hN3 hd3 hCN.2.1 (fun q hq n hn => by
        rw [gi_si, if_neg (by omega)]
        exact a4 q (by rw [← e1N]; exact hq) n (by rw [← e2N]; exact hn))
      rw [sumN_m1 hCN.2.1.2.1] at b1
      refine ⟨N4, ?_, by rw [b3, si_thr.1]; exact a5, by rw [b4, si_thr.2]; exact a6, k, m, _, _, b2⟩
      show f_X9_setShare T (N.1, l, N.2.2) 311 i = _
      unfold f_X9_setShare f_X9_setShare_21
      rw [p_X9_in, Option.bind_some, if_pos gt, if_pos (by decide), p_X9_fails0 t0, Option.bind_some, if_pos rfl, a1, Option.bind_some, a2, Option.bind_some, p_mdat (gMo_Fx a3.1), Option.bind_some, show ast T N2 313 (0 : Int32) i = some (si N2 313 0 i) from ast_ok (k := 0) (s_313 a3.1) (by omega) (by decide), Option.bind_some, b1, Option.bind_some]
  · refine opA_no hI (Nat.le_refl C) (c := 1) ?_ (fun M' r e => ?_)
    · unfold f_X8_setShare f_X8_setShare_10
      by_cases g0 : i < 0
      · rw [if_pos g0]
      · rw [if_neg g0, if_neg (fun q => gt ⟨g0, Int32.not_lt.mpr q⟩)]
    · obtain ⟨r0, d0, t0, f0⟩ := m_st r
      refine ⟨0, si (si M' 311 0 0) 311 0 1, ?_, m_fr1 f0, by rw [gi_si, if_pos ⟨rfl, rfl⟩]⟩
      show f_X9_setShare T M' 311 i = _
      unfold f_X9_setShare f_X9_setShare_21
      rw [p_X9_in, Option.bind_some, if_neg gt, if_neg (fun q => q rfl), p_X9_fails1 t0 (by decide), Option.bind_some, if_neg (show ¬ ((1 : Int32) = 0) by decide)]
/-- changeOffer of the class, put of the reference -/
theorem o_change {n0 : Nat} {x : Int32} (hI : gInv T M k m C nx sz) (ha : a < dNl M 37) (hn : n0 < dNn M 37) (hx : x = -1 ∨ (∃ v, v ≤ 9999 ∧ x = nI v) ∨ ∃ q, q < dNn M 37 ∧ x = -2 - nI q) : ∃ v N, f_X8_changeOffer T M 0 (nI a) (nI n0) x = some (v, N) ∧ ∀ l : Nat → Nat → Int64, gRel T (si (N.1, l, N.2.2) 311 0 0) (78 + 29 * nx) k m ∧ gi (si (N.1, l, N.2.2) 311 0 0) 311 0 = 0 ∧ dSame (si (N.1, l, N.2.2) 311 0 0) (78 + 29 * nx) M 37 ∧ ∃ N', f_X9_put T (si (N.1, l, N.2.2) 311 0 0) 311 (nI a) (nI n0) x = some (v, N') ∧ gi N' 311 0 = 0 ∧ gl N' 358 0 = l 358 0 ∧ ∃ k m nx sz, gInv T N' k m C nx sz := by
  have hR := gInv_rel hI
  have h := hR.cl
  have hV := h.2.1
  have h8 := hV.2.1
  have h12 := hV.2.2.1
  have ha8 : a < 8 := by omega
  have hb : dIn 37 (37 + 6 + 3 * a) n0 := dIn_off ha8 (by omega)
  have upo : ∀ K, gSlt T K 37 313 k m C → dNl K 37 = dNl M 37 → dNn K 37 = dNn M 37 → gSlt T (si (si K (37 + 6 + 3 * a) n0 x) 313 (6 + 24 * a + 12 + n0) x) 37 313 k m C := fun K hK _ e2 => upOffer ha8 (by rw [e2]; exact hn) (by rw [e2]; exact hx) hK
  obtain ⟨M1, c1, hX1, hd1, hs1, N, c2, c3⟩ := c_put (C' := C) (x := x) (y := x) hI hb (fun q hq => by
    rw [show dKp (si M (37 + 6 + 3 * a) n0 x) 37 q = dKp M 37 q from by show gi (si M (37 + 6 + 3 * a) n0 x) (37 + 5 + 3 * q) 1 = _; rw [gi_si, if_neg (by omega)]]
    exact hI.2.2.2.2.1 37 (Or.inr (Or.inl rfl)) q hq) (upo M hI.1 rfl rfl)
  have hCN := c3.2.2.2.2.1
  have hEN := c3.2.2.2.2.2.1
  have h12N := c3.2.2.2.2.2.2.2.2.2.2.2
  have e2N : dNn N 37 = dNn M 37 := by
    show (gi N 37 2).toNatClampNeg = _
    rw [h12N 37 2 (dIn_hd (Or.inr (Or.inl rfl))), gi_si, if_neg (by omega)]
  have hnN : n0 < dNn N 37 := by rw [e2N]; exact hn
  refine ⟨vWin (vW N 37 k m) N 37 n0, N, ?_, fun l => ?_⟩
  · unfold f_X8_changeOffer
    have hXs : gFx T (si M1 (37 + 6 + 3 * a) n0 x) := gFx_gr hX1 (fun _ _ => rfl)
    have hL := hd1.2.2.2 a ha8
    rw [c1, Option.bind_some, r_0_4 hX1, Option.bind_some, p_row1 hd1, Option.bind_some, p_row2 hd1 ha8, Option.bind_some, ldr_ok hL.2.2.1 hL.1.2.1, Option.bind_some, ast_ok hL.1.2.1 (show n0 < 12 by omega) (by decide), Option.bind_some, r_0_5 hXs, Option.bind_some, r_0_4 hXs, Option.bind_some, c2, Option.bind_some, r_0_5 c3.1, Option.bind_some, r_66_2 c3.1, Option.bind_some, ald_ok (s_69 c3.1) (by omega) (by decide), Option.bind_some, (hEN.2 n0 hnN).2.1]
  · have hM := gMid_l c3 l
    obtain ⟨r0, t0, d0⟩ := m_mid hM
    obtain ⟨N1, e1, e2, e3, e4⟩ := m_rem hM
    have hN3 := m_put e2 hb (Nat.le_refl C) upo
    obtain ⟨N4, f1, f2, f3, f4, f5⟩ := p_layAll (gInv_rel hN3)
    have hd3 : dSame (si N1 313 (6 + 24 * a + 12 + n0) x) 37 N 37 := fun b j hd => by
      have hr := dIn_rng hd
      rw [show b - 37 + 37 = b by omega, gi_si, if_neg (by omega), e2.2.2.2.2.2.2.2.2.2.2 b j hd, h12N b j hd]
    refine ⟨r0, t0, d0, N4, ?_, by rw [f2.2.2 311 0 (fun q => by omega), si_thr.1]; exact e3, by rw [f2.2.1 358 0 (by omega), si_thr.2, e4 358 0]; rfl, k, m, _, _, gInv_q hN3 (fr_mono f2 (fun b j q => Or.inl q))⟩
    unfold f_X9_put
    rw [e1, Option.bind_some, p_mdat (gMo_Fx e2.1), Option.bind_some, p_at, Option.bind_some, show (12 : Int32) = nI 12 from rfl, nI_add, nI_add, ast_ok (s_313 e2.1) (by omega) (by decide), Option.bind_some, f1, Option.bind_some, r_311_21 f3.1, Option.bind_some, ald_ok (s_329 f3.1) (by omega) (by decide), Option.bind_some, (f5 n0 (by rw [dNn_same hd3]; exact hnN)).1, vWin_same hd3 hCN.2.1 (by omega) (vW_two hCN.2.1 hd3)]
theorem o_lnN {cls : Option (Nat ⊕ (Int32 × gM))} {ref : gM → Option (Int32 × gM)} (hI : gInv T M k m C nx sz) (g : ¬ (gdL M 37 i ∧ gdN M 37 j)) (hc : ¬ (gdL M 37 i ∧ gdN M 37 j) → cls = some (.inl 2)) (hr : ∀ M', gRel T M' 37 k m → ¬ (gdL M' 37 i ∧ gdN M' 37 j) → mNo T M' (ref M')) : opA T M C cls ref cdx := opA_no hI (Nat.le_refl C) (c := 2) (hc g) (fun M' r e => by
  obtain ⟨v, N', h1, h2, h3⟩ := hr M' r (fun q => g ⟨(gdL_1 e).mp q.1, (gdN_1 e).mp q.2⟩)
  exact ⟨v, N', h1, h2, h3⟩)
/-- refused at the library or the name -/
theorem m_lnN2 (h : gRel T M 37 k m) (g : ¬ (gdL M 37 i ∧ gdN M 37 j)) {X Y Z : Int32 × gM → Option (Int32 × gM)} (hY : ∀ x, Y x = some (0, x.2)) (hZ : ∀ x, Z x = some (0, x.2)) : mNo T M ((f_X9_noLibrary T (si M 311 0 0) 311 i).bind fun x1 => if ¬ x1.1 = 0 then Y x1 else (f_X9_noName T x1.2 311 j).bind fun x3 => if ¬ x3.1 = 0 then Z x3 else X x3) := by
  obtain ⟨r, d, ht, f⟩ := m_st h
  by_cases g1 : gdL M 37 i
  · refine ⟨0, si (si M 311 0 0) 311 0 1, ?_, m_fr1 f, by rw [gi_si, if_pos ⟨rfl, rfl⟩]⟩
    rw [m_libY r ((gdL_same d).mpr g1) ht, Option.bind_some, if_neg (fun q => q rfl), m_namN r (fun q => g ⟨g1, (gdN_same d).mp q⟩) ht, Option.bind_some, if_pos (show ¬ ((1 : Int32) = 0) by decide), hZ]
  · refine ⟨0, si (si M 311 0 0) 311 0 1, ?_, m_fr1 f, by rw [gi_si, if_pos ⟨rfl, rfl⟩]⟩
    rw [m_libN r (fun q => g1 ((gdL_same d).mp q)) ht, Option.bind_some, if_pos (show ¬ ((1 : Int32) = 0) by decide), hY]
theorem o_offerValue (hI : gInv T M k m C nx sz) : opA T M C (f_X8_offerValue T M 0 i j e3) (fun N => f_X9_offerValue T N 311 i j e3) cdx := by
  have hR := gInv_rel hI
  have h := hR.cl
  by_cases g : gdL M 37 i ∧ gdN M 37 j
  · obtain ⟨a, ha, rfl⟩ := gdL_of h g.1
    obtain ⟨n0, hn, rfl⟩ := gdN_of h g.2
    by_cases gt : ¬ e3 < 0 ∧ ¬ (9999 : Int32) < e3
    · obtain ⟨t, ht, rfl⟩ := nI_of2 (M := 9999) (n := 9999) rfl gt.1 (Int32.not_lt.mp gt.2)
      obtain ⟨v, N, c1, c2⟩ := o_change hI ha hn (x := nI t) (Or.inr (Or.inl ⟨t, ht, rfl⟩))
      refine Or.inl ⟨v, N, ?_, fun l => ?_⟩
      · unfold f_X8_offerValue
        rw [c_libY h g.1, c_namY h g.2, if_neg gt.1, if_pos (Int32.not_lt.mp gt.2), c1, Option.bind_some]
      · obtain ⟨r0, t0, d0, N', d1, d2, d3, d4⟩ := c2 l
        refine ⟨N', ?_, d2, d3, d4⟩
        show f_X9_offerValue T (N.1, l, N.2.2) 311 (nI a) (nI n0) (nI t) = _
        unfold f_X9_offerValue f_X9_offerValue_38
        rw [m_libY r0 (i := nI a) ⟨g.1.1, by rw [dNl_same d0]; exact g.1.2⟩ t0, Option.bind_some, if_neg (fun q => q rfl), m_namY r0 (j := nI n0) ⟨g.2.1, by rw [dNn_same d0]; exact g.2.2⟩ t0, Option.bind_some, if_neg (fun q => q rfl), p_X9_in, Option.bind_some, if_pos gt, if_pos (by decide), p_X9_fails0 t0, Option.bind_some, if_pos rfl, d1, Option.bind_some]
    · refine opA_no hI (Nat.le_refl C) (c := 1) ?_ (fun M' r e => ?_)
      · unfold f_X8_offerValue f_X8_offerValue_21
        rw [c_libY h g.1, c_namY h g.2]
        by_cases g0 : e3 < 0
        · rw [if_pos g0]
        · rw [if_neg g0, if_neg (fun q => gt ⟨g0, Int32.not_lt.mpr q⟩)]
      · obtain ⟨r0, d0, t0, f0⟩ := m_st r
        refine ⟨0, si (si M' 311 0 0) 311 0 2, ?_, m_fr1 f0, by rw [gi_si, if_pos ⟨rfl, rfl⟩]; rfl⟩
        show f_X9_offerValue T M' 311 (nI a) (nI n0) e3 = _
        unfold f_X9_offerValue f_X9_offerValue_38 f_X9_offerValue_45
        rw [m_libY r0 ((gdL_same d0).mpr ((gdL_1 e).mpr g.1)) t0, Option.bind_some, if_neg (fun q => q rfl), m_namY r0 ((gdN_same d0).mpr ((gdN_1 e).mpr g.2)) t0, Option.bind_some, if_neg (fun q => q rfl), p_X9_in, Option.bind_some, if_neg gt, if_neg (fun q => q rfl), p_X9_fails1 t0 (by decide), Option.bind_some, if_neg (show ¬ ((1 : Int32) = 0) by decide)]
  · exact o_lnN hI g (fun g => c_lnN h g) (fun M' r g' => m_lnN2 r g' (fun _ => rfl) (fun _ => rfl))
theorem o_offerForward (hI : gInv T M k m C nx sz) : opA T M C (f_X8_offerForward T M 0 i j e3) (fun N => f_X9_offerForward T N 311 i j e3) cdx := by
  have hR := gInv_rel hI
  have h := hR.cl
  by_cases g : gdL M 37 i ∧ gdN M 37 j
  · obtain ⟨a, ha, rfl⟩ := gdL_of h g.1
    obtain ⟨n0, hn, rfl⟩ := gdN_of h g.2
    by_cases gt : gdN M 37 e3
    · obtain ⟨t, ht, rfl⟩ := gdN_of h gt
      obtain ⟨v, N, c1, c2⟩ := o_change hI ha hn (x := -2 - nI t) (Or.inr (Or.inr ⟨t, ht, rfl⟩))
      refine Or.inl ⟨v, N, ?_, fun l => ?_⟩
      · unfold f_X8_offerForward
        rw [c_libY h g.1, c_namY h g.2, c_namY h gt, c1, Option.bind_some]
      · obtain ⟨r0, t0, d0, N', d1, d2, d3, d4⟩ := c2 l
        refine ⟨N', ?_, d2, d3, d4⟩
        show f_X9_offerForward T (N.1, l, N.2.2) 311 (nI a) (nI n0) (nI t) = _
        unfold f_X9_offerForward
        rw [m_libY r0 (i := nI a) ⟨g.1.1, by rw [dNl_same d0]; exact g.1.2⟩ t0, Option.bind_some, if_neg (fun q => q rfl), m_namY r0 (j := nI n0) ⟨g.2.1, by rw [dNn_same d0]; exact g.2.2⟩ t0, Option.bind_some, if_neg (fun q => q rfl), m_namY r0 (j := nI t) ⟨gt.1, by rw [dNn_same d0]; exact gt.2⟩ t0, Option.bind_some, if_pos rfl, d1, Option.bind_some]
    · refine opA_no hI (Nat.le_refl C) (c := 2) ?_ (fun M' r e => ?_)
      · unfold f_X8_offerForward
        rw [c_libY h g.1, c_namY h g.2, c_namN h gt]
      · obtain ⟨r0, d0, t0, f0⟩ := m_st r
        refine ⟨0, si (si M' 311 0 0) 311 0 1, ?_, m_fr1 f0, by rw [gi_si, if_pos ⟨rfl, rfl⟩]; rfl⟩
        show f_X9_offerForward T M' 311 (nI a) (nI n0) e3 = _
        unfold f_X9_offerForward f_X9_offerForward_29
        rw [m_libY r0 ((gdL_same d0).mpr ((gdL_1 e).mpr g.1)) t0, Option.bind_some, if_neg (fun q => q rfl), m_namY r0 ((gdN_same d0).mpr ((gdN_1 e).mpr g.2)) t0, Option.bind_some, if_neg (fun q => q rfl), m_namN r0 (fun q => gt ((gdN_1 e).mp ((gdN_same d0).mp q))) t0, Option.bind_some, if_neg (show ¬ ((1 : Int32) = 0) by decide)]
  · exact o_lnN hI g (fun g => c_lnN h g) (fun M' r g' => m_lnN2 r g' (fun _ => rfl) (fun _ => rfl))
theorem o_withdraw (hI : gInv T M k m C nx sz) : opA T M C (f_X8_withdraw T M 0 i j) (fun N => f_X9_withdraw T N 311 i j) cdx := by
  have hR := gInv_rel hI
  have h := hR.cl
  have h8 := h.2.1.2.1
  have h12 := h.2.1.2.2.1
  by_cases g : gdL M 37 i ∧ gdN M 37 j
  · obtain ⟨a, ha, rfl⟩ := gdL_of h g.1
    obtain ⟨n0, hn, rfl⟩ := gdN_of h g.2
    by_cases gt : dOf M 37 a n0 = -1
    · refine opA_no hI (Nat.le_refl C) (c := 3) ?_ (fun M' r e => ?_)
      · unfold f_X8_withdraw
        rw [c_libY h g.1, c_namY h g.2, r_0_4 h.1, Option.bind_some, p_row1 h.2.1.1, Option.bind_some, p_row2 h.2.1.1 (by omega), Option.bind_some, p_hasOffer h.2.1.1 (by omega) (by omega), Option.bind_some, if_pos gt, if_neg (fun q => q rfl)]
      · obtain ⟨r0, d0, t0, f0⟩ := m_st r
        have gN : gdL M' 37 (nI a) := (gdL_1 e).mpr g.1
        have eof : dOf (si M' 311 0 0) 37 a n0 = -1 := by
          rw [d0.off (by omega) (by omega)]
          show M'.1 _ _ = _
          rw [e]
          exact gt
        have eN : a < dNl (si M' 311 0 0) 37 := by
          have := ((gdL_same d0).mpr gN).2
          have h9 := r0.2.1.2.1
          exact (nI_ltI (by omega) (by omega)).mp this
        refine ⟨0, si (si M' 311 0 0) 311 0 2, ?_, m_fr1 f0, by rw [gi_si, if_pos ⟨rfl, rfl⟩]; rfl⟩
        show f_X9_withdraw T M' 311 (nI a) (nI n0) = _
        unfold f_X9_withdraw f_X9_withdraw_45 f_X9_withdraw_52
        rw [m_libY r0 ((gdL_same d0).mpr gN) t0, Option.bind_some, if_neg (fun q => q rfl), m_namY r0 ((gdN_same d0).mpr ((gdN_1 e).mpr g.2)) t0, Option.bind_some, if_neg (fun q => q rfl), p_mdat (gMo_Fx r0.1), Option.bind_some, p_at, Option.bind_some, show (12 : Int32) = nI 12 from rfl, nI_add, nI_add, p_mald (gMo_Fx r0.1) (by omega), Option.bind_some, (r0.2.2.1.2.2.2 a eN).2.2.2.2.1 n0 (by omega), if_neg (fun q => q eof), p_X9_fails1 t0 (by decide), Option.bind_some, if_neg (show ¬ ((1 : Int32) = 0) by decide)]
    · obtain ⟨v, N, c1, c2⟩ := o_change hI ha hn (x := -1) (Or.inl rfl)
      refine Or.inl ⟨v, N, ?_, fun l => ?_⟩
      · unfold f_X8_withdraw
        rw [c_libY h g.1, c_namY h g.2, r_0_4 h.1, Option.bind_some, p_row1 h.2.1.1, Option.bind_some, p_row2 h.2.1.1 (by omega), Option.bind_some, p_hasOffer h.2.1.1 (by omega) (by omega), Option.bind_some, if_neg gt, if_pos (by decide), c1, Option.bind_some]
      · obtain ⟨r0, t0, d0, N', d1, d2, d3, d4⟩ := c2 l
        refine ⟨N', ?_, d2, d3, d4⟩
        show f_X9_withdraw T (N.1, l, N.2.2) 311 (nI a) (nI n0) = _
        unfold f_X9_withdraw f_X9_withdraw_45
        rw [m_libY r0 (i := nI a) ⟨g.1.1, by rw [dNl_same d0]; exact g.1.2⟩ t0, Option.bind_some, if_neg (fun q => q rfl), m_namY r0 (j := nI n0) ⟨g.2.1, by rw [dNn_same d0]; exact g.2.2⟩ t0, Option.bind_some, if_neg (fun q => q rfl), p_mdat (gMo_Fx r0.1), Option.bind_some, p_at, Option.bind_some, show (12 : Int32) = nI 12 from rfl, nI_add, nI_add, p_mald (gMo_Fx r0.1) (by omega), Option.bind_some, (r0.2.2.1.2.2.2 a (by rw [dNl_same d0]; exact ha)).2.2.2.2.1 n0 (by omega), d0.off (by omega) (by omega), if_pos gt, p_X9_fails0 t0, Option.bind_some, if_pos rfl, d1, Option.bind_some]
  · exact o_lnN hI g (fun g => c_lnN h g) (fun M' r g' => m_lnN2 r g' (fun _ => rfl) (fun _ => rfl))
end POQ
