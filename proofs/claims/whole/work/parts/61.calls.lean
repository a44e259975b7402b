/-! CALLS, STEPS, LIBRARY, CHECKSUM: both sides -/
theorem gcase_inr {α β δ : Type} {b : β} {f : α → Option δ} {g : β → Option δ} : gcase (.inr b) f g = g b := rfl
section PCS
variable {T : gT} {M N : gM} {D : Nat} {k : Nat → Nat × Nat} {m n a : Nat} {i j : Int32} {W W' : Nat → Nat}
theorem vGo_same (hd : dSame N D M D) (hV : gVal T M D) (hW : ∀ i, i < dNl M D → W' i = W i) : ∀ (f : Nat) (V : Nat → Bool) (c n l : Nat), c < dNl M D → n < dNn M D → vGo W' N D f V c n l = vGo W M D f V c n l
  | 0, V, c, n, l, _, _ => rfl
  | f + 1, V, c, n, l, hc, hn => by
    have h8 := hV.2.1
    have h12 := hV.2.2.1
    unfold vGo
    rw [vBd_same hd hV hc (by omega) hW]
    by_cases h1 : V (12 * c + n) = true
    · rw [if_pos h1, if_pos h1]
    · rw [if_neg h1, if_neg h1]
      by_cases hno : vBd W M D c n = -1
      · rw [if_pos hno, if_pos hno]
      · obtain ⟨b, hb, e1, e2⟩ := vBd_ok hV hc hno
        have ecl : (vBd W M D c n).toNatClampNeg = b := by rw [e1]; exact nI_clamp (by omega)
        rw [if_neg hno, if_neg hno, ecl, hd.off (show b < 8 by omega) (show n < 12 by omega)]
        rcases vOf_ok hV hb (show n < 12 by omega) e2 with ⟨v, hv9, ev⟩ | ⟨q, hq, ev⟩
        · rw [ev, if_pos (nI_pos (by omega)), if_pos (nI_pos (by omega))]
        · obtain ⟨w1, w2, w3⟩ := fw_sub q (by omega)
          rw [ev, if_neg (fun z => z w2), if_neg (fun z => z w2), w1, nI_clamp (by omega)]
          exact vGo_same hd hV hW f _ b q (l + 1) hb hq
theorem vCal_same (hd : dSame N D M D) (hV : gVal T M D) (hW : ∀ i, i < dNl M D → W' i = W i) (ha : a < dNl M D) (hn : n < dNn M D) : vCal W' N D a n = vCal W M D a n := vGo_same hd hV hW 96 _ a n 0 ha hn
theorem q_calY (h : gCls T M k m) (hE : gEl M k m) (ha : a < dNl M 37) (hn : n < dNn M 37) : ∃ N, f_X8_call T M 0 (nI a) (nI n) = some (.inr ((vCal (vW M 37 k m) M 37 a n).1, N)) ∧ fr (fun b _ => b = 74 ∨ b = 75) M N := by
  obtain ⟨N, c1, c2, c3, c4⟩ := p_folC h (fun n hn i hi => ((hE.2 n hn).2.2.2 i hi).2.2) ha hn
  unfold f_X8_call
  rw [c_libY h (gdL_nI h ha), c_namY h (gdN_nI h hn), r_0_6 h.1, Option.bind_some, r_0_4 h.1, Option.bind_some, r_0_5 h.1, Option.bind_some, c1, Option.bind_some, r_0_6 (gFx_fr h.1 c2), Option.bind_some, c3]
  exact ⟨N, rfl, c2⟩
theorem q_steY (h : gCls T M k m) (hE : gEl M k m) (ha : a < dNl M 37) (hn : n < dNn M 37) : ∃ N, f_X8_steps T M 0 (nI a) (nI n) = some (.inr (nI (vCal (vW M 37 k m) M 37 a n).2, N)) ∧ fr (fun b _ => b = 74 ∨ b = 75) M N := by
  obtain ⟨N, c1, c2, c3, c4⟩ := p_folC h (fun n hn i hi => ((hE.2 n hn).2.2.2 i hi).2.2) ha hn
  unfold f_X8_steps
  rw [c_libY h (gdL_nI h ha), c_namY h (gdN_nI h hn), r_0_6 h.1, Option.bind_some, r_0_4 h.1, Option.bind_some, r_0_5 h.1, Option.bind_some, c1, Option.bind_some, r_0_6 (gFx_fr h.1 c2), Option.bind_some, c4]
  exact ⟨N, rfl, c2⟩
theorem q_calN (h : gCls T M k m) (g : ¬ (gdL M 37 i ∧ gdN M 37 j)) : f_X8_call T M 0 i j = some (.inl 2) := c_lnN h g
theorem q_steN (h : gCls T M k m) (g : ¬ (gdL M 37 i ∧ gdN M 37 j)) : f_X8_steps T M 0 i j = some (.inl 2) := c_lnN h g
theorem m_calY (h : gRel T M D k m) (ha : a < dNl M D) (hn : n < dNn M D) : mYes M (f_X9_call T M 311 (nI a) (nI n)) (vCal (vW M D k m) M D a n).1 := by
  have h8 := h.2.1.2.1
  have h12 := h.2.1.2.2.1
  obtain ⟨N, c1, c2, c3, c4, c5, c6⟩ := m_miss0 h (gdL_nR h ha) (gdN_nR h hn)
  obtain ⟨N', d1, d2, d3⟩ := p_folM (W := vW M D k m) c4 (fun n hn i hi => by
    rw [dNn_same c5] at hn
    rw [dNl_same c5] at hi
    rw [((c6 n hn).2 i hi).2]
    exact (vBd_same c5 h.2.1 hi (by omega) (fun _ _ => rfl)).symm) (i := a) (n := n) (by rw [dNl_same c5]; exact ha) (by rw [dNn_same c5]; exact hn)
  rw [vCal_same c5 h.2.1 (fun _ _ => rfl) ha hn] at d1
  refine ⟨N', ?_, fr_trans c2 (fr_mono d2 (fun b j q => by unfold qA; omega)), by rw [d2.2.2 311 0 (fun q => by omega)]; exact c3⟩
  unfold f_X9_call
  rw [c1, Option.bind_some, if_pos rfl, d1, Option.bind_some]
theorem m_steY (h : gRel T M D k m) (ha : a < dNl M D) (hn : n < dNn M D) : mYes M (f_X9_steps T M 311 (nI a) (nI n)) (nI (vCal (vW M D k m) M D a n).2) := by
  have h8 := h.2.1.2.1
  have h12 := h.2.1.2.2.1
  obtain ⟨N, c1, c2, c3, c4, c5, c6⟩ := m_miss0 h (gdL_nR h ha) (gdN_nR h hn)
  obtain ⟨N', d1, d2, d3⟩ := p_folM (W := vW M D k m) c4 (fun n hn i hi => by
    rw [dNn_same c5] at hn
    rw [dNl_same c5] at hi
    rw [((c6 n hn).2 i hi).2]
    exact (vBd_same c5 h.2.1 hi (by omega) (fun _ _ => rfl)).symm) (i := a) (n := n) (by rw [dNl_same c5]; exact ha) (by rw [dNn_same c5]; exact hn)
  rw [vCal_same c5 h.2.1 (fun _ _ => rfl) ha hn] at d1 d3
  refine ⟨N', ?_, fr_trans c2 (fr_mono d2 (fun b j q => by unfold qA; omega)), by rw [d2.2.2 311 0 (fun q => by omega)]; exact c3⟩
  unfold f_X9_steps
  rw [c1, Option.bind_some, if_pos rfl, d1, Option.bind_some, d3]
/-- told: only the stack of longs is written -/
theorem m_told (h : gRel T M D k m) (ha : a < dNl M D) {w : Nat} (hw : w < 6) : ∃ N, f_X9_told T M 311 (nI a) (nI w) = some (vTl M D k m a w, N) ∧ fr (fun _ _ => False) M N := by
  have h8 := h.2.1.2.1
  have hM := gMo_Fx h.1
  have hE := h.2.2.1.2.2.2 a ha
  unfold f_X9_told vTl
  rcases (show w = 0 ∨ w = 1 ∨ w = 2 ∨ w = 3 ∨ w = 4 ∨ w = 5 by omega) with rfl | rfl | rfl | rfl | rfl | rfl
  · rw [if_neg (by decide), p_mdat hM, Option.bind_some, p_at, Option.bind_some, nI_add, p_mald hM (by omega), Option.bind_some, Nat.add_zero, hE.1]
    exact ⟨M, rfl, fr_refl⟩
  · rw [if_neg (by decide), p_mdat hM, Option.bind_some, p_at, Option.bind_some, nI_add, p_mald hM (by omega), Option.bind_some, hE.2.1]
    exact ⟨M, rfl, fr_refl⟩
  · rw [if_pos (by decide), if_neg (fun q => q rfl), p_mRank hM h.2.1 h.2.2.1 ha, Option.bind_some]
    exact ⟨M, rfl, fr_refl⟩
  · rw [if_pos (by decide), if_pos (by decide), if_neg (fun q => q rfl), p_mOffers hM h.2.1 h.2.2.1 ha, Option.bind_some]
    exact ⟨M, rfl, fr_refl⟩
  · rw [if_pos (by decide), if_pos (by decide), if_pos (by decide), if_neg (fun q => q rfl), p_mdat hM, Option.bind_some, p_at, Option.bind_some, show (3 : Int32) = nI 3 from rfl, nI_add, p_mald hM (by omega), Option.bind_some, hE.2.2.1]
    exact ⟨M, rfl, fr_refl⟩
  · obtain ⟨l, c1, c2⟩ := p_X9_weightOf h.1 h.2.1 h.2.2.1 ha h.2.2.2.2.1 h.2.2.2.2.2.1 h.2.2.2.2.2.2.1
    rw [if_pos (by decide), if_pos (by decide), if_pos (by decide), if_pos (by decide), c1, Option.bind_some]
    exact ⟨_, rfl, fun _ _ => rfl, c2, fun _ _ _ => rfl⟩
theorem m_tellY (h : gRel T M D k m) (ha : a < dNl M D) {w : Nat} (hw : w < 6) : mYes M (f_X9_library T M 311 (nI a) (nI w)) (vTl M D k m a w) := by
  have h8 := h.2.1.2.1
  obtain ⟨r, d, ht, f⟩ := m_st h
  obtain ⟨N, c1, c2⟩ := m_told r (by rw [dNl_same d]; exact ha) hw
  have e : vTl (si M 311 0 0) D k m a w = vTl M D k m a w := by
    have hrk : dRk (si M 311 0 0) D a = dRk M D a := dRk_same d (by omega)
    unfold vTl
    rw [hrk, show dTr (si M 311 0 0) D a = dTr M D a from dTr_same d (by omega), show dKp (si M 311 0 0) D a = dKp M D a from dKp_same d (by omega), show dPn (si M 311 0 0) D a = dPn M D a from d.lib (by omega) (Or.inr (Or.inr (Or.inr rfl))), vW_same h d a ha, cntN_ext (fun q hq => by rw [show dOf (si M 311 0 0) D a q = dOf M D a q from d.off (by omega) hq])]
  refine ⟨N, ?_, fr_trans f (fr_mono c2 (fun _ _ q => q.elim)), by rw [c2.2.2 311 0 (fun q => q)]; exact ht⟩
  unfold f_X9_library f_X9_library_28
  rw [m_libY r ((gdL_same d).mpr (gdL_nR h ha)) ht, Option.bind_some, if_neg (fun q => q rfl), p_X9_in, Option.bind_some, if_pos (show ¬ nI w < 0 ∧ ¬ (5 : Int32) < nI w from ⟨nI_pos (by omega), nI_nlt (a := 5) (by omega) (by decide)⟩), if_pos (by decide), p_X9_fails0 ht, Option.bind_some, if_pos rfl, c1, Option.bind_some, e]
theorem m_tellN (h : gRel T M D k m) (g : ¬ gdL M D i) : mNo T M (f_X9_library T M 311 i j) := by
  obtain ⟨r, d, ht, f⟩ := m_st h
  refine ⟨0, si (si M 311 0 0) 311 0 1, ?_, m_fr1 f, by rw [gi_si, if_pos ⟨rfl, rfl⟩]⟩
  unfold f_X9_library f_X9_library_35
  rw [m_libN r (fun q => g ((gdL_same d).mp q)) ht, Option.bind_some, if_pos (show ¬ ((1 : Int32) = 0) by decide)]
/-- refused for a second reason -/
def mNo2 (T : gT) (M : gM) (r : Option (Int32 × gM)) : Prop := ∃ v N, r = some (v, N) ∧ fr qA M N ∧ gi N 311 0 = 2
theorem m_tellW (h : gRel T M D k m) (ha : a < dNl M D) (g : ¬ (¬ j < 0 ∧ ¬ (5 : Int32) < j)) : mNo2 T M (f_X9_library T M 311 (nI a) j) := by
  obtain ⟨r, d, ht, f⟩ := m_st h
  refine ⟨0, si (si M 311 0 0) 311 0 2, ?_, m_fr1 f, by rw [gi_si, if_pos ⟨rfl, rfl⟩]⟩
  unfold f_X9_library f_X9_library_28 f_X9_library_35
  rw [m_libY r ((gdL_same d).mpr (gdL_nR h ha)) ht, Option.bind_some, if_neg (fun q => q rfl), p_X9_in, Option.bind_some, if_neg g, if_neg (fun q => q rfl), p_X9_fails1 ht (by decide), Option.bind_some, if_neg (show ¬ ((1 : Int32) = 0) by decide)]
/-! the checksum -/
def ck6 (v : Int64) (g : Nat → Int32) : Nat → Int64
  | 0 => v
  | w + 1 => (31 : Int64) * ck6 v g w + (g w).toInt64
def ckN (v : Int64) (o b c : Nat → Int32) : Nat → Int64
  | 0 => v
  | n + 1 => (31 : Int64) * ((31 : Int64) * ((31 : Int64) * ckN v o b c n + (o n).toInt64) + (b n).toInt64) + (c n).toInt64
def ckL (M : gM) (D : Nat) (k : Nat → Nat × Nat) (m : Nat) : Nat → Int64
  | 0 => (gi M D 3).toInt64
  | i + 1 => ckN (ck6 (ckL M D k m i) (vTl M D k m i) 6) (dOf M D i) (vBd (vW M D k m) M D i) (fun n => (vCal (vW M D k m) M D i n).1) (dNn M D)
theorem vTl_same (hV : gVal T M D) (hd : dSame N D M D) (ha : a < dNl M D) : vTl N D k m a = vTl M D k m a := by
  have h8 := hV.2.1
  funext w
  unfold vTl
  rw [show dRk N D a = dRk M D a from dRk_same hd (by omega), show dTr N D a = dTr M D a from dTr_same hd (by omega), show dKp N D a = dKp M D a from dKp_same hd (by omega), show dPn N D a = dPn M D a from hd.lib (by omega) (Or.inr (Or.inr (Or.inr rfl))), vW_sameV hV hd a ha, cntN_ext (fun q hq => by rw [show dOf N D a q = dOf M D a q from hd.off (by omega) hq])]
theorem gEl_fr (h : gCls T M k m) (hE : gEl M k m) {S : Nat → Nat → Prop} (hF : fr S M N) (hS : ∀ b j, S b j → eA b ∧ ¬ (67 ≤ b ∧ b ≤ 73)) : gEl N k m := by
  obtain ⟨hN, hd⟩ := gCls_fr h hF (fun b j q => (hS b j q).1)
  have hW := vW_sameC h hd
  have h8 := h.2.1.2.1
  have h12 := h.2.1.2.2.1
  have hg : ∀ b j, 67 ≤ b → b ≤ 73 → gi N b j = gi M b j := fun b j h1 h2 => hF.2.2 b j (fun q => (hS b j q).2 ⟨h1, h2⟩)
  refine ⟨fun j hj => ?_, fun n hn => ?_⟩
  · rw [dNl_same hd] at hj
    rw [hg 67 j (by omega) (by omega), hE.1 j hj, dRk_same hd (by omega), hW j hj]
  · rw [dNn_same hd] at hn
    refine gElN_same hd h.2.1 (by omega) hW ?_
    obtain ⟨e1, e2, e3, e4⟩ := hE.2 n hn
    refine ⟨by rw [hg _ _ (by omega) (by omega)]; exact e1, by rw [hg _ _ (by omega) (by omega)]; exact e2, by rw [hg _ _ (by omega) (by omega)]; exact e3, fun i hi => ?_⟩
    obtain ⟨g1, g2, g3⟩ := e4 i hi
    exact ⟨by rw [hg _ _ (by omega) (by omega)]; exact g1, by rw [hg _ _ (by omega) (by omega)]; exact g2, by rw [hg _ _ (by omega) (by omega)]; exact g3⟩
theorem q_checksum (h : gCls T M k m) (hE : gEl M k m) : ∃ N, f_X8_checksum T M 0 = some (ckL M 37 k m (dNl M 37), N) ∧ fr (fun b _ => b = 74 ∨ b = 75) M N := by
  have h8 := h.2.1.2.1
  have h12 := h.2.1.2.2.1
  have hn1 := h.2.1.2.2.2.1
  have hn2 := h.2.1.2.2.2.2.1
  have hS : ∀ b j : Nat, (fun (b _ : Nat) => b = 74 ∨ b = 75) b j → eA b ∧ ¬ (67 ≤ b ∧ b ≤ 73) := fun b j q => ⟨Or.inl (by omega), by omega⟩
  unfold f_X8_checksum f_X8_share
  rw [r_0_4 h.1, Option.bind_some, Option.bind_some]
  have hL : ∃ e, gloop (fun x => f_X8_checksum_B8 T x.2.2 0 x.1 x.2.1) gFU ((gi M 37 3).toInt64, (0 : Int32), M) = some e ∧ (e.1 = ckL M 37 k m (dNl M 37) ∧ fr (fun b _ => b = 74 ∨ b = 75) M e.2) := by
    refine gloop_ex (P := fun t y => y.1 = ckL M 37 k m t ∧ y.2.1 = nI t ∧ t ≤ dNl M 37 ∧ fr (fun b _ => b = 74 ∨ b = 75) M y.2.2) (fu := gFU) (dNl M 37) (Nat.lt_of_le_of_lt h8 (by decide)) ⟨rfl, rfl, Nat.zero_le _, fr_refl⟩ (fun t y _ hP => ?_)
    obtain ⟨y1, y2, N⟩ := y
    obtain ⟨rfl, rfl, ht, hF⟩ := hP
    dsimp only at hF
    obtain ⟨hN, hd⟩ := gCls_fr h hF (fun b j q => (hS b j q).1)
    have hEN := gEl_fr h hE hF hS
    show (∃ e, f_X8_checksum_B8 T N 0 (ckL M 37 k m t) (nI t) = some (.inl e) ∧ _) ∨ _
    unfold f_X8_checksum_B8
    rw [r_0_4 hN.1, Option.bind_some, show gi N 37 1 = nI (dNl M 37) from (hd.hd (Or.inl rfl)).trans hn1]
    by_cases e : t = dNl M 37
    · rw [if_pos (nI_le (by omega) (by omega))]
      subst e
      exact Or.inl ⟨_, rfl, rfl, hF⟩
    · have hlt : t < dNl M 37 := by omega
      have htN : t < dNl N 37 := by rw [dNl_same hd]; exact hlt
      rw [if_neg (nI_ge hlt (by omega))]
      have h6 := gloop_for (B := fun x => f_X8_checksum_B22 T N 0 x.1 (nI t) x.2) (fu := gFU) (e := ck6 (ckL M 37 k m t) (vTl M 37 k m t) 6) (fun w => (ck6 (ckL M 37 k m t) (vTl M 37 k m t) w, nI w)) 6 (by decide) (fun w hw => by
        show f_X8_checksum_B22 T N 0 _ (nI t) (nI w) = some (.inr (_, nI (w + 1)))
        unfold f_X8_checksum_B22
        rw [if_neg (show ¬ ((5 : Int32) < nI w) from nI_nlt (a := 5) (by omega) (by decide)), q_libY hN hEN htN hw, Option.bind_some, vTl_same h.2.1 hd hlt, nI_1]
        rfl) (by
        show f_X8_checksum_B22 T N 0 _ (nI t) (nI 6) = _
        unfold f_X8_checksum_B22
        rw [if_pos (by decide)])
      rw [show (gloop (fun x => f_X8_checksum_B22 T N 0 x.1 (nI t) x.2) gFU (ckL M 37 k m t, (0 : Int32))) = _ from h6, Option.bind_some]
      generalize hv6 : ck6 (ckL M 37 k m t) (vTl M 37 k m t) 6 = v6
      have hL2 : ∃ e, gloop (fun x => f_X8_checksum_B52 T x.2.2 0 x.1 (nI t) x.2.1) gFU (v6, (0 : Int32), N) = some e ∧ (e.1 = ckN v6 (dOf M 37 t) (vBd (vW M 37 k m) M 37 t) (fun n => (vCal (vW M 37 k m) M 37 t n).1) (dNn M 37) ∧ fr (fun b _ => b = 74 ∨ b = 75) M e.2) := by
        refine gloop_ex (P := fun s y => y.1 = ckN v6 (dOf M 37 t) (vBd (vW M 37 k m) M 37 t) (fun n => (vCal (vW M 37 k m) M 37 t n).1) s ∧ y.2.1 = nI s ∧ s ≤ dNn M 37 ∧ fr (fun b _ => b = 74 ∨ b = 75) M y.2.2) (fu := gFU) (dNn M 37) (Nat.lt_of_le_of_lt h12 (by decide)) ⟨rfl, rfl, Nat.zero_le _, hF⟩ (fun s y _ hP => ?_)
        obtain ⟨y1, y2, K⟩ := y
        obtain ⟨rfl, rfl, hs, hFK⟩ := hP
        dsimp only at hFK
        obtain ⟨hK, hdK⟩ := gCls_fr h hFK (fun b j q => (hS b j q).1)
        have hEK := gEl_fr h hE hFK hS
        show (∃ e, f_X8_checksum_B52 T K 0 _ (nI t) (nI s) = some (.inl e) ∧ _) ∨ _
        unfold f_X8_checksum_B52
        rw [r_0_4 hK.1, Option.bind_some, show gi K 37 2 = nI (dNn M 37) from (hdK.hd (Or.inr (Or.inl rfl))).trans hn2]
        by_cases e2 : s = dNn M 37
        · rw [if_pos (nI_le (by omega) (by omega))]
          subst e2
          exact Or.inl ⟨_, rfl, rfl, hFK⟩
        · have hsl : s < dNn M 37 := by omega
          have htK : t < dNl K 37 := by rw [dNl_same hdK]; exact hlt
          have hsK : s < dNn K 37 := by rw [dNn_same hdK]; exact hsl
          obtain ⟨K', c1, c2⟩ := q_calY hK hEK htK hsK
          rw [if_neg (nI_ge hsl (by omega)), q_offY hK htK hsK, Option.bind_some]
          rw [gcase_inr]
          rw [q_bndY hK hEK htK hsK, Option.bind_some]
          rw [gcase_inr]
          rw [c1, Option.bind_some, gcase_inr]
          refine Or.inr ⟨hsl, _, rfl, ?_, by rw [nI_1], hsl, fr_trans hFK c2⟩
          show (31 : Int64) * ((31 : Int64) * ((31 : Int64) * _ + (dOf K 37 t s).toInt64) + (vBd (vW K 37 k m) K 37 t s).toInt64) + ((vCal (vW K 37 k m) K 37 t s).1).toInt64 = _
          rw [show dOf K 37 t s = dOf M 37 t s from hdK.off (by omega) (by omega), vBd_same hdK h.2.1 hlt (by omega) (vW_sameC h hdK), vCal_same hdK h.2.1 (vW_sameC h hdK) hlt hsl]
          rfl
      obtain ⟨e2, c1, c2, c3⟩ := hL2
      rw [c1, Option.bind_some]
      refine Or.inr ⟨hlt, _, rfl, ?_, by rw [nI_1], hlt, c3⟩
      show e2.1 = _
      rw [c2, ← hv6]
      rfl
  obtain ⟨e, c1, c2, c3⟩ := hL
  rw [c1, Option.bind_some]
  exact ⟨e.2, by rw [c2], c3⟩
theorem m_checksum (h : gRel T M D k m) : ∃ N, f_X9_checksum T M 311 = some (ckL M D k m (dNl M D), N) ∧ fr qA M N := by
  have h8 := h.2.1.2.1
  have h12 := h.2.1.2.2.1
  obtain ⟨N0, c1, c2, c3, c4, c5, c6⟩ := m_lay0 h
  have e0 : gi N0 313 0 = gi M D 3 := c4.2.2.1.1.trans (c5.hd (Or.inr (Or.inr rfl)))
  unfold f_X9_checksum
  rw [c1, Option.bind_some, p_mdat (gMo_Fx c4.1), Option.bind_some, a313_0 c4.1, Option.bind_some, e0]
  have hB : ∀ K, fr (fun b j => b = 357 ∨ (b = 311 ∧ j = 26)) N0 K → gRel T K D k m ∧ dSame K D M D ∧ ∀ n, n < dNn M D → ∀ i, i < dNl M D → gi K (340 + i) n = vBd (vW M D k m) M D i n := fun K hK => by
    have f2 : fr qA M K := fr_trans c2 (fr_mono hK (fun b j q => by unfold qA; omega))
    obtain ⟨r, d⟩ := gRel_fr h f2 (fun b j q => qA_eA b j q)
    refine ⟨r, d, fun n hn i hi => ?_⟩
    rw [hK.2.2 _ _ (fun q => by omega)]
    exact ((c6 n hn).2 i hi).2
  have hL : ∃ e, gloop (fun x => f_X9_checksum_B19 T x.2.2 311 x.1 x.2.1) gFU ((gi M D 3).toInt64, (0 : Int32), N0) = some e ∧ (e.1 = ckL M D k m (dNl M D) ∧ fr (fun b j => b = 357 ∨ (b = 311 ∧ j = 26)) N0 e.2) := by
    refine gloop_ex (P := fun t y => y.1 = ckL M D k m t ∧ y.2.1 = nI t ∧ t ≤ dNl M D ∧ fr (fun b j => b = 357 ∨ (b = 311 ∧ j = 26)) N0 y.2.2) (fu := gFU) (dNl M D) (Nat.lt_of_le_of_lt h8 (by decide)) ⟨rfl, rfl, Nat.zero_le _, fr_refl⟩ (fun t y _ hP => ?_)
    obtain ⟨y1, y2, N⟩ := y
    obtain ⟨rfl, rfl, ht, hF⟩ := hP
    dsimp only at hF
    obtain ⟨hN, hd, -⟩ := hB N hF
    have hl := g313_1 hN
    rw [dNl_same hd] at hl
    show (∃ e, f_X9_checksum_B19 T N 311 (ckL M D k m t) (nI t) = some (.inl e) ∧ _) ∨ _
    unfold f_X9_checksum_B19
    rw [p_mdat (gMo_Fx hN.1), Option.bind_some, a313_1 hN.1, Option.bind_some, hl]
    by_cases e : t = dNl M D
    · rw [if_pos (nI_le (by omega) (by omega))]
      subst e
      exact Or.inl ⟨_, rfl, rfl, hF⟩
    · have hlt : t < dNl M D := by omega
      rw [if_neg (nI_ge hlt (by omega))]
      have h6 : ∃ e, gloop (fun x => f_X9_checksum_B32 T x.2.2 311 x.1 (nI t) x.2.1) gFU (ckL M D k m t, (0 : Int32), N) = some e ∧ (e.1 = ck6 (ckL M D k m t) (vTl M D k m t) 6 ∧ fr (fun b j => b = 357 ∨ (b = 311 ∧ j = 26)) N0 e.2) := by
        refine gloop_ex (P := fun w y => y.1 = ck6 (ckL M D k m t) (vTl M D k m t) w ∧ y.2.1 = nI w ∧ w ≤ 6 ∧ fr (fun b j => b = 357 ∨ (b = 311 ∧ j = 26)) N0 y.2.2) (fu := gFU) 6 (by decide) ⟨rfl, rfl, Nat.zero_le _, hF⟩ (fun w y _ hP => ?_)
        obtain ⟨y1, y2, K⟩ := y
        obtain ⟨rfl, rfl, hw, hFK⟩ := hP
        dsimp only at hFK
        obtain ⟨hK, hdK, -⟩ := hB K hFK
        show (∃ e, f_X9_checksum_B32 T K 311 _ (nI t) (nI w) = some (.inl e) ∧ _) ∨ _
        unfold f_X9_checksum_B32
        by_cases e6 : w = 6
        · subst e6
          rw [if_pos (by decide)]
          exact Or.inl ⟨_, rfl, rfl, hFK⟩
        · obtain ⟨K', d1, d2⟩ := m_told hK (show t < dNl K D by rw [dNl_same hdK]; exact hlt) (show w < 6 by omega)
          rw [vTl_same h.2.1 hdK hlt] at d1
          rw [if_neg (show ¬ (6 : Int32) ≤ nI w from nI_ge (b := 6) (by omega) (by decide)), d1, Option.bind_some]
          exact Or.inr ⟨by omega, _, rfl, rfl, by rw [nI_1], by omega, fr_trans hFK (fr_mono d2 (fun _ _ q => q.elim))⟩
      obtain ⟨⟨v6, K6⟩, g1, g2, g3⟩ := h6
      dsimp only at g2 g3
      rw [g1, Option.bind_some]
      have hL2 : ∃ e, gloop (fun x => f_X9_checksum_B63 T x.2.2 311 x.1 (nI t) x.2.1) gFU (v6, (0 : Int32), K6) = some e ∧ (e.1 = ckN v6 (dOf M D t) (vBd (vW M D k m) M D t) (fun n => (vCal (vW M D k m) M D t n).1) (dNn M D) ∧ fr (fun b j => b = 357 ∨ (b = 311 ∧ j = 26)) N0 e.2) := by
        refine gloop_ex (P := fun s y => y.1 = ckN v6 (dOf M D t) (vBd (vW M D k m) M D t) (fun n => (vCal (vW M D k m) M D t n).1) s ∧ y.2.1 = nI s ∧ s ≤ dNn M D ∧ fr (fun b j => b = 357 ∨ (b = 311 ∧ j = 26)) N0 y.2.2) (fu := gFU) (dNn M D) (Nat.lt_of_le_of_lt h12 (by decide)) ⟨rfl, rfl, Nat.zero_le _, g3⟩ (fun s y _ hP => ?_)
        obtain ⟨y1, y2, K⟩ := y
        obtain ⟨rfl, rfl, hs, hFK⟩ := hP
        dsimp only at hFK
        obtain ⟨hK, hdK, hBK⟩ := hB K hFK
        have hl2 := g313_2 hK
        rw [dNn_same hdK] at hl2
        show (∃ e, f_X9_checksum_B63 T K 311 _ (nI t) (nI s) = some (.inl e) ∧ _) ∨ _
        unfold f_X9_checksum_B63
        rw [p_mdat (gMo_Fx hK.1), Option.bind_some, a313_2 hK.1, Option.bind_some, hl2]
        by_cases e2 : s = dNn M D
        · rw [if_pos (nI_le (by omega) (by omega))]
          subst e2
          exact Or.inl ⟨_, rfl, rfl, hFK⟩
        · have hsl : s < dNn M D := by omega
          have htK : t < dNl K D := by rw [dNl_same hdK]; exact hlt
          have hsK : s < dNn K D := by rw [dNn_same hdK]; exact hsl
          obtain ⟨K', d1, d2, d3⟩ := p_folM (W := vW M D k m) hK (fun n hn i hi => by
            rw [dNn_same hdK] at hn
            rw [dNl_same hdK] at hi
            rw [hBK n hn i hi]
            exact (vBd_same hdK h.2.1 hi (by omega) (fun _ _ => rfl)).symm) htK hsK
          rw [vCal_same hdK h.2.1 (fun _ _ => rfl) hlt hsl] at d1
          rw [if_neg (nI_ge hsl (by omega)), Option.bind_some, p_at, Option.bind_some, show (12 : Int32) = nI 12 from rfl, nI_add, nI_add, p_mald (gMo_Fx hK.1) (by omega), Option.bind_some, r_311_23 hK.1, Option.bind_some, w_bin hK.1 (by omega), Option.bind_some, ald_ok (s_bin hK.1 (by omega)) (by omega) (by decide), Option.bind_some, d1, Option.bind_some, hBK s hsl t hlt, (hK.2.2.1.2.2.2 t htK).2.2.2.2.1 s (by omega), hdK.off (by omega) (by omega)]
          exact Or.inr ⟨hsl, _, rfl, rfl, by rw [nI_1], hsl, fr_trans hFK d2⟩
      obtain ⟨e2, d1, d2, d3⟩ := hL2
      rw [d1, Option.bind_some]
      refine Or.inr ⟨hlt, _, rfl, ?_, by rw [nI_1], hlt, d3⟩
      show e2.1 = _
      rw [d2, g2]
      rfl
  obtain ⟨e, d1, d2, d3⟩ := hL
  rw [d1, Option.bind_some]
  exact ⟨e.2, by rw [d2], fr_trans c2 (fr_mono d3 (fun b j q => by unfold qA; omega))⟩
end PCS
