/-! EVERY QUERY WITH AN EXCEPTION: class and reference agree -/
section PQ6
variable {T : gT} {M : gM} {C nx sz m : Nat} {k : Nat → Nat × Nat} {i j : Int32} {cls : Option (Nat ⊕ Int32)} {ref : gM → Option (Int32 × gM)} {l : List Nat}
theorem dSame_1 {M' : gM} (h : M'.1 = M.1) : dSame M' 37 M 37 := fun b j hb => by
  have hr := dIn_rng hb
  rw [show b - 37 + 37 = b by omega]
  show M'.1 b j = M.1 b j
  rw [h]
theorem opQ_no {c : Nat} (hI : gInv T M k m C nx sz) (hc : cls = some (.inl c)) (hl : c ∈ l) (h0 : cdx c ≠ 0) (hr : ∀ M', gRel T M' 37 k m → M'.1 = M.1 → ∃ v N', ref M' = some (v, N') ∧ fr qA M' N' ∧ gi N' 311 0 = cdx c) : opQ T M C cls ref cdx ∧ lo l cls := by
  refine ⟨Or.inr ⟨c, hc, h0, fun l => ?_⟩, by rw [hc]; exact lo_inl hl⟩
  obtain ⟨v, N', h1, h2, h3⟩ := hr (M.1, l, M.2.2) (gInv_rel (gInv_l hI l)) rfl
  exact ⟨v, N', h1, h3, k, m, nx, sz, gInv_q (gInv_l hI l) h2⟩
theorem opQ_yes {v : Int32} (hI : gInv T M k m C nx sz) (hc : cls = some (.inr v)) (hr : ∀ M', gRel T M' 37 k m → dSame M' 37 M 37 → mYes M' (ref M') v) : opQ T M C cls ref cdx ∧ lo l cls := by
  refine ⟨Or.inl ⟨v, hc, fun l => ?_⟩, by rw [hc]; exact lo_inr⟩
  obtain ⟨N', h1, h2, h3⟩ := hr (M.1, l, M.2.2) (gInv_rel (gInv_l hI l)) (dSame_1 rfl)
  exact ⟨N', h1, h3, h2.2.1 358 0 (by decide), k, m, nx, sz, gInv_q (gInv_l hI l) h2⟩
theorem oq_offer (hI : gInv T M k m C nx sz) : opQ T M C (f_X8_offer T M 0 i j) (fun N => f_X9_offer T N 311 i j) cdx ∧ lo [2] (f_X8_offer T M 0 i j) := by
  have h := (gInv_rel hI).cl
  have hV := hI.1.1
  have h8 := hV.2.1
  have h12 := hV.2.2.1
  by_cases g : gdL M 37 i ∧ gdN M 37 j
  · obtain ⟨a, ha, rfl⟩ := gdL_of h g.1
    obtain ⟨n, hn, rfl⟩ := gdN_of h g.2
    refine opQ_yes hI (q_offY h ha hn) (fun M' hR hd => ?_)
    have e := m_offY (a := a) (n := n) hR (by rw [dNl_same hd]; exact ha) (by rw [dNn_same hd]; exact hn)
    rw [hd.off (by omega) (by omega)] at e
    exact e
  · exact opQ_no hI (q_offN h g) (by decide) (by decide) (fun M' hR e => m_offN hR (fun z => g ⟨(gdL_1 e).mp z.1, (gdN_1 e).mp z.2⟩))
theorem oq_vote (hI : gInv T M k m C nx sz) : opQ T M C (f_X8_vote T M 0 i j) (fun N => f_X9_vote T N 311 i j) cdx ∧ lo [2] (f_X8_vote T M 0 i j) := by
  have h := (gInv_rel hI).cl
  have hV := hI.1.1
  have h8 := hV.2.1
  have h12 := hV.2.2.1
  by_cases g : gdL M 37 i ∧ gdN M 37 j
  · obtain ⟨a, ha, rfl⟩ := gdL_of h g.1
    obtain ⟨n, hn, rfl⟩ := gdN_of h g.2
    refine opQ_yes hI (q_votY h hI.2.2.1 ha hn) (fun M' hR hd => ?_)
    have e := m_votY (a := a) (n := n) hR (by rw [dNl_same hd]; exact ha) (by rw [dNn_same hd]; exact hn)
    rw [vVt_same hd hV ha (by omega)] at e
    exact e
  · exact opQ_no hI (q_votN h g) (by decide) (by decide) (fun M' hR e => m_votN hR (fun z => g ⟨(gdL_1 e).mp z.1, (gdN_1 e).mp z.2⟩))
theorem oq_support (hI : gInv T M k m C nx sz) : opQ T M C (f_X8_support T M 0 i j) (fun N => f_X9_support T N 311 i j) cdx ∧ lo [2] (f_X8_support T M 0 i j) := by
  have h := (gInv_rel hI).cl
  have hV := hI.1.1
  have h8 := hV.2.1
  have h12 := hV.2.2.1
  by_cases g : gdL M 37 i ∧ gdN M 37 j
  · obtain ⟨a, ha, rfl⟩ := gdL_of h g.1
    obtain ⟨n, hn, rfl⟩ := gdN_of h g.2
    refine opQ_yes hI (q_supY h hI.2.2.1 ha hn) (fun M' hR hd => ?_)
    have e := m_supY (a := a) (n := n) hR (by rw [dNl_same hd]; exact ha) (by rw [dNn_same hd]; exact hn)
    rw [vSp_same hd hV ha (by omega) (vW_sameV hV hd)] at e
    exact e
  · exact opQ_no hI (q_supN h g) (by decide) (by decide) (fun M' hR e => m_supN hR (fun z => g ⟨(gdL_1 e).mp z.1, (gdN_1 e).mp z.2⟩))
theorem oq_binding (hI : gInv T M k m C nx sz) : opQ T M C (f_X8_binding T M 0 i j) (fun N => f_X9_binding T N 311 i j) cdx ∧ lo [2] (f_X8_binding T M 0 i j) := by
  have h := (gInv_rel hI).cl
  have hV := hI.1.1
  have h8 := hV.2.1
  have h12 := hV.2.2.1
  by_cases g : gdL M 37 i ∧ gdN M 37 j
  · obtain ⟨a, ha, rfl⟩ := gdL_of h g.1
    obtain ⟨n, hn, rfl⟩ := gdN_of h g.2
    refine opQ_yes hI (q_bndY h hI.2.2.1 ha hn) (fun M' hR hd => ?_)
    have e := m_bndY (a := a) (n := n) hR (by rw [dNl_same hd]; exact ha) (by rw [dNn_same hd]; exact hn)
    rw [vBd_same hd hV ha (by omega) (vW_sameV hV hd)] at e
    exact e
  · exact opQ_no hI (q_bndN h g) (by decide) (by decide) (fun M' hR e => m_bndN hR (fun z => g ⟨(gdL_1 e).mp z.1, (gdN_1 e).mp z.2⟩))
theorem oq_users (hI : gInv T M k m C nx sz) : opQ T M C (f_X8_users T M 0 i j) (fun N => f_X9_users T N 311 i j) cdx ∧ lo [2] (f_X8_users T M 0 i j) := by
  have h := (gInv_rel hI).cl
  have hV := hI.1.1
  have h8 := hV.2.1
  have h12 := hV.2.2.1
  by_cases g : gdL M 37 i ∧ gdN M 37 j
  · obtain ⟨a, ha, rfl⟩ := gdL_of h g.1
    obtain ⟨n, hn, rfl⟩ := gdN_of h g.2
    refine opQ_yes hI (q_useY h hI.2.2.1 ha hn) (fun M' hR hd => ?_)
    have e := m_useY (a := a) (n := n) hR (by rw [dNl_same hd]; exact ha) (by rw [dNn_same hd]; exact hn)
    have e2 : vUs (vW M' 37 k m) M' 37 n (nI a) (dNl M 37) = vUs (vW M 37 k m) M 37 n (nI a) (dNl M 37) := cntN_ext (fun i hi => decide_eq_decide.mpr (by rw [vBd_same hd hV hi (by omega) (vW_sameV hV hd)]))
    rw [dNl_same hd, e2] at e
    exact e
  · exact opQ_no hI (q_useN h g) (by decide) (by decide) (fun M' hR e => m_useN hR (fun z => g ⟨(gdL_1 e).mp z.1, (gdN_1 e).mp z.2⟩))
theorem oq_candidates (hI : gInv T M k m C nx sz) : opQ T M C (f_X8_candidates T M 0 j) (fun N => f_X9_candidates T N 311 j) cdx ∧ lo [2] (f_X8_candidates T M 0 j) := by
  have h := (gInv_rel hI).cl
  have hV := hI.1.1
  have h8 := hV.2.1
  have h12 := hV.2.2.1
  by_cases g : gdN M 37 j
  · obtain ⟨n, hn, rfl⟩ := gdN_of h g
    refine opQ_yes hI (q_candY h hI.2.2.1 hn) (fun M' hR hd => ?_)
    have e := m_candY (n := n) hR (by rw [dNn_same hd]; exact hn)
    have e2 : cntN (fun i => decide (vCd M' 37 i n)) (dNl M 37) = cntN (fun i => decide (vCd M 37 i n)) (dNl M 37) := cntN_ext (fun i hi => decide_eq_decide.mpr (by rw [vCd_same hd (by omega) (by omega)]))
    rw [dNl_same hd, e2] at e
    exact e
  · exact opQ_no hI (q_candN h g) (by decide) (by decide) (fun M' hR e => m_candN hR (fun z => g ((gdN_1 e).mp z)))
theorem oq_winner (hI : gInv T M k m C nx sz) : opQ T M C (f_X8_winner T M 0 j) (fun N => f_X9_winner T N 311 j) cdx ∧ lo [2] (f_X8_winner T M 0 j) := by
  have h := (gInv_rel hI).cl
  have hV := hI.1.1
  have h8 := hV.2.1
  have h12 := hV.2.2.1
  by_cases g : gdN M 37 j
  · obtain ⟨n, hn, rfl⟩ := gdN_of h g
    refine opQ_yes hI (q_winY h hI.2.2.1 hn) (fun M' hR hd => ?_)
    have e := m_winY (n := n) hR (by rw [dNn_same hd]; exact hn)
    rw [vWin_same hd hV (by omega) (vW_sameV hV hd)] at e
    exact e
  · exact opQ_no hI (q_winN h g) (by decide) (by decide) (fun M' hR e => m_winN hR (fun z => g ((gdN_1 e).mp z)))
theorem oq_margin (hI : gInv T M k m C nx sz) : opQ T M C (f_X8_margin T M 0 j) (fun N => f_X9_margin T N 311 j) cdx ∧ lo [2] (f_X8_margin T M 0 j) := by
  have h := (gInv_rel hI).cl
  have hV := hI.1.1
  have h8 := hV.2.1
  have h12 := hV.2.2.1
  by_cases g : gdN M 37 j
  · obtain ⟨n, hn, rfl⟩ := gdN_of h g
    refine opQ_yes hI (q_marY h hI.2.2.1 hn) (fun M' hR hd => ?_)
    have e := m_marY (n := n) hR (by rw [dNn_same hd]; exact hn)
    rw [vMar_same hd hV (by omega) (vW_sameV hV hd)] at e
    exact e
  · exact opQ_no hI (q_marN h g) (by decide) (by decide) (fun M' hR e => m_marN hR (fun z => g ((gdN_1 e).mp z)))
theorem oq_minority (hI : gInv T M k m C nx sz) : opQ T M C (f_X8_minority T M 0 j) (fun N => f_X9_minority T N 311 j) cdx ∧ lo [2] (f_X8_minority T M 0 j) := by
  have h := (gInv_rel hI).cl
  have hV := hI.1.1
  have h8 := hV.2.1
  have h12 := hV.2.2.1
  by_cases g : gdN M 37 j
  · obtain ⟨n, hn, rfl⟩ := gdN_of h g
    refine opQ_yes hI (q_minY h hI.2.2.1 hn) (fun M' hR hd => ?_)
    have e := m_minY (n := n) hR (by rw [dNn_same hd]; exact hn)
    have e2 : vMin (vW M' 37 k m) M' 37 n (dNl M 37) = vMin (vW M 37 k m) M 37 n (dNl M 37) := cntN_ext (fun i hi => decide_eq_decide.mpr (by rw [dRk_same hd (by omega), vBd_same hd hV hi (by omega) (vW_sameV hV hd), vWin_same hd hV (by omega) (vW_sameV hV hd)]))
    rw [dNl_same hd, e2] at e
    exact e
  · exact opQ_no hI (q_minN h g) (by decide) (by decide) (fun M' hR e => m_minN hR (fun z => g ((gdN_1 e).mp z)))
theorem oq_library (hI : gInv T M k m C nx sz) : opQ T M C (f_X8_library T M 0 i j) (fun N => f_X9_library T N 311 i j) cdx ∧ lo [2, 1] (f_X8_library T M 0 i j) := by
  have h := (gInv_rel hI).cl
  have hV := hI.1.1
  by_cases g : gdL M 37 i
  · obtain ⟨a, ha, rfl⟩ := gdL_of h g
    by_cases gw : ¬ j < 0 ∧ ¬ (5 : Int32) < j
    · obtain ⟨w, rfl, hw⟩ := nI_back (q := 5) gw.1 (Int32.not_lt.mp gw.2) (by decide)
      refine opQ_yes hI (q_libY h hI.2.2.1 ha (show w < 6 by omega)) (fun M' hR hd => ?_)
      have e := m_tellY (a := a) hR (by rw [dNl_same hd]; exact ha) (show w < 6 by omega)
      rw [vTl_same hV hd ha] at e
      exact e
    · exact opQ_no hI (q_libW h ha gw) (by decide) (by decide) (fun M' hR e => m_tellW hR (by rw [dNl_same (dSame_1 e)]; exact ha) gw)
  · exact opQ_no hI (q_libN h g) (by decide) (by decide) (fun M' hR e => m_tellN hR (fun z => g ((gdL_1 e).mp z)))
theorem oq_call (hI : gInv T M k m C nx sz) : opA T M C (f_X8_call T M 0 i j) (fun N => f_X9_call T N 311 i j) cdx ∧ lo [2] (f_X8_call T M 0 i j) := by
  have h := (gInv_rel hI).cl
  have hV := hI.1.1
  by_cases g : gdL M 37 i ∧ gdN M 37 j
  · obtain ⟨a, ha, rfl⟩ := gdL_of h g.1
    obtain ⟨n, hn, rfl⟩ := gdN_of h g.2
    obtain ⟨N, c1, c2⟩ := q_calY h hI.2.2.1 ha hn
    have hIN := gInv_q hI (fr_mono c2 (fun b j z => by unfold qA; omega))
    have hd0 : dSame N 37 M 37 := (gRel_fr (gInv_rel hI) c2 (fun b j z => Or.inl (by omega))).2
    refine ⟨Or.inl ⟨_, N, c1, fun l => ?_⟩, by rw [c1]; exact lo_inr⟩
    have hR := gInv_rel (gInv_l hIN l)
    have hd : dSame (N.1, l, N.2.2) 37 M 37 := fun b j hb => hd0 b j hb
    obtain ⟨N', h1, h2, h3⟩ := m_calY (a := a) (n := n) hR (by rw [dNl_same hd]; exact ha) (by rw [dNn_same hd]; exact hn)
    rw [vCal_same hd hV (vW_sameV hV hd) ha hn] at h1
    exact ⟨N', h1, h3, h2.2.1 358 0 (by decide), k, m, nx, sz, gInv_q (gInv_l hIN l) h2⟩
  · exact ⟨opA_no hI (Nat.le_refl C) (q_calN h g) (fun M' hR e => m_calN hR (fun z => g ⟨(gdL_1 e).mp z.1, (gdN_1 e).mp z.2⟩)), by rw [q_calN h g]; exact lo_inl (by decide)⟩
theorem oq_steps (hI : gInv T M k m C nx sz) : opA T M C (f_X8_steps T M 0 i j) (fun N => f_X9_steps T N 311 i j) cdx ∧ lo [2] (f_X8_steps T M 0 i j) := by
  have h := (gInv_rel hI).cl
  have hV := hI.1.1
  by_cases g : gdL M 37 i ∧ gdN M 37 j
  · obtain ⟨a, ha, rfl⟩ := gdL_of h g.1
    obtain ⟨n, hn, rfl⟩ := gdN_of h g.2
    obtain ⟨N, c1, c2⟩ := q_steY h hI.2.2.1 ha hn
    have hIN := gInv_q hI (fr_mono c2 (fun b j z => by unfold qA; omega))
    have hd0 : dSame N 37 M 37 := (gRel_fr (gInv_rel hI) c2 (fun b j z => Or.inl (by omega))).2
    refine ⟨Or.inl ⟨_, N, c1, fun l => ?_⟩, by rw [c1]; exact lo_inr⟩
    have hR := gInv_rel (gInv_l hIN l)
    have hd : dSame (N.1, l, N.2.2) 37 M 37 := fun b j hb => hd0 b j hb
    obtain ⟨N', h1, h2, h3⟩ := m_steY (a := a) (n := n) hR (by rw [dNl_same hd]; exact ha) (by rw [dNn_same hd]; exact hn)
    rw [vCal_same hd hV (vW_sameV hV hd) ha hn] at h1
    exact ⟨N', h1, h3, h2.2.1 358 0 (by decide), k, m, nx, sz, gInv_q (gInv_l hIN l) h2⟩
  · exact ⟨opA_no hI (Nat.le_refl C) (q_steN h g) (fun M' hR e => m_steN hR (fun z => g ⟨(gdL_1 e).mp z.1, (gdN_1 e).mp z.2⟩)), by rw [q_steN h g]; exact lo_inl (by decide)⟩
end PQ6
