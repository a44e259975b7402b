/-! APPEND, and the queries without arguments -/
theorem b8_and (x : Int32) : x.toInt8.toInt32 &&& 255 = x &&& 255 := by
  apply Int32.toBitVec_inj.mp
  rw [Int32.toBitVec_and, Int32.toBitVec_and, Int8.toBitVec_toInt32, Int32.toBitVec_toInt8]
  apply BitVec.eq_of_getLsbD_eq
  intro i hi
  rw [BitVec.getLsbD_and, BitVec.getLsbD_and]
  have hm : ∀ i < 32, 8 ≤ i → (255 : Int32).toBitVec.getLsbD i = false := by decide
  rcases Nat.lt_or_ge i 8 with z | z
  · rw [BitVec.getLsbD_signExtend, BitVec.getLsbD_signExtend, if_pos z, if_pos hi]
    simp only [z, hi, decide_true, Bool.true_and]
  · rw [hm i hi z]; simp
/-- a byte as the reference keeps it -/
def rBy (x : Int32) (k : Nat) : Int32 := (x >>> ((24 - 8 * irem (nI k) 4) &&& 31)) &&& 255
theorem rBy_sh : ∀ i, i < 20 → (((24 : Int32) - ((8 : Int32) * (irem (nI i) (4 : Int32)))) &&& 31) = (([24, 16, 8, 0] : List Int32).getD (i % 4) 0 &&& 31) := by decide +kernel
theorem wB_ok {x : Int32} {i : Nat} (hi : i < 20) : (x >>> (((24 : Int32) - ((8 : Int32) * (irem (nI i) (4 : Int32)))) &&& 31)) &&& (255 : Int32) = wB x (i % 4) &&& 255 ∧ (wB x (i % 4)).toInt8.toInt32 = wB x (i % 4) := by
  unfold wB
  rw [rBy_sh i hi, b8_and, b8_and]
  refine ⟨rfl, ?_⟩
  rw [Int8.toInt8_toInt32, Int8.toInt8_toInt32]
section PAP
variable {T : gT} {M N : gM} {k : Nat → Nat × Nat} {m C nx sz q : Nat} {w0 w1 w2 w3 w4 : Int32}
theorem m_append (hX : gFx T M) (hq : gi M 311 2 = nI q) (h : q + 20 ≤ 800) : ∃ N, f_X9_append T M 311 w0 w1 w2 w3 w4 = some (nI (q + 20), N) ∧ fr (fun b j => (b = 312 ∧ q ≤ j ∧ j < q + 20) ∨ (b = 311 ∧ (j = 0 ∨ j = 2))) M N ∧ gi N 311 2 = nI (q + 20) ∧ ∀ i, i < 20 → gi N 312 (q + i) = (apW w0 w1 w2 w3 w4 i >>> (((24 : Int32) - ((8 : Int32) * (irem (nI i) (4 : Int32)))) &&& 31)) &&& (255 : Int32) := by
  unfold f_X9_append
  have e0 : gi (si M 311 0 0) 311 2 = nI q := by rw [gi_si, if_neg (by omega)]; exact hq
  rw [e0, show (20 : Int32) = nI 20 from rfl, nI_add, if_pos (show nI (q + 20) ≤ (800 : Int32) from nI_le (b := 800) h (by decide))]
  have hL : ∃ N, gloop (fun x => f_X9_append_B23 T x.2 311 w0 w1 w2 w3 w4 x.1) gFU ((0 : Int32), si M 311 0 0) = some N ∧ (fr (fun b j => (b = 312 ∧ q ≤ j ∧ j < q + 20) ∨ (b = 311 ∧ (j = 0 ∨ j = 2))) M N ∧ gi N 311 2 = nI (q + 20) ∧ ∀ i, i < 20 → gi N 312 (q + i) = (apW w0 w1 w2 w3 w4 i >>> (((24 : Int32) - ((8 : Int32) * (irem (nI i) (4 : Int32)))) &&& 31)) &&& (255 : Int32)) := by
    refine gloop_ex (P := fun t y => y.1 = nI t ∧ t ≤ 20 ∧ fr (fun b j => (b = 312 ∧ q ≤ j ∧ j < q + 20) ∨ (b = 311 ∧ (j = 0 ∨ j = 2))) M y.2 ∧ gi y.2 311 2 = nI (q + t) ∧ ∀ i, i < t → gi y.2 312 (q + i) = (apW w0 w1 w2 w3 w4 i >>> (((24 : Int32) - ((8 : Int32) * (irem (nI i) (4 : Int32)))) &&& 31)) &&& (255 : Int32)) (fu := gFU) 20 (by decide) ⟨rfl, Nat.zero_le _, fr_si fr_refl (Or.inr ⟨rfl, Or.inl rfl⟩), e0, fun j hj => absurd hj (Nat.not_lt_zero j)⟩ (fun t y _ hP => ?_)
    obtain ⟨y1, N⟩ := y
    obtain ⟨rfl, ht, hF, hc, hb⟩ := hP
    dsimp only at hF hc hb
    have hXN := gFx_fr hX hF
    show (∃ e, f_X9_append_B23 T N 311 w0 w1 w2 w3 w4 (nI t) = some (.inl e) ∧ _) ∨ _
    unfold f_X9_append_B23
    by_cases e : t = 20
    · subst e
      rw [if_pos (show (20 : Int32) ≤ nI 20 from nI_le (Nat.le_refl 20) (by decide))]
      exact Or.inl ⟨N, rfl, hF, hc, hb⟩
    · have hlt : t < 20 := by omega
      have e1 : (if (4 : Int32) ≤ nI t then (if (8 : Int32) ≤ nI t then (if (12 : Int32) ≤ nI t then (if (16 : Int32) ≤ nI t then f_X9_append_76 T N 311 w0 w1 w2 w3 w4 (nI t) w4 else f_X9_append_76 T N 311 w0 w1 w2 w3 w4 (nI t) w3) else f_X9_append_76 T N 311 w0 w1 w2 w3 w4 (nI t) w2) else f_X9_append_76 T N 311 w0 w1 w2 w3 w4 (nI t) w1) else f_X9_append_76 T N 311 w0 w1 w2 w3 w4 (nI t) w0) = f_X9_append_76 T N 311 w0 w1 w2 w3 w4 (nI t) (apW w0 w1 w2 w3 w4 t) := by
        unfold apW
        by_cases a1 : t < 4
        · rw [if_neg (show ¬ (4 : Int32) ≤ nI t from nI_ge (b := 4) a1 (by decide)), if_pos a1]
        · rw [if_pos (show (4 : Int32) ≤ nI t from nI_le (a := 4) (by omega) (by omega)), if_neg a1]
          by_cases a2 : t < 8
          · rw [if_neg (show ¬ (8 : Int32) ≤ nI t from nI_ge (b := 8) a2 (by decide)), if_pos a2]
          · rw [if_pos (show (8 : Int32) ≤ nI t from nI_le (a := 8) (by omega) (by omega)), if_neg a2]
            by_cases a3 : t < 12
            · rw [if_neg (show ¬ (12 : Int32) ≤ nI t from nI_ge (b := 12) a3 (by decide)), if_pos a3]
            · rw [if_pos (show (12 : Int32) ≤ nI t from nI_le (a := 12) (by omega) (by omega)), if_neg a3]
              by_cases a4 : t < 16
              · rw [if_neg (show ¬ (16 : Int32) ≤ nI t from nI_ge (b := 16) a4 (by decide)), if_pos a4]
              · rw [if_pos (show (16 : Int32) ≤ nI t from nI_le (a := 16) (by omega) (by omega)), if_neg a4]
      rw [if_neg (show ¬ (20 : Int32) ≤ nI t from nI_ge (b := 20) hlt (by decide)), e1]
      unfold f_X9_append_76
      rw [r_311_1 hXN, Option.bind_some, hc, ast_ok (s_312 hXN) (by omega) (by decide), Option.bind_some, nI_1]
      refine Or.inr ⟨hlt, _, rfl, rfl, hlt, fr_si (fr_si hF (Or.inl ⟨rfl, by omega, by omega⟩)) (Or.inr ⟨rfl, Or.inr rfl⟩), ?_, fun i hi => ?_⟩
      · show gi (si (si N 312 (q + t) _) 311 2 _) 311 2 = _
        rw [gi_si, if_pos ⟨rfl, rfl⟩, gi_si, if_neg (by omega), hc, nI_1]
        rfl
      · show gi (si (si N 312 (q + t) _) 311 2 _) 312 (q + i) = _
        rw [gi_si, if_neg (by omega), gi_si]
        by_cases ei : i = t
        · rw [if_pos ⟨rfl, by omega⟩, ei]
        · rw [if_neg (by omega)]
          exact hb i (by omega)
  obtain ⟨N, c1, c2, c3, c4⟩ := hL
  rw [c1, Option.bind_some, c3]
  exact ⟨N, rfl, c2, c3, c4⟩
/-- the two buffers only -/
theorem gInv_buf (hI : gInv T M k m C nx sz) (hF : fr (fun b j => b = 0 ∨ b = 1 ∨ b = 312 ∨ (b = 311 ∧ (j = 0 ∨ j = 2 ∨ j = 7))) M N) (hb : gBf N) : gInv T N k m C nx sz := by
  have hr := gInv_rel hI
  obtain ⟨h1, h2, h3, h4, h5, h6, h7⟩ := hI
  have q1 : ∀ D b j, (D = 5 ∨ gD D) → (b = 0 ∨ b = 1 ∨ b = 312 ∨ (b = 311 ∧ (j = 0 ∨ j = 2 ∨ j = 7))) → ¬ dIn D b j := fun D b j hD z y => by have := dIn_rngs hD y; omega
  have q2 : ∀ b j, (b = 0 ∨ b = 1 ∨ b = 312 ∨ (b = 311 ∧ (j = 0 ∨ j = 2 ∨ j = 7))) → ¬ gCo b := fun b j z y => by have := gCo_no y; omega
  refine ⟨gSl_fr h1 hF (fun b j z => q1 37 b j (Or.inr (Or.inl rfl)) z) q2 (fun j _ z => by omega), gFx_fr h2 hF, gEl_fr hr.cl h3 hF (fun b j z => ⟨Or.inl (by omega), by omega⟩), ?_, fun D hD i hi => ?_, gDa_r h6 hF.1, hb⟩
  · obtain ⟨a1, a2, a3, a4, a5, a6⟩ := h4
    refine ⟨a1, a2, by rw [hF.2.2 _ _ (fun z => by omega)]; exact a3, by rw [hF.2.2 _ _ (fun z => by omega)]; exact a4, by rw [hF.2.2 _ _ (fun z => by omega)]; exact a5, fun q hlt => ?_⟩
    obtain ⟨k', m', hs⟩ := a6 q hlt
    exact ⟨k', m', gSl_fr hs hF (fun b j z => q1 _ b j (Or.inr (gD_slot nx q)) z) q2 (fun j _ z => by omega)⟩
  · rw [show dKp N D i = dKp M D i from hF.2.2 _ _ (fun q => q1 D _ _ hD q (dIn_lib hi (Or.inr (Or.inl rfl))))]
    exact h5 D hD i hi
theorem o_append (hI : gInv T M k m C nx sz) : opU T C (f_X8_append T M 0 w0 w1 w2 w3 w4) (fun N => f_X9_append T N 311 w0 w1 w2 w3 w4) := by
  have hX := hI.2.1
  obtain ⟨q, q1, q2, q3, q4, q5⟩ := hI.2.2.2.2.2.2
  by_cases h : q + 20 ≤ 800
  · have c1 := p_X8_append (w0 := w0) (w1 := w1) (w2 := w2) (w3 := w3) (w4 := w4) (hX.2 (0, 0, 1) (by decide +kernel)) (s_1 hX) q2 h
    have hFa : fr (fun b j => (b = 1 ∧ q ≤ j ∧ j < q + 20) ∨ (b = 0 ∧ j = 1)) M (apM M w0 w1 w2 w3 w4 q) := ⟨fun b j => apM_gr, fun b j _ => by
      have : ∀ (k : Nat) (M : gM) (x : Int32) (q : Nat), gl (pbM M x q k) b j = gl M b j := fun k => by
        induction k with
        | zero => intro _ _ _; rfl
        | succ k ih => intro M x q; exact ih M x q
      unfold apM
      rw [this, this, this, this, this], fun b j hb => by
      rw [apM_gi (fun z => hb (Or.inr z)), if_neg (fun z => hb (Or.inl z))]⟩
    have hXa := gFx_fr hX hFa
    obtain ⟨N, d1, d2, d3, d4⟩ := m_append (w0 := w0) (w1 := w1) (w2 := w2) (w3 := w3) (w4 := w4) hXa (show gi (apM M w0 w1 w2 w3 w4 q) 311 2 = nI q by rw [hFa.2.2 311 2 (fun z => by omega)]; exact q3) h
    refine ⟨nI (q + 20), _, N, c1, d1, k, m, nx, sz, gInv_buf hI (fr_trans (fr_mono hFa (fun b j z => by omega)) (fr_mono d2 (fun b j z => by omega))) ⟨q + 20, h, ?_, d3, fun j hj => ?_, ?_⟩⟩
    · rw [d2.2.2 0 1 (fun z => by omega)]
      exact pbM_cnt (pbM_cnt (pbM_cnt (pbM_cnt (pbM_cnt q2 4) 4) 4) 4) 4
    · rw [d2.2.2 1 j (fun z => by omega), apM_gi (b := 1) (j := j) (fun z => by omega)]
      by_cases hj2 : q ≤ j ∧ j < q + 20
      · rw [if_pos ⟨rfl, hj2⟩]
        have e := d4 (j - q) (by omega)
        rw [show q + (j - q) = j by omega] at e
        obtain ⟨v1, v2⟩ := wB_ok (x := apW w0 w1 w2 w3 w4 (j - q)) (show j - q < 20 by omega)
        exact ⟨by rw [e]; exact v1, v2⟩
      · rw [if_neg (fun z => hj2 z.2), d2.2.2 312 j (fun z => by omega), hFa.2.2 312 j (fun z => by omega)]
        exact q4 j hj
    · rw [d2.2.2 0 2 (fun z => by omega), d2.2.2 311 7 (fun z => by omega), hFa.2.2 0 2 (fun z => by omega), hFa.2.2 311 7 (fun z => by omega)]
      exact q5
  · refine ⟨-1, M, si M 311 0 0, p_X8_append_no q2 q1 h, ?_, k, m, nx, sz, gInv_q hI (fr_si fr_refl (Or.inr (Or.inr (Or.inl ⟨rfl, Or.inl rfl⟩))))⟩
    show f_X9_append T M 311 w0 w1 w2 w3 w4 = _
    unfold f_X9_append
    rw [show gi (si M 311 0 0) 311 2 = nI q by rw [gi_si, if_neg (by omega)]; exact q3, show (20 : Int32) = nI 20 from rfl, nI_add, if_neg (show ¬ (nI (q + 20) ≤ (800 : Int32)) from nI_ge (a := 800) (b := q + 20) (by omega) (by omega))]
theorem m_thr (hI : gInv T M k m C nx sz) : gInv T (si M 311 0 0) k m C nx sz := gInv_q hI (fr_si fr_refl (Or.inr (Or.inr (Or.inl ⟨rfl, Or.inl rfl⟩))))
theorem o_errorOffset (hI : gInv T M k m C nx sz) : ∃ v, f_X8_errorOffset T M 0 = some v ∧ f_X9_errorOffset T M 311 = some (v, si M 311 0 0) := by
  obtain ⟨q, q1, q2, q3, q4, q5⟩ := hI.2.2.2.2.2.2
  refine ⟨gi M 0 2, rfl, ?_⟩
  unfold f_X9_errorOffset
  rw [gi_si, if_neg (by omega), q5]
theorem o_libraries (hI : gInv T M k m C nx sz) : ∃ v, f_X8_libraries T M 0 = some v ∧ f_X9_libraries T M 311 = some (v, si M 311 0 0) := by
  have hX0 : gFx T (si M 311 0 0) := gFx_gr hI.2.1 (fun _ _ => rfl)
  refine ⟨gi M 37 1, ?_, ?_⟩
  · unfold f_X8_libraries
    rw [r_0_4 hI.2.1, Option.bind_some]
  · unfold f_X9_libraries
    rw [p_mdat (gMo_Fx hX0), Option.bind_some, a313_1 hX0, Option.bind_some, gi_si, if_neg (by omega), hI.1.2.1.2.1]
theorem o_names (hI : gInv T M k m C nx sz) : ∃ v, f_X8_names T M 0 = some v ∧ f_X9_names T M 311 = some (v, si M 311 0 0) := by
  have hX0 : gFx T (si M 311 0 0) := gFx_gr hI.2.1 (fun _ _ => rfl)
  refine ⟨gi M 37 2, ?_, ?_⟩
  · unfold f_X8_names
    rw [r_0_4 hI.2.1, Option.bind_some]
  · unfold f_X9_names
    rw [p_mdat (gMo_Fx hX0), Option.bind_some, a313_2 hX0, Option.bind_some, gi_si, if_neg (by omega), hI.1.2.1.2.2.1]
theorem o_share (hI : gInv T M k m C nx sz) : ∃ v, f_X8_share T M 0 = some v ∧ f_X9_share T M 311 = some (v, si M 311 0 0) := by
  have hX0 : gFx T (si M 311 0 0) := gFx_gr hI.2.1 (fun _ _ => rfl)
  refine ⟨gi M 37 3, ?_, ?_⟩
  · unfold f_X8_share
    rw [r_0_4 hI.2.1, Option.bind_some]
  · unfold f_X9_share
    rw [p_mdat (gMo_Fx hX0), Option.bind_some, a313_0 hX0, Option.bind_some, gi_si, if_neg (by omega), hI.1.2.1.1]
theorem ckN_ext {v : Int64} {o b c o' b' c' : Nat → Int32} : ∀ {n : Nat}, (∀ s, s < n → o s = o' s ∧ b s = b' s ∧ c s = c' s) → ckN v o b c n = ckN v o' b' c' n
  | 0, _ => rfl
  | n + 1, h => by
    obtain ⟨h1, h2, h3⟩ := h n (Nat.lt_succ_self n)
    unfold ckN
    rw [ckN_ext (n := n) (fun s hs => h s (Nat.lt_succ_of_lt hs)), h1, h2, h3]
theorem ckL_same (hV : gVal T M 37) (hd : dSame N 37 M 37) : ∀ {t : Nat}, t ≤ dNl M 37 → ckL N 37 k m t = ckL M 37 k m t
  | 0, _ => by
    unfold ckL
    rw [hd.hd (Or.inr (Or.inr rfl))]
  | t + 1, ht => by
    have h8 := hV.2.1
    have h12 := hV.2.2.1
    unfold ckL
    rw [ckL_same hV hd (show t ≤ dNl M 37 by omega), vTl_same hV hd (show t < dNl M 37 by omega), dNn_same hd]
    exact ckN_ext (fun s hs => ⟨hd.off (by omega) (by omega), vBd_same hd hV (by omega) (by omega) (vW_sameV hV hd), by rw [vCal_same hd hV (vW_sameV hV hd) (by omega) hs]⟩)
theorem o_checksum (hI : gInv T M k m C nx sz) : ∃ v N N', f_X8_checksum T M 0 = some (v, N) ∧ f_X9_checksum T N 311 = some (v, N') ∧ gInv T N' k m C nx sz := by
  have hR := gInv_rel hI
  obtain ⟨N, c1, c2⟩ := q_checksum hR.cl hI.2.2.1
  have hIN := gInv_q hI (fr_mono c2 (fun b j z => by unfold qA; omega))
  obtain ⟨N', d1, d2⟩ := m_checksum (gInv_rel hIN)
  have hd : dSame N 37 M 37 := (gRel_fr hR c2 (fun b j z => Or.inl (by omega))).2
  rw [dNl_same hd, ckL_same hI.1.1 hd (Nat.le_refl _)] at d1
  exact ⟨_, N, N', c1, d1, gInv_q hIN d2⟩
end PAP
