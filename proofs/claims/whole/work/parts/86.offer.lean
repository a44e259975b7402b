/-! KEYWORDS; an OFFER of the text on both sides -/
section PJO
variable {T U : gT} {M R M' R' : gM} {B : Nat → Nat} {n s e p nl nn i q z : Nat}
theorem c_kind (hT : cT M B n s e) : gi M 3 3 = 2 ↔ (s < n ∧ isD (B s)) := by
  obtain ⟨-, -, -, h4, h5, hK⟩ := hT
  rcases hK with k | k | k | k
  · rw [k.2.2]
    exact ⟨fun q => absurd q (by decide), fun q => by omega⟩
  · have := k.2.1
    refine ⟨fun q => ?_, fun q => by have := q.2; unfold isL at *; unfold isD at *; omega⟩
    rcases k.2.2.2 with y | y
    · rw [y.2.1] at q; exact absurd q (by decide)
    · rw [y.2] at q; exact absurd q (by decide)
  · exact ⟨fun _ => ⟨k.1, k.2.1⟩, fun _ => k.2.2.2.1⟩
  · rw [k.2.2.2.2.1]
    exact ⟨fun q => absurd q (by decide), fun q => absurd q.2 k.2.2.2.1⟩
theorem kw_letter (hi : i < 13) (h : isKw B n s i) : s < n ∧ isL (B s) := by
  obtain ⟨k1, k2, k3⟩ := kc_ok i hi
  obtain ⟨w1, w2, w3⟩ := h
  have := w2 0 (by omega)
  rw [Nat.add_zero] at this
  exact ⟨by omega, by rw [this]; exact k3 0 (by omega)⟩
theorem j_key (hi : i < 13) (h : pS T U M R B n s e p) : (isKw B n s i ∧ f_X9_takeWord U R 311 i = some (1, rpos R (s + gSl i)) ∧ ∃ M' s' e', f_X5_readKeyword T M 2 i = some (1, M') ∧ pS T U M' (rpos R (s + gSl i)) B n s' e' (s + gSl i) ∧ fz tS tL M M') ∨ (¬ isKw B n s i ∧ f_X9_takeWord U R 311 i = some (0, rpos R s) ∧ f_X5_readKeyword T M 2 i = some (0, si (si M 2 9 (-2)) 2 10 (nI s))) := by
  obtain ⟨hX, hXR, hT, hR, hp, hsy, hg, ha⟩ := h
  obtain ⟨k1, k2⟩ := c_isWord (T := T) (i := i) (d := Classical.propDecidable _) hi hT
  have k3 := m_takeWord (d := Classical.propDecidable _) hi hXR hR hg hp hsy
  unfold f_X5_readKeyword
  rw [r_2_0 hX, Option.bind_some, k1, Option.bind_some, k3]
  by_cases q : isKw B n s i
  · have he := k2 q
    have hFp : rP R (rpos R (s + gSl i)) := rP_pos
    obtain ⟨M', s', e', c1, c2, c3⟩ := j_adv (U := U) (R := rpos R (s + gSl i)) hX (gFx_fz hXR hFp) hT (rTx_rF hR (rP_F hFp)) (by rw [gi_si, if_pos ⟨rfl, rfl⟩, he]) (by rw [gi_si, if_neg (by omega)]; exact hg) (by rw [gi_si, if_neg (by omega)]; exact ha)
    rw [if_pos q, if_pos q, if_pos (show ¬ ((1 : Int32) = 0) by decide), Option.bind_some, c1, Option.bind_some]
    exact Or.inl ⟨q, rfl, M', s', e', rfl, by rw [he] at c2; exact c2, c3⟩
  · rw [if_neg q, if_neg q, if_neg (fun z => z rfl), c_syn hX hT.2.1, Option.bind_some, chk_ok (Or.inl rfl), Option.bind_some]
    exact Or.inr ⟨q, rfl, rfl⟩
theorem m_known_bad {b cnt n0 : Nat} (hb : U[b]? = some (12, n0)) (hc : cnt ≤ n0) (hn0 : n0 ≤ 12) (h : gi R 311 5 ≠ 0) : f_X9_readKnown U R 311 b (nI cnt) = some (0, R) := by
  unfold f_X9_readKnown f_X9_readKnown_32
  rw [m_readWord_bad h, Option.bind_some, m_place hb hc hn0, Option.bind_some, m_bad h, Option.bind_some, if_pos rfl, Option.bind_some, if_pos rfl]
theorem m_offer67_bad {x : Int32} (h : gi R 311 5 ≠ 0) : f_X9_readOffer_67 U R 311 x = some R := by
  unfold f_X9_readOffer_67
  rw [m_bad h, Option.bind_some, if_neg (fun q => q rfl)]
/-- one offer is told -/
theorem pD_of {w : Int32} (h : pD T M R B nl nn) (hq : q < nl) (hz : z < nn) (hg : ∀ b j, gr M' b j = gr M b j) (hM : ∀ b j, dIn 5 b j → ¬ (b = 5 + 6 + 3 * q ∧ j = z) → gi M' b j = gi M b j) (hw : gi M' (5 + 6 + 3 * q) z = w) (hok : (∃ v, v ≤ 9999 ∧ w = nI v) ∨ ∃ k, k < nn ∧ w = -2 - nI k) (hR : ∀ j, j < 198 → j ≠ 6 + 24 * q + 12 + z → gi R' 314 j = gi R 314 j) (hw2 : gi R' 314 (6 + 24 * q + 12 + z) = w) (hl : ∀ b j, b = 34 ∨ b = 35 → gl M' b j = gl M b j) (hl2 : ∀ b j, b = 324 ∨ b = 325 → gl R' b j = gl R b j) : pD T M' R' B nl nn := by
  have hn := h.2.1
  refine pD_row h hq hg (fun b j hd hb => hM b j hd (by omega)) ?_ (fun j hj hb => hR j hj (by omega)) hl hl2
  obtain ⟨⟨t, t1, t2, t3⟩, ⟨k1, k2⟩, ⟨r1, r2⟩, ⟨pm, p1, p2, p3, p4, p5, p6⟩, o1⟩ := h.2.2.2.1 q hq
  have h8 : q < 8 := by omega
  have eL : ∀ j, (j = 0 ∨ j = 1 ∨ j = 2 ∨ j = 5) → gi M' (5 + 5 + 3 * q) j = gi M (5 + 5 + 3 * q) j := fun j hj => hM _ _ (dIn_lib h8 hj) (by omega)
  have epr : ∀ k, k < 8 → dPr M' 5 q k = dPr M 5 q k := fun k hk => hM _ _ (dIn_prf h8 hk) (by omega)
  have eR : ∀ j, j < 12 → gi R' 314 (6 + 24 * q + j) = gi R 314 (6 + 24 * q + j) := fun j hj => hR _ (by omega) (by omega)
  refine ⟨⟨t, t1, (eL 0 (by omega)).trans t2, (eR 0 (by omega)).trans t3⟩, ⟨by rw [show dKp M' 5 q = dKp M 5 q from eL 1 (by omega)]; exact k1, by rw [show dKp M' 5 q = dKp M 5 q from eL 1 (by omega), eR 1 (by omega)]; exact k2⟩, ⟨(eL 2 (by omega)).trans r1, (eR 2 (by omega)).trans r2⟩, ⟨pm, (eL 5 (by omega)).trans p1, (eR 3 (by omega)).trans p2, p3, ?_, ?_, fun k hk => ?_⟩, fun y hy => ?_⟩
  · rw [cntN_ext (e := fun x => anyN (fun k => decide (dPr M 5 q k = nI x)) pm) (fun x _ => anyN_ext (fun k hk => by rw [epr k (by omega)]))]
    exact p4
  · rw [anyN_ext (e := fun k => decide (dPr M 5 q k = nI q)) (fun k hk => by rw [epr k (by omega)])]
    exact p5
  · obtain ⟨x, q1, q2, q3⟩ := p6 k hk
    refine ⟨x, q1, (epr k (by omega)).trans q2, ?_⟩
    have := eR (4 + k) (by omega)
    rw [show 6 + 24 * q + (4 + k) = 6 + 24 * q + 4 + k by omega] at this
    exact this.trans q3
  · by_cases ey : y = z
    · subst ey
      have e1 : dOf M' 5 q y = w := hw
      rw [e1, hw2]
      exact ⟨Or.inr ⟨hz, hok⟩, rfl⟩
    · rw [show dOf M' 5 q y = dOf M 5 q y from hM _ _ (dIn_off h8 hy) (by omega), hR _ (by omega) (by omega)]
      exact o1 y hy
theorem j_offer (h : pH T U M R B n s e) (hD : pD T M R B nl nn) : jO T U M R B n e (f_X5_readOffer T M 2) (f_X9_readOffer U R 311) nl nn := by
  obtain ⟨hX, hXR, hT, hR, hp, hg, ha⟩ := h
  obtain ⟨M1, s1, e1, c1, c2, c3⟩ := j_adv hX hXR hT hR hp hg ha
  have hX1 := c2.1
  have hD1 : pD T M1 R B nl nn := pD_PE hD (cP_t c3) fz_refl
  have hnl := hD.2.1.1
  have hnn := hD.2.1.2
  obtain ⟨M2, R2, v, d1, d2, d3, d4⟩ := j_find c2 (s_34 hX1) (s_324 hXR) hnl (by decide) hD1.2.2.2.2.2.1
  have hXR2 := gFx_fz hXR d3
  have hF2 : cP M M2 := fz_trans (cP_t c3) d2
  have hD2 : pD T M2 R2 B nl nn := pD_PE hD hF2 d3
  unfold f_X5_readOffer f_X5_findLibrary f_X9_readOffer
  rw [r_2_0 hX, Option.bind_some, c1, Option.bind_some, r_2_2 hX1, Option.bind_some, r_2_1 hX1, Option.bind_some, hD1.2.2.1.1, r_311_15 hXR, Option.bind_some, r_311_9 hXR, Option.bind_some, show ald U R 314 (1 : Int32) = some (gi R 314 1) from a314 (j := 1) hXR (by omega), Option.bind_some, hD.2.2.1.2.2.1, d1, Option.bind_some]
  dsimp only
  rw [r_311_16 hXR2, Option.bind_some, r_311_9 hXR2, Option.bind_some, show ald U R2 314 (2 : Int32) = some (gi R2 314 2) from a314 (j := 2) hXR2 (by omega), Option.bind_some, hD2.2.2.1.2.2.2.1]
  rcases d4 with ⟨f1, ⟨q, f2, f3, f4⟩, f5, f6, f7, f8⟩ | ⟨f1, f2⟩
  · have hX2 := gFx_fz hX hF2
    have hq8 : q < 8 := by omega
    have hT2 : cT M2 B n s1 e1 := by rw [f4]; exact cT_2 c2.2.2.1
    have k2 : gi M2 2 8 = nI q := by rw [f4, gi_si, if_pos ⟨rfl, rfl⟩]
    have hg2 : gi R2 311 5 = 0 := by rw [f6.2.2 311 5 (fun q => by have := q.2; omega)]; exact hg
    have ha2 : gi R2 311 6 = -1 := by rw [f6.2.2 311 6 (fun q => by have := q.2; omega)]; exact ha
    obtain ⟨M3, s2, e2, i1, i2, i3⟩ := j_adv (U := U) (R := R2) hX2 hXR2 hT2 (rTx_rF hR (rP_F f6)) f7 hg2 ha2
    have hX3 := i2.1
    have hF3 : cP M M3 := fz_trans hF2 (cP_t i3)
    have hD3 : pD T M3 R2 B nl nn := pD_PE hD hF3 d3
    obtain ⟨M4, R4, v2, j1, j2, j3, j4⟩ := j_find i2 (s_35 hX3) (s_325 hXR2) hnn (Nat.le_refl 12) hD3.2.2.2.2.2.2.1
    have hXR4 := gFx_fz hXR2 j3
    have hF4 : cP M M4 := fz_trans hF3 j2
    have hE4 : rE R R4 := fz_trans d3 j3
    have hD4 : pD T M4 R4 B nl nn := pD_PE hD hF4 hE4
    rw [f1, Option.bind_some, chk_ok (Or.inr rfl), Option.bind_some, Option.bind_some, if_pos (show ¬ ((1 : Int32) = 0) by decide)]
    dsimp only
    rw [r_2_1 hX2, Option.bind_some, p_row1 hD2.1, Option.bind_some, k2, p_row2 hD2.1 hq8, Option.bind_some, r_2_0 hX2, Option.bind_some, i1, Option.bind_some]
    unfold f_X5_findName
    rw [r_2_3 hX3, Option.bind_some, r_2_1 hX3, Option.bind_some, hD3.2.2.1.2.1, j1, Option.bind_some, f3, p_at, Option.bind_some]
    dsimp only
    have hs12 := c2.2.2.2.2.2.1.1
    have hs23 := i2.2.2.2.2.2.1.1
    rcases j4 with ⟨l1, ⟨z, l2, l3, l4⟩, l5, l6, l7, l8⟩ | ⟨l1, l2⟩
    · have hX4 := gFx_fz hX hF4
      have hz12 : z < 12 := by omega
      have hT4 : cT M4 B n s2 e2 := by rw [l4]; exact cT_2 i2.2.2.1
      have k4 : gi M4 2 8 = nI z := by rw [l4, gi_si, if_pos ⟨rfl, rfl⟩]
      have hg4 : gi R4 311 5 = 0 := by rw [l6.2.2 311 5 (fun q => by have := q.2; omega)]; exact hg2
      have ha4 : gi R4 311 6 = -1 := by rw [l6.2.2 311 6 (fun q => by have := q.2; omega)]; exact ha2
      have hR4 := rTx_rF (rTx_rF hR (rP_F f6)) (rP_F l6)
      have ix : nI (6 + 24 * q) + (12 : Int32) + nI z = nI (6 + 24 * q + 12 + z) := by rw [show (12 : Int32) = nI 12 from rfl, nI_add, nI_add]
      rw [l1, Option.bind_some, chk_ok (Or.inr rfl), Option.bind_some, Option.bind_some, if_pos (show ¬ ((1 : Int32) = 0) by decide)]
      dsimp only
      rw [k4, p_hasOffer hD4.1 hq8 hz12, Option.bind_some, m_good hg4, Option.bind_some, l3, ix, r_311_9 hXR4, Option.bind_some, a314 hXR4 (by omega), Option.bind_some, ((hD4.2.2.2.1 q f2).2.2.2.2 z hz12).2]
      by_cases ho : dOf M4 5 q z = -1
      · rw [if_pos ho, if_pos rfl, if_neg (show ¬ ((1 : Int32) = 0) by decide), if_pos ho, r_2_0 hX4, Option.bind_some]
        obtain ⟨M5, s3, e3, m1, m2, m3⟩ := j_adv (U := U) (R := R4) hX4 hXR4 hT4 hR4 l7 hg4 ha4
        have hX5 := m2.1
        have hF5 : cP M M5 := fz_trans hF4 (cP_t m3)
        have hs34 := m2.2.2.2.2.2.1.1
        rw [m1, Option.bind_some, r_2_0 hX5, Option.bind_some]
        unfold f_X9_readOffer_67
        rw [m_good hg4, Option.bind_some, if_pos (show ¬ ((1 : Int32) = 0) by decide)]
        have fin : ∀ (w : Int32) (Mz Rz Nz : gM), cP M Mz → rE R Rz → ((∃ v, v ≤ 9999 ∧ w = nI v) ∨ ∃ k, k < nn ∧ w = -2 - nI k) → fz tS tL (si Mz (5 + 6 + 3 * q) z w) Nz → pD T Nz (si Rz 314 (6 + 24 * q + 12 + z) w) B nl nn := fun w Mz Rz Nz y1 y2 y3 y4 => by
          have hDz : pD T Mz Rz B nl nn := pD_PE hD y1 y2
          refine pD_of hDz f2 l2 (fun b j => y4.1 b j) (fun b j hd hb => ?_) ?_ y3 (fun j hj hj2 => by rw [gi_si, if_neg (fun q => hj2 q.2)]) (by rw [gi_si, if_pos ⟨rfl, rfl⟩]) (fun b j hb => ?_) (fun _ _ _ => rfl)
          · rw [y4.2.2 b j (fun y => cS0_5 hd (Or.inl y)), gi_si, if_neg hb]
          · rw [y4.2.2 _ _ (fun y => cS0_5 (dIn_off hq8 hz12) (Or.inl y)), gi_si, if_pos ⟨rfl, rfl⟩]
          · exact y4.2.1 b j (fun y => by unfold tL at y; omega)
        have row : ∀ Mz : gM, cP M Mz → ldr T Mz (5 + 5 + 3 * q) 3 11 = some (5 + 6 + 3 * q) ∧ ∀ w : Int32, ast T Mz (5 + 6 + 3 * q) (nI z) w = some (si Mz (5 + 6 + 3 * q) z w) := fun Mz y1 => by
          obtain ⟨t1, t2, t3, t4⟩ := (pD_PE hD y1 (fz_refl (M := R))).1.2.2.2 q hq8
          exact ⟨ldr_ok t3 t1.2.1, fun w => ast_ok t1.2.1 hz12 (by decide)⟩
        have hcs : ∀ (Mz : gM) (w : Int32), cP M Mz → cD M (si Mz (5 + 6 + 3 * q) z w) := fun Mz w y => fz_si (cP_D y) (Or.inr (Or.inl (dIn_off hq8 hz12)))
        have hrs : ∀ (Rz : gM) (w : Int32), rE R Rz → rD R (si Rz 314 (6 + 24 * q + 12 + z) w) := fun Rz w y => fz_si (rE_D y) (Or.inr ⟨rfl, by omega, by omega, by omega⟩)
        have p5 : ∀ (Mz Rz : gM) (w : Int32) (sz ez pz : Nat), pS T U Mz Rz B n sz ez pz → pS T U Mz (si Rz 314 (6 + 24 * q + 12 + z) w) B n sz ez pz := fun Mz Rz w sz ez pz y => pS_fr y (fun _ _ => rfl) (fun _ _ _ => rfl) rfl (fun _ _ => rfl) (fz_si fz_refl (Or.inl rfl)) (by rw [gi_si, if_neg (by omega)]) (by rw [gi_si, if_neg (by omega)]) (by rw [gi_si, if_neg (by omega)])
        have hb5 : ∀ (Mz Rz : gM) (w : Int32), bad Mz Rz → bad Mz (si Rz 314 (6 + 24 * q + 12 + z) w) := fun Mz Rz w y => bad_R2 y (by rw [gi_si, if_neg (by omega)]) (by rw [gi_si, if_neg (by omega)])
        rcases j_key (i := 8) (by decide) m2 with ⟨kw, t1, M6, s4, e4, t2, t3, t4⟩ | ⟨kw, t1, t2⟩
        · have hkl := kw_letter (by decide) kw
          have hk2 : ¬ gi M5 3 3 = 2 := fun y => by
            have := ((c_kind m2.2.2.1).mp y).2
            have := hkl.2
            unfold isL at *
            unfold isD at *
            omega
          have hX6 := t3.1
          have hXR6 := t3.2.1
          have hF6 : cP M M6 := fz_trans hF5 (cP_t t4)
          have hE6 : rE R (rpos R4 (s3 + gSl 8)) := fz_trans hE4 (rP_E rP_pos)
          have hD6 : pD T M6 (rpos R4 (s3 + gSl 8)) B nl nn := pD_PE hD hF6 hE6
          obtain ⟨M7, R7, v3, u1, u2, u3, u4⟩ := j_find t3 (s_35 hX6) (s_325 hXR6) hnn (Nat.le_refl 12) hD6.2.2.2.2.2.2.1
          have hXR7 := gFx_fz hXR6 u3
          have hF7 : cP M M7 := fz_trans hF6 u2
          have hE7 : rE R R7 := fz_trans hE6 u3
          obtain ⟨row1, row2⟩ := row M7 hF7
          rw [if_pos hk2, t2, Option.bind_some, if_neg (show ¬ ((1 : Int32) = 0) by decide), t1, Option.bind_some]
          dsimp only
          rw [if_neg (show ¬ ((1 : Int32) = 0) by decide), r_2_3 hX6, Option.bind_some, r_2_1 hX6, Option.bind_some, hD6.2.2.1.2.1, r_311_9 hXR6, Option.bind_some, r_311_16 hXR6, Option.bind_some, Option.bind_some, show ald U (rpos R4 (s3 + gSl 8)) 314 (2 : Int32) = some (gi (rpos R4 (s3 + gSl 8)) 314 2) from a314 (j := 2) hXR6 (by omega), Option.bind_some, hD6.2.2.1.2.2.2.1, u1, Option.bind_some]
          dsimp only
          rw [t314 hXR7 (by omega), Option.bind_some]
          rcases u4 with ⟨x1, ⟨k, x2, x3, x4⟩, x5, x6, x7, x8⟩ | ⟨x1, x2⟩
          · have k7 : gi M7 2 8 = nI k := by rw [x4, gi_si, if_pos ⟨rfl, rfl⟩]
            have hX7 := gFx_fz hX hF7
            have hX8 : gFx T (si M7 (5 + 6 + 3 * q) z (-2 - nI k)) := gFx_gr hX7 (fun _ _ => rfl)
            have hT7 : cT M7 B n s4 e4 := by rw [x4]; exact cT_2 t3.2.2.1
            have hT8 : cT (si M7 (5 + 6 + 3 * q) z (-2 - nI k)) B n s4 e4 := cT_oth hT7 (fun b j hb => by rw [gi_si, if_neg (by omega)]) rfl
            have hg7 : gi R7 311 5 = 0 := by rw [x6.2.2 311 5 (fun q => by have := q.2; omega), gi_si, if_neg (by omega)]; exact hg4
            have ha7 : gi R7 311 6 = -1 := by rw [x6.2.2 311 6 (fun q => by have := q.2; omega), gi_si, if_neg (by omega)]; exact ha4
            obtain ⟨M9, s5, e5, y1, y2, y3⟩ := j_adv (U := U) (R := R7) hX8 hXR7 hT8 (rTx_rF t3.2.2.2.1 (rP_F x6)) x7 hg7 ha7
            have hs45 := t3.2.2.2.2.2.1.1
            rw [x1, Option.bind_some, chk_ok (Or.inr rfl), Option.bind_some, Option.bind_some, if_pos (show ¬ ((1 : Int32) = 0) by decide)]
            dsimp only
            rw [row1, Option.bind_some, k7, row2, Option.bind_some, r_2_0 hX8, Option.bind_some, y1, Option.bind_some, x3]
            exact ⟨M9, _, rfl, fz_trans (hcs M7 _ hF7) (cP_D (cP_t y3)), hrs _ _ hE7, Or.inl ⟨rfl, s5, e5, e4, p5 _ _ _ _ _ _ y2, by omega, fin _ M7 R7 M9 hF7 hE7 (Or.inr ⟨k, x2, rfl⟩) y3⟩⟩
          · rw [x1, Option.bind_some, chk_ok (Or.inl rfl), Option.bind_some, Option.bind_some, if_neg (fun y => y rfl)]
            exact ⟨_, _, rfl, cP_D hF7, hrs _ _ hE7, Or.inr ⟨rfl, hb5 _ _ _ x2, kP_P hD.2.2.2.2.2.2.2 hF7⟩⟩
        · have hXRp : gFx U (rpos R4 s3) := gFx_gr hXR4 (fun _ _ => rfl)
          have hEp : rE R (rpos R4 s3) := fz_trans hE4 (rP_E rP_pos)
          have hsy3 : Sy B n s3 s3 := by
            obtain ⟨w1, w2, w3, w4⟩ := m2.2.2.2.2.2.1
            exact ⟨Nat.le_refl _, w2, fun j q1 q2 => by omega, w4⟩
          have hgp : gi (rpos R4 s3) 311 5 = 0 := by rw [gi_si, if_neg (by omega)]; exact hg4
          have hap : gi (rpos R4 s3) 311 6 = -1 := by rw [gi_si, if_neg (by omega)]; exact ha4
          have hRp : rTx (rpos R4 s3) B n := rTx_rF hR4 (rP_F rP_pos)
          rw [t1, Option.bind_some, if_pos rfl]
          dsimp only
          rw [r_311_9 hXRp, Option.bind_some]
          by_cases hk2 : gi M5 3 3 = 2
          · rw [if_neg (fun y => y hk2)]
            obtain ⟨M6, R6, w, u1, u2, u3, u4⟩ := j_number (hi := 9999) (by decide) (show pS T U M5 (rpos R4 s3) B n s3 e3 s3 from ⟨hX5, hXRp, m2.2.2.1, hRp, by rw [gi_si, if_pos ⟨rfl, rfl⟩], hsy3, hgp, hap⟩)
            have hXR6 := gFx_fz hXRp u3
            have hF6 : cP M M6 := fz_trans hF5 u2
            have hE6 : rE R R6 := fz_trans hEp u3
            obtain ⟨row1, row2⟩ := row M6 hF6
            rw [show f_X9_number U (rpos R4 s3) 311 (0 : Int32) (9999 : Int32) = some (w, R6) from u1, Option.bind_some]
            dsimp only
            rw [t314 hXR6 (by omega), Option.bind_some]
            rcases u4 with ⟨x1, x2, ⟨y, x3, x3'⟩, x4, x5, s4, e4, x6, x7⟩ | ⟨x1, x2⟩
            · rw [show f_X5_readNumber T M5 2 (9999 : Int32) = some (1, M6) from x1, Option.bind_some, if_pos (show ¬ ((1 : Int32) = 0) by decide)]
              dsimp only
              rw [row1, Option.bind_some, x2, row2, Option.bind_some]
              refine ⟨_, _, rfl, hcs M6 _ hF6, hrs _ _ hE6, Or.inl ⟨rfl, s4, e4, e3, pS_fr (p5 M6 R6 w s4 e4 e3 x6) (fun _ _ => rfl) (fun b j hb => by rw [gi_si, if_neg (by omega)]) rfl (fun _ _ => rfl) fz_refl rfl rfl rfl, by omega, fin _ M6 R6 _ hF6 hE6 (Or.inl ⟨y, x3, x3'⟩) fz_refl⟩⟩
            · rw [show f_X5_readNumber T M5 2 (9999 : Int32) = some (0, M6) from x1, Option.bind_some, if_neg (fun y => y rfl)]
              exact ⟨_, _, rfl, cP_D hF6, hrs _ _ hE6, Or.inr ⟨rfl, hb5 _ _ _ x2, kP_P hD.2.2.2.2.2.2.2 hF6⟩⟩
          · rw [if_pos hk2, t2, Option.bind_some, if_pos rfl]
            have hnd := fun y => hk2 ((c_kind m2.2.2.1).mpr y)
            obtain ⟨w, R6, u1, u2⟩ := m_number (hi := 9999) (by decide) hXRp hRp hgp (by rw [gi_si, if_pos ⟨rfl, rfl⟩]) hsy3
            rcases u2 with ⟨e9, g1, g2, -⟩ | ⟨e9, R9, g1, g2, -⟩ | ⟨-, R9, g2, g3⟩
            · exact absurd ⟨g1, g2⟩ hnd
            · exact absurd ⟨g1, g2⟩ hnd
            · have hE9 : rE R (rerr R9 (-2) s3) := fz_trans hEp (rE_err g3)
              have hXR9 : gFx U (rerr R9 (-2) s3) := gFx_fz hXR hE9
              rw [show f_X9_number U (rpos R4 s3) 311 (0 : Int32) (9999 : Int32) = some (w, R6) from u1, Option.bind_some, g2]
              dsimp only
              rw [t314 hXR9 (by omega), Option.bind_some]
              exact ⟨_, _, rfl, cP_D (fz_trans hF5 cP_err), hrs _ _ hE9, Or.inr ⟨rfl, hb5 _ _ _ (bad_mk (by decide)), kP_P hD.2.2.2.2.2.2.2 (fz_trans hF5 cP_err)⟩⟩
      · have hge : gi (rerr R4 (-5) s2) 311 5 ≠ 0 := by
          rw [gi_si, if_neg (by omega), gi_si, if_pos ⟨rfl, rfl⟩]
          decide
        rw [if_neg ho, if_neg (show ¬ ((1 : Int32) = 0) by decide), if_neg (show ¬ ((1 : Int32) = 0) by decide), if_neg ho, c_error hX4 hT4.2.1, Option.bind_some, chk_ok (Or.inl rfl), Option.bind_some, l8, m_report hg4, Option.bind_some, m_offer67_bad hge]
        exact ⟨_, _, rfl, cP_D (fz_trans hF4 cP_err), rE_D (fz_trans d3 (rE_err l6)), Or.inr ⟨rfl, bad_mk (by decide), kP_P hD.2.2.2.2.2.2.2 (fz_trans hF4 cP_err)⟩⟩
    · have hge : gi R4 311 5 ≠ 0 := bad_R (R' := R4) l2
      rw [l1, Option.bind_some, chk_ok (Or.inl rfl), Option.bind_some, Option.bind_some, if_neg (fun y => y rfl), m_bad hge, Option.bind_some, if_pos rfl, m_offer67_bad hge]
      exact ⟨_, _, rfl, cP_D hF4, rE_D hE4, Or.inr ⟨rfl, l2, kP_P hD.2.2.2.2.2.2.2 hF4⟩⟩
  · have hge : gi R2 311 5 ≠ 0 := bad_R (R' := R2) f2
    rw [f1, Option.bind_some, chk_ok (Or.inl rfl), Option.bind_some, Option.bind_some, if_neg (fun y => y rfl), m_known_bad (s_325 hXR2) hnn (Nat.le_refl 12) hge, Option.bind_some]
    dsimp only
    rw [show f_X9_at U R2 v = some ((6 : Int32) + (24 : Int32) * v) from rfl, Option.bind_some, m_bad hge, Option.bind_some, if_pos rfl, m_offer67_bad hge]
    exact ⟨_, _, rfl, cP_D hF2, rE_D d3, Or.inr ⟨rfl, f2, kP_P hD.2.2.2.2.2.2.2 hF2⟩⟩
end PJO
