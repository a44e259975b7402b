/-! A LIBRARY of the text: all of it -/
section PJM
variable {T U : gT} {M R M' R' : gM} {B : Nat → Nat} {n s e p nl nn : Nat}
theorem cT_oth (h : cT M B n s e) (hM : ∀ b j, (b = 3 ∨ b = 4) → gi M' b j = gi M b j) (hl : gl M' 3 5 = gl M 3 5) : cT M' B n s e := by
  obtain ⟨⟨w1, w2, w3⟩, w4, w5, w6, w7, w8⟩ := h
  refine ⟨⟨(hM _ _ (Or.inl rfl)).trans w1, w2, fun j hj => ⟨(w3 j hj).1, (hM _ _ (Or.inr rfl)).trans (w3 j hj).2⟩⟩, (hM _ _ (Or.inl rfl)).trans w4, (hM _ _ (Or.inl rfl)).trans w5, w6, w7, ?_⟩
  unfold cK at w8 ⊢
  rw [hM 3 3 (Or.inl rfl), hM 3 6 (Or.inl rfl), hM 3 7 (Or.inl rfl), hl]
  exact w8
theorem bad_R2 (h : bad M R) (h5 : gi R' 311 5 = gi R 311 5) (h6 : gi R' 311 6 = gi R 311 6) : bad M R' := by
  obtain ⟨c, q, a1, a2, a3, a4, a5⟩ := h
  exact ⟨c, q, a1, a2, a3, h5.trans a4, h6.trans a5⟩
theorem j_library (h : pH T U M R B n s e) (hD : pD T M R B nl nn) : jO T U M R B n e (f_X5_readNewLibrary T M 2) (f_X9_readLibrary U R 311 (nI s)) (nl + 1) nn := by
  obtain ⟨hX, hXR, hT, hR, hp, hg, ha⟩ := h
  have hD' := hD
  obtain ⟨h1, ⟨h2, h2'⟩, ⟨a1, a2, a3, a4, a5, a6⟩, h4, h5, h6, h7, h8⟩ := hD
  unfold f_X5_readNewLibrary f_X9_readLibrary f_X9_readLibrary_18 f_X9_readLibrary_110
  rw [r_2_1 hX, Option.bind_some, a1, r_311_9 hXR, Option.bind_some, show ald U R 314 (1 : Int32) = some (gi R 314 1) from a314 (j := 1) hXR (by omega), Option.bind_some, a3]
  by_cases c8 : nl = 8
  · subst c8
    have hge : gi (rerr R (-6) s) 311 5 ≠ 0 := by
      rw [gi_si, if_neg (by omega), gi_si, if_pos ⟨rfl, rfl⟩]
      decide
    have hXb : gFx U (rerr R (-6) s) := gFx_gr hXR (fun _ _ => rfl)
    rw [if_neg (show ¬ nI 8 < (8 : Int32) by decide), if_neg (fun q => q (show nI 8 = (8 : Int32) from rfl)), m_report hg, Option.bind_some, m_readWord_bad hge, Option.bind_some]
    dsimp only
    rw [r_311_15 hXb, Option.bind_some, r_311_9 hXb, Option.bind_some, show ald U (rerr R (-6) s) 314 (1 : Int32) = some (gi (rerr R (-6) s) 314 1) from a314 (j := 1) hXb (by omega), Option.bind_some, m_fresh_bad hge, Option.bind_some, if_neg (fun q => q rfl), c_error hX hT.2.1, Option.bind_some, chk_ok (Or.inl rfl), Option.bind_some]
    exact ⟨_, _, rfl, cP_D cP_err, rE_D (rE_err fz_refl), Or.inr ⟨rfl, bad_mk (by decide), kP_P hD'.2.2.2.2.2.2.2 cP_err⟩⟩
  · have hlt : nl < 8 := by omega
    obtain ⟨M1, s1, e1, c1, c2, c3⟩ := j_adv hX hXR hT hR hp hg ha
    have hX1 := c2.1
    have hse1 : e ≤ s1 := c2.2.2.2.2.2.1.1
    have hw1 : wT M1 R 34 324 nl B := wT_fr h6 (fun i _ => c3.2.1 34 i (fun q => by unfold tL at q; omega)) (fun _ _ => rfl)
    obtain ⟨M2, R2, R1, w, fl, d1, d2, d3, d4, d5⟩ := j_new c2 (s_34 hX1) (s_324 hXR) hlt (by decide) (by decide) hw1
    have hXR1 := gFx_fz hXR d3
    have hXR2 := gFx_fz hXR d4
    have e2 : gi M1 5 1 = nI nl := (c3.2.2 5 1 (fun q => by unfold tS at q; omega)).trans a1
    have e3 : gi R1 314 1 = nI nl := (d3.2.2 314 1 (fun q => by unfold rS0 at q; omega)).trans a3
    have e4 : gi R2 314 1 = nI nl := (d4.2.2 314 1 (fun q => by unfold rS0 at q; omega)).trans a3
    rw [if_pos (show nI nl < (8 : Int32) from nI_lt (b := 8) hlt (by decide)), r_2_0 hX, Option.bind_some, c1, Option.bind_some, r_2_2 hX1, Option.bind_some, r_2_1 hX1, Option.bind_some, e2, if_pos (show ¬ nI nl = (8 : Int32) from fun q => c8 ((nI_eq (b := 8) (by omega) (by decide)).mp q)), d1, Option.bind_some]
    dsimp only
    rw [r_311_15 hXR1, Option.bind_some, r_311_9 hXR1, Option.bind_some, show ald U R1 314 (1 : Int32) = some (gi R1 314 1) from a314 (j := 1) hXR1 (by omega), Option.bind_some, e3, d2, Option.bind_some]
    rcases d5 with ⟨f1, f2, f3, ⟨l, f4, f5, f6, f7, f8⟩, ⟨s2, e2', f9⟩, f10⟩ | ⟨f1, f2, f3, f4⟩
    · have hXm := f9.1
      have hXs : gFx U (sl R2 324 nl w) := gFx_gr hXR2 (fun _ _ => rfl)
      have hFM2 : cD M M2 := fz_trans (cP_D (cP_t c3)) (fz_mono f3 (fun _ _ q => Or.inl q) (fun b j q => q.elim (fun q => Or.inl q) (fun q => Or.inr (Or.inl q.1))))
      have hFR2 : rD R (sl R2 324 nl w) := fz_sl (rE_D d4) (Or.inl rfl)
      have p2 : pS T U M2 (sl R2 324 nl w) B n s2 e2' e1 := by
        obtain ⟨q1, q2, q3, q4, q5, q6, q7, q8⟩ := f9
        exact ⟨q1, hXs, q3, q4, q5, q6, q7, q8⟩
      obtain ⟨M3, R4, v, g1, g2, g3, g4⟩ := j_number (hi := 999) (by decide) p2
      have hXR4 := gFx_fz hXs g3
      have hFR4 : rD R R4 := fz_trans hFR2 (rE_D g3)
      have hFM3 : cD M M3 := fz_trans hFM2 (cP_D g2)
      have e5 : gi R4 314 1 = nI nl := (g3.2.2 314 1 (fun q => by unfold rS0 at q; omega)).trans e4
      rw [f1, Option.bind_some, if_neg (show ¬ ((1 : Int32) = 0) by decide), f2, if_pos (show ¬ ((1 : Int32) = 0) by decide)]
      dsimp only
      rw [r_311_9 hXR2, Option.bind_some, show ald U R2 314 (1 : Int32) = some (gi R2 314 1) from a314 (j := 1) hXR2 (by omega), Option.bind_some, e4, p_at, Option.bind_some, r_311_15 hXR2, Option.bind_some, astl_ok (s_324 hXR2) hlt (by decide), Option.bind_some, r_311_9 hXs, Option.bind_some, show f_X9_number U (sl R2 324 nl w) 311 (0 : Int32) (999 : Int32) = some (v, R4) from g1, Option.bind_some]
      dsimp only
      have hX5 : gFx U (si R4 314 (6 + 24 * nl) v) := gFx_gr hXR4 (fun _ _ => rfl)
      have e6 : ∀ j, gi (si R4 314 (6 + 24 * nl) v) 311 j = gi R4 311 j := fun j => by rw [gi_si, if_neg (by omega)]
      rw [show nI (6 + 24 * nl) + (0 : Int32) = nI (6 + 24 * nl) from nI_add _ 0, t314 hXR4 (by omega), Option.bind_some, r_311_9 hX5, Option.bind_some]
      rcases g4 with ⟨k1, k2, ⟨t, k3, k3'⟩, k4, k5, s3, e3', k6, k7⟩ | ⟨k1, k2⟩
      · have hg5 : gi (si R4 314 (6 + 24 * nl) v) 311 5 = 0 := (e6 5).trans k6.2.2.2.2.2.2.1
        have hgr3 : ∀ b j, gr M3 b j = gr M b j := hFM3.1
        have hD3 : gDat T M3 5 := gDat_gr h1 hgr3
        have e7 : gi M3 5 1 = nI nl := ((g2.2.2 5 1 (cS0_5 (dIn_hd (Or.inl rfl)))).trans (f3.2.2 5 1 (cS0_5 (dIn_hd (Or.inl rfl))))).trans e2
        obtain ⟨M4, b1, b2, b3, b4, b5, b6, b7⟩ := c_startAs (t := v) (r := nI nl) hD3 hlt
        have hX4 := gFx_fz k6.1 b2
        have e8 : gi M4 5 1 = nI nl := (b2.2.2 5 1 (fun q => by omega)).trans e7
        have hXM5 : gFx T (si M4 5 1 (nI (nl + 1))) := gFx_gr hX4 (fun _ _ => rfl)
        have hM34 : ∀ b j, (b = 3 ∨ b = 4) → gi (si M4 5 1 (nI (nl + 1))) b j = gi M3 b j := fun b j hb => by
          rw [gi_si, if_neg (by omega)]
          exact b2.2.2 b j (fun q => by omega)
        have hT5 : cT (si M4 5 1 (nI (nl + 1))) B n s3 e3' := cT_oth k6.2.2.1 hM34 (b2.2.1 3 5 (fun q => q))
        obtain ⟨kw1, kw2⟩ := c_isWord (T := T) (i := 7) (d := Classical.propDecidable _) (by decide) hT5
        have hF5 : cD M (si M4 5 1 (nI (nl + 1))) := fz_si (fz_trans hFM3 (fz_mono b2 (fun b j q => Or.inr (Or.inl (by
          rcases q with q | q
          · rw [show b = 5 + 5 + 3 * nl by omega]
            exact dIn_lib hlt q.2
          · rw [show b = 5 + 6 + 3 * nl by omega]
            exact dIn_off hlt q.2))) (fun _ _ q => q.elim))) (Or.inr (Or.inl (dIn_hd (Or.inl rfl))))
        have tw := m_takeWord (i := 7) (d := Classical.propDecidable _) (by decide) hX5 (rTx_rF k6.2.2.2.1 (fz_si fz_refl (Or.inl rfl))) hg5 ((e6 4).trans k6.2.2.2.2.1) k6.2.2.2.2.2.1
        rw [show f_X5_readNumber T M2 2 999 = some (1, M3) from k1, Option.bind_some, if_pos (show ¬ ((1 : Int32) = 0) by decide)]
        dsimp only
        rw [r_2_1 k6.1, Option.bind_some, p_row1 hD3, Option.bind_some, Option.bind_some, e7, p_row2 hD3 hlt, Option.bind_some, Option.bind_some, k2, e7, b1, Option.bind_some, r_2_1 hX4, Option.bind_some, e8, nI_1, r_2_0 hXM5, Option.bind_some, kw1, Option.bind_some, m_good hg5, Option.bind_some, if_neg (show ¬ ((1 : Int32) = 0) by decide), tw]
        have hw324 : ∀ (Rz : gM), (∀ b j, gl Rz b j = gl R4 b j) → ∀ Mz : gM, (∀ b j, b = 34 ∨ b = 35 → gl Mz b j = gl M3 b j) → wT Mz Rz 34 324 (nl + 1) B ∧ wT Mz Rz 35 325 nn B := fun Rz hRz Mz hMz => by
          constructor
          · intro i hi
            by_cases ei : i = nl
            · subst ei
              refine ⟨s1, l, f4, f5, f6, ?_, ?_⟩
              · rw [hMz _ _ (Or.inl rfl), g2.2.1 34 i (fun q => by unfold tL at q; omega)]
                exact f7
              · rw [hRz, g3.2.1 324 i (fun q => q), gl_sl, if_pos ⟨rfl, rfl⟩]
                exact f8
            · obtain ⟨s9, l9, y1, y2, y3, y4, y5⟩ := h6 i (by omega)
              refine ⟨s9, l9, y1, y2, y3, ?_, ?_⟩
              · rw [hMz _ _ (Or.inl rfl), g2.2.1 34 i (fun q => by unfold tL at q; omega), f3.2.1 34 i (fun q => by unfold tL at q; omega), c3.2.1 34 i (fun q => by unfold tL at q; omega)]
                exact y4
              · rw [hRz, g3.2.1 324 i (fun q => q), gl_sl, if_neg (fun q => ei q.2), d4.2.1 324 i (fun q => q)]
                exact y5
          · exact wT_fr h7 (fun i _ => by rw [hMz _ _ (Or.inr rfl), g2.2.1 35 i (fun q => by unfold tL at q; omega), f3.2.1 35 i (fun q => by unfold tL at q; omega), c3.2.1 35 i (fun q => by unfold tL at q; omega)]) (fun i _ => by rw [hRz, g3.2.1 325 i (fun q => q), gl_sl, if_neg (by omega), d4.2.1 325 i (fun q => q)])
        have hM3 : ∀ b j, dIn 5 b j → gi M3 b j = gi M b j := fun b j q => ((g2.2.2 b j (cS0_5 q)).trans (f3.2.2 b j (cS0_5 q))).trans (c3.2.2 b j (fun z => cS0_5 q (Or.inl z)))
        have hR4 : ∀ j, gi R4 314 j = gi R 314 j := fun j => (g3.2.2 314 j (fun q => by unfold rS0 at q; omega)).trans (d4.2.2 314 j (fun q => by unfold rS0 at q; omega))
        have fin : ∀ (kx : Int32) (q : Nat) (Mz : gM), (kx = 0 ∨ kx = 1) → (∀ b j, gr Mz b j = gr M3 b j) → (∀ b j, b = 34 ∨ b = 35 → gl Mz b j = gl M3 b j) → (∀ b j, dIn 5 b j → gi Mz b j = if b = 5 + 5 + 3 * nl ∧ j = 1 then kx else gi (si M4 5 1 (nI (nl + 1))) b j) → ∃ N, f_X9_readLibrary_111 U (rpos (si R4 314 (6 + 24 * nl) v) q) 311 (nI nl) (nI (6 + 24 * nl)) 314 (nI (6 + 24 * nl) + 1) kx = some N ∧ gFx U N ∧ rD R N ∧ rTx N B n ∧ gi N 311 4 = nI q ∧ gi N 311 5 = 0 ∧ gi N 311 6 = -1 ∧ pD T Mz N B (nl + 1) nn := fun kx q Mz hkx hgz hlz hMz => by
          have hX6 : gFx U (rpos (si R4 314 (6 + 24 * nl) v) q) := gFx_gr hX5 (fun _ _ => rfl)
          obtain ⟨N, y1, y2, y3, y4, y5, y6, y7⟩ := m_lib111 (kx := kx) hX6 hlt (by rw [gi_si, if_neg (by omega), gi_si, if_neg (by omega)]; exact e5)
          have y311 : ∀ j, gi N 311 j = gi (rpos (si R4 314 (6 + 24 * nl) v) q) 311 j := fun j => y2.2.2 311 j (fun q => by omega)
          have hFN : rD R N := fz_trans (fz_si (fz_si hFR4 (Or.inr ⟨rfl, by omega, by omega, by omega⟩)) (Or.inl ⟨rfl, Or.inl rfl⟩)) (fz_mono y2 (fun b j q => Or.inr ⟨q.1, by have := q.2; omega, by have := q.2; omega, by have := q.2; omega⟩) (fun _ _ q => q.elim))
          have yR : ∀ j, j ≠ 1 → j ≠ 3 → ¬ (6 + 24 * nl + 1 ≤ j ∧ j ≤ 6 + 24 * nl + 2) → ¬ (6 + 24 * nl + 12 ≤ j ∧ j < 6 + 24 * nl + 24) → gi N 314 j = if j = 6 + 24 * nl then v else gi R 314 j := fun j q1 q2 q3 q4 => by
            rw [y2.2.2 314 j (fun q => by omega), gi_si, if_neg (by omega), gi_si]
            by_cases ej : j = 6 + 24 * nl
            · rw [if_pos ⟨rfl, ej⟩, if_pos ej]
            · rw [if_neg (fun q => ej q.2), if_neg ej]
              exact hR4 j
          obtain ⟨w1, w2⟩ := hw324 N (fun b j => y2.2.1 b j (fun q => q)) Mz hlz
          have hM4 : ∀ b j, dIn 5 b j → ¬ (b = 5 ∧ j = 1) → ¬ (b = 10 + 3 * nl ∨ b = 11 + 3 * nl) → gi Mz b j = gi M b j := fun b j q1 q2 q3 => by
            rw [hMz b j q1, if_neg (by omega), gi_si, if_neg q2, b2.2.2 b j (fun q => by omega)]
            exact hM3 b j q1
          have hL : ∀ j, (j = 0 ∨ j = 2 ∨ j = 5) → gi Mz (5 + 5 + 3 * nl) j = gi M4 (5 + 5 + 3 * nl) j := fun j hj => by
            rw [hMz _ _ (dIn_lib hlt (by omega)), if_neg (by omega), gi_si, if_neg (by omega)]
          have hkp : dKp Mz 5 nl = kx := by
            show gi Mz (5 + 5 + 3 * nl) 1 = kx
            rw [hMz _ _ (dIn_lib hlt (Or.inr (Or.inl rfl))), if_pos ⟨rfl, rfl⟩]
          refine ⟨N, y1, gFx_fz hX6 y2, hFN, rTx_rF hR (rD_F hFN), by rw [y311, gi_si, if_pos ⟨rfl, rfl⟩], by rw [y311, gi_si, if_neg (by omega)]; exact hg5, by rw [y311, gi_si, if_neg (by omega)]; exact (e6 6).trans k6.2.2.2.2.2.2.2, pD_lib hD' hlt (fun b j => (hgz b j).trans (hgr3 b j)) hM4 ?_ ⟨t, k3, (hL 0 (Or.inl rfl)).trans (b3.trans k3'), by rw [yR _ (by omega) (by omega) (by omega) (by omega), if_pos rfl]; exact k3'⟩ ⟨by rw [hkp]; exact hkx, by rw [hkp]; exact y3⟩ ⟨(hL 2 (Or.inr (Or.inl rfl))).trans b5, y4⟩ ⟨(hL 5 (Or.inr (Or.inr rfl))).trans b6, ?_⟩ (fun z hz => ⟨?_, y7 z hz⟩) (fun j q1 q2 q3 q4 => by rw [yR j q2 q3 (by omega) (by omega), if_neg (by omega)]) y5 y6 w1 w2⟩
          · rw [hMz _ _ (dIn_hd (Or.inl rfl)), if_neg (by omega), gi_si, if_pos ⟨rfl, rfl⟩]
          · rw [yR _ (by omega) (by omega) (by omega) (by omega), if_neg (by omega)]
            exact h5 nl (Nat.le_refl nl) hlt
          · show gi Mz (5 + 6 + 3 * nl) z = -1
            rw [hMz _ _ (dIn_off hlt hz), if_neg (by omega), gi_si, if_neg (by omega)]
            exact b7 z hz
        have hse3 := k6.2.2.2.2.2.1
        have hs12 := f10
        have hse2 := f9.2.2.2.2.2.1.1
        by_cases kw : isKw B n s3 7
        · have hee := kw2 kw
          have hX6 : gFx T (si (si M4 5 1 (nI (nl + 1))) (5 + 5 + 3 * nl) 1 1) := gFx_gr hXM5 (fun _ _ => rfl)
          have hF6 : cD M (si (si M4 5 1 (nI (nl + 1))) (5 + 5 + 3 * nl) 1 1) := fz_si hF5 (Or.inr (Or.inl (dIn_lib hlt (Or.inr (Or.inl rfl)))))
          have hT6 : cT (si (si M4 5 1 (nI (nl + 1))) (5 + 5 + 3 * nl) 1 1) B n s3 e3' := cT_oth hT5 (fun b j hb => by rw [gi_si, if_neg (by omega)]) rfl
          rw [if_pos kw, if_pos kw, if_neg (show ¬ ((1 : Int32) = 0) by decide)]
          rw [Option.bind_some]
          dsimp only
          rw [if_neg (show ¬ ((1 : Int32) = 0) by decide)]
          have adv := fun N hXN hTN hpN hgN haN => j_adv (U := U) (R := N) hX6 hXN hT6 hTN hpN hgN haN
          obtain ⟨Ma, sa, ea, ca1, ca2, ca3, ca4⟩ := c_advance hX6 hT6.1 hT6.2.2.1 hT6.2.2.2.2.1
          obtain ⟨N, y1, y2, y3, y4, y5, y6, y7, y8⟩ := fin 1 (s3 + gSl 7) Ma (Or.inr rfl) (fun b j => (ca4.1 b j).trans (b2.1 b j)) (fun b j hb => (ca4.2.1 b j (fun q => by unfold tL at q; omega)).trans (b2.2.1 b j (fun q => q))) (fun b j hd => by
            rw [ca4.2.2 b j (fun z => cS0_5 hd (Or.inl z)), gi_si])
          rw [y1, r_2_0 hX6, Option.bind_some, ca1, Option.bind_some]
          refine ⟨Ma, N, rfl, fz_trans hF6 (cP_D (cP_t ca4)), y3, Or.inl ⟨rfl, sa, ea, s3 + gSl 7, ⟨gFx_fz hX6 ca4, y2, ca3, y4, y5, by rw [← hee]; exact ca2, y6, y7⟩, by have := hse3.1; omega, y8⟩⟩
        · rw [if_neg kw, if_neg kw, if_pos rfl]
          rw [Option.bind_some]
          dsimp only
          rw [if_pos rfl]
          obtain ⟨N, y1, y2, y3, y4, y5, y6, y7, y8⟩ := fin 0 s3 (si M4 5 1 (nI (nl + 1))) (Or.inl rfl) (fun b j => b2.1 b j) (fun b j hb => b2.2.1 b j (fun q => q)) (fun b j hd => by
            by_cases eb : b = 5 + 5 + 3 * nl ∧ j = 1
            · rw [if_pos eb, eb.1, eb.2, gi_si, if_neg (by omega)]
              exact b4
            · rw [if_neg eb])
          rw [y1]
          exact ⟨_, N, rfl, hF5, y3, Or.inl ⟨rfl, s3, e3', s3, ⟨hXM5, y2, hT5, y4, y5, ⟨Nat.le_refl _, hse3.2.1, fun j q1 q2 => by omega, hse3.2.2.2⟩, y6, y7⟩, by have := hse3.1; omega, y8⟩⟩
      · have hgb : gi (si R4 314 (6 + 24 * nl) v) 311 5 ≠ 0 := by rw [e6]; exact bad_R (R' := R4) k2
        obtain ⟨N, y1, y2, -⟩ := m_lib111 (kx := 0) hX5 hlt (by rw [gi_si, if_neg (by omega)]; exact e5)
        rw [show f_X5_readNumber T M2 2 999 = some (0, M3) from k1, Option.bind_some, if_neg (fun q => q rfl), m_bad hgb, Option.bind_some, if_pos rfl, y1]
        refine ⟨M3, N, rfl, hFM3, fz_trans (fz_si hFR4 (Or.inr ⟨rfl, by omega, by omega, by omega⟩)) (fz_mono y2 (fun b j q => Or.inr ⟨q.1, by have := q.2; omega, by have := q.2; omega, by have := q.2; omega⟩) (fun _ _ q => q.elim)), Or.inr ⟨rfl, bad_R2 k2 ?_ ?_, kP_S hD'.2.2.2.2.2.2.2 (fun b j q => ((g2.2.2 b j (cS0_5 q)).trans (f3.2.2 b j (cS0_5 q))).trans (c3.2.2 b j (fun z => cS0_5 q (Or.inl z))))⟩⟩
        · rw [y2.2.2 311 5 (fun q => by omega), e6]
        · rw [y2.2.2 311 6 (fun q => by omega), e6]
    · rw [f1, Option.bind_some, if_pos rfl, f2, if_neg (fun q => q rfl)]
      exact ⟨_, _, rfl, fz_trans (cP_D (cP_t c3)) (cP_D f3), rE_D d4, Or.inr ⟨rfl, f4, kP_P hD'.2.2.2.2.2.2.2 (fz_trans (cP_t c3) f3)⟩⟩
end PJM
