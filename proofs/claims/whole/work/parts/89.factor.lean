/-! A FACTOR of a weight on both sides -/
theorem sgn_40 : sgn 40 := by unfold sgn isL isD; omega
theorem sgn_41 : sgn 41 := by unfold sgn isL isD; omega
theorem sgn_42 : sgn 42 := by unfold sgn isL isD; omega
theorem sgn_43 : sgn 43 := by unfold sgn isL isD; omega
theorem sgn_45 : sgn 45 := by unfold sgn isL isD; omega
theorem sgn_47 : sgn 47 := by unfold sgn isL isD; omega
theorem sgn_59 : sgn 59 := by unfold sgn isL isD; omega
theorem rQ_F {R R' : gM} (h : rQ9 R R') : rF R R' := fz_mono h (fun b j q => by unfold rS9 rS0 at q; unfold rS; omega) (fun _ _ q => q.elim)
/-- what a part of a weight leaves -/
def jW (T U : gT) (M R : gM) (B : Nat → Nat) (n d p H : Nat) (cr : Option (Int32 × gM)) (rr : Option gM) : Prop := ∃ M' R', rr = some R' ∧ cQ M M' ∧ rQ9 R R' ∧ ((cr = some (1, M') ∧ ∃ s' e' p' F', pS T U M' R' B n s' e' p' ∧ p + 1 ≤ p' ∧ cW M' R' F' (H + 1) ∧ 2 * F' ≤ p' + 1 ∧ gi R' 311 13 = nI d) ∨ (cr = some (0, M') ∧ bad M' R'))
/-- where a part of a weight begins -/
def pV (T U : gT) (M R : gM) (B : Nat → Nat) (n s e p d F H : Nat) : Prop := pS T U M R B n s e p ∧ cW M R F H ∧ 2 * F ≤ p ∧ gi R 311 13 = nI d
section PJA
variable {T U : gT} {M R M' R' : gM} {B : Nat → Nat} {n s e p F H d j : Nat} {rc : gRecT_X5_readSum} {rr : gRecT_X9_sum}
theorem cW_fr2 (h : cW M R F H) (h5 : gi M' 2 5 = gi M 2 5) (h36 : ∀ t, gi M' 36 t = gi M 36 t) (hR : ∀ j, gi R' 314 j = gi R 314 j) : cW M' R' F H := by
  obtain ⟨k, m, a1, a2, a3, a4, a5, a6, a7⟩ := h
  refine ⟨k, m, h5.trans a1, (hR 5).trans a2, a3, a4, a5, fun t ht => ?_, a7⟩
  obtain ⟨b1, b2, b3⟩ := a6 t ht
  exact ⟨(h36 t).trans b1, (hR _).trans b2, fun y => (hR _).trans (b3 y)⟩
/-- a number or a quantity was read, its item goes into both codes, and both stand as before -/
theorem pS_item (h : pS T U M R B n s e p) (hQ : cQ M M') (hQ2 : rQ9 R R') (h1 : ∀ b j, b ≠ 36 → ¬ (b = 2 ∧ j = 5) → gi M' b j = gi M b j) (h2 : ∀ b j, gl M' b j = gl M b j) (h3 : ∀ b j, b ≠ 314 → gi R' b j = gi R b j) : pS T U M' R' B n s e p := pS_fr h hQ.1 (fun b j hb => h1 b j (by omega) (by omega)) (h2 3 5) hQ2.1 (rQ_F hQ2) (h3 _ _ (by decide)) (h3 _ _ (by decide)) (h3 _ _ (by decide))
theorem j_factor (hd : d + j = 4) (hrec : 1 ≤ j → ∀ (M R : gM) (s e p F H : Nat), pV T U M R B n s e p (d + 1) F H → H + 2 * j + 1 ≤ 11 → jW T U M R B n (d + 1) p H (rc T M 2 (nI (d + 1))) (rr U R 311)) (hbad : ∀ R, gi R 311 5 ≠ 0 → rr U R 311 = some R) (h : pV T U M R B n s e p d F H) (hH : H + 2 * j + 1 ≤ 11) : jW T U M R B n d p H (f_X5_readFactor rc T M 2 (nI d)) (f_X9_factor rr U R 311) := by
  obtain ⟨⟨hX, hXR, hT, hR, hp, hsy, hg, ha⟩, hW, hF, h13⟩ := h
  have one : ¬ ((1 : Int32) = 0) := by decide
  have hXp : gFx U (rpos R s) := gFx_gr hXR (fun _ _ => rfl)
  have hgp : gi (rpos R s) 311 5 = 0 := by rw [gi_si, if_neg (by omega)]; exact hg
  have hap : gi (rpos R s) 311 6 = -1 := by rw [gi_si, if_neg (by omega)]; exact ha
  have hpp : gi (rpos R s) 311 4 = nI s := by rw [gi_si, if_pos ⟨rfl, rfl⟩]
  have h13p : gi (rpos R s) 311 13 = nI d := by rw [gi_si, if_neg (by omega)]; exact h13
  have hRp : rTx (rpos R s) B n := rTx_rF hR (rP_F rP_pos)
  have hEp : rE R (rpos R s) := rP_E rP_pos
  have hWp : cW M (rpos R s) F H := cW_fr hW fz_refl hEp
  have hn8 := hR.2.1
  obtain ⟨y1, y2, y3, y4⟩ := hsy
  have hsy3 : Sy B n s s := ⟨Nat.le_refl _, y2, fun j q1 q2 => by omega, y4⟩
  obtain ⟨k1, k2⟩ := c_isSign (T := T) (c := 40) (d := Classical.propDecidable _) sgn_40 hT
  unfold f_X5_readFactor f_X9_factor
  rw [r_2_0 hX, Option.bind_some, show f_X6_isSign T M 3 (40 : Int32) = _ from k1, m_good hg, m_next hXR hR hp ⟨y1, y2, y3, y4⟩]
  simp only [Option.bind_some]
  rw [if_pos one]
  by_cases c40 : s < n ∧ B s = 40
  · have he := k2 c40
    rw [if_pos c40, if_neg one, if_pos c40.1, c40.2, if_neg (show ¬ ¬ (nI 40 = (40 : Int32)) from fun q => q rfl), h13p]
    unfold f_X9_factor_37
    by_cases d4 : d = 4
    · subst d4
      have hge : gi (rerr (rpos R s) (-7) s) 311 5 ≠ 0 := by
        rw [gi_si, if_neg (by omega), gi_si, if_pos ⟨rfl, rfl⟩]
        decide
      have hge2 : ∀ x y : Int32, gi (si (si (rerr (rpos R s) (-7) s) 311 4 x) 311 13 y) 311 5 ≠ 0 := fun x y => by rw [gi_si, if_neg (by omega), gi_si, if_neg (by omega)]; exact hge
      rw [if_neg (show ¬ nI 4 < (4 : Int32) by decide), if_neg (fun q => q (show nI 4 = (4 : Int32) from rfl)), c_error hX hT.2.1, Option.bind_some, chk_ok (Or.inl rfl), Option.bind_some, hpp, m_report hgp, Option.bind_some, hbad _ (hge2 _ _), Option.bind_some, m_expect_bad (hge2 _ _), Option.bind_some]
      exact ⟨_, _, rfl, cP_Q cP_err, fz_si (fz_si (fz_si (rE_Q (rE_err rP_pos)) (Or.inl ⟨rfl, by omega⟩)) (Or.inr (Or.inl ⟨rfl, rfl⟩))) (Or.inr (Or.inl ⟨rfl, rfl⟩)), Or.inr ⟨rfl, bad_R2 (bad_mk (R1 := rpos R s) (by decide)) (by rw [gi_si, if_neg (by omega), gi_si, if_neg (by omega), gi_si, if_neg (by omega)]) (by rw [gi_si, if_neg (by omega), gi_si, if_neg (by omega), gi_si, if_neg (by omega)])⟩⟩
    · have hd4 : d < 4 := by omega
      have h13q : gi (si (rpos R s) 311 4 (nI (s + 1))) 311 13 = nI d := by rw [gi_si, if_neg (by omega)]; exact h13p
      have hF1 : rQ9 R (si (si (rpos R s) 311 4 (nI (s + 1))) 311 13 (nI (d + 1))) := fz_si (fz_si (rE_Q hEp) (Or.inl ⟨rfl, by omega⟩)) (Or.inr (Or.inl ⟨rfl, rfl⟩))
      have hX1R := gFx_fz hXR hF1
      obtain ⟨M1, s1, e1, c1, c2, c3⟩ := j_adv (U := U) (R := si (si (rpos R s) 311 4 (nI (s + 1))) 311 13 (nI (d + 1))) hX hX1R hT (rTx_rF hR (rQ_F hF1)) (by rw [gi_si, if_neg (by omega), gi_si, if_pos ⟨rfl, rfl⟩, he]) (by rw [gi_si, if_neg (by omega), gi_si, if_neg (by omega)]; exact hgp) (by rw [gi_si, if_neg (by omega), gi_si, if_neg (by omega)]; exact hap)
      rw [he] at c2
      obtain ⟨M2, R2, r1, r2, r3, r4⟩ := hrec (by omega) M1 _ s1 e1 (s + 1) F H ⟨c2, cW_fr2 hWp (c3.2.2 2 5 (fun q => by unfold tS at q; omega)) (fun t => c3.2.2 36 t (fun q => by unfold tS at q; omega)) (fun t => by rw [gi_si, if_neg (by omega), gi_si, if_neg (by omega)]), by omega, by rw [gi_si, if_pos ⟨rfl, rfl⟩]⟩ (by omega)
      have hcM : cQ M M2 := fz_trans (cP_Q (cP_t c3)) r2
      have hrM : rQ9 R R2 := fz_trans hF1 r3
      rw [if_pos (show nI d < (4 : Int32) from nI_lt (b := 4) hd4 (by decide)), if_pos (show ¬ nI d = (4 : Int32) from fun q => d4 ((nI_eq (b := 4) (by omega) (by decide)).mp q)), c1, Option.bind_some, hpp, nI_1, nI_1, h13q, nI_1, r1, Option.bind_some]
      rcases r4 with ⟨q1, s2, e2, p2, F2, q2, q3, q4, q5, q6⟩ | ⟨q1, q2⟩
      · obtain ⟨M3, R3, t1, t2, t3, t4⟩ := j_sign sgn_41 q2
        have h3 : gi R3 311 13 = nI (d + 1) := (t3.2.2 311 13 (fun q => by unfold rS0 at q; omega)).trans q6
        have hp2 := q2.2.2.2.2.2.1.1
        rw [q1, Option.bind_some, if_neg one, show f_X9_expect U R2 311 (41 : Int32) = some R3 from t1, Option.bind_some, h3]
        try dsimp only
        have e3 : nI (d + 1) - (1 : Int32) = nI d := by rw [← nI_1]; exact Int32.add_sub_cancel _ _
        rw [e3]
        have hfr : rQ9 R (si R3 311 13 (nI d)) := fz_si (fz_trans hrM (rE_Q t3)) (Or.inr (Or.inl ⟨rfl, rfl⟩))
        rcases t4 with ⟨u1, s3, e3, u2, u3, u4⟩ | ⟨u1, u2⟩
        · rw [show f_X5_readSign T M2 2 (41 : Int32) = some (1, M3) from u1, Option.bind_some, if_neg one]
          exact ⟨M3, _, rfl, fz_trans hcM (cP_Q t2), hfr, Or.inl ⟨rfl, s3, e3, s2 + 1, F2, pS_fr u2 (fun _ _ => rfl) (fun _ _ _ => rfl) rfl (fun _ _ => rfl) (fz_si fz_refl (Or.inr ⟨rfl, by omega⟩)) (by rw [gi_si, if_neg (by omega)]) (by rw [gi_si, if_neg (by omega)]) (by rw [gi_si, if_neg (by omega)]), by omega, cW_fr2 (cW_fr q4 t2 t3) rfl (fun _ => rfl) (fun t => by rw [gi_si, if_neg (by omega)]), by omega, by rw [gi_si, if_pos ⟨rfl, rfl⟩]⟩⟩
        · rw [show f_X5_readSign T M2 2 (41 : Int32) = some (0, M3) from u1, Option.bind_some, if_pos rfl]
          exact ⟨M3, _, rfl, fz_trans hcM (cP_Q t2), hfr, Or.inr ⟨rfl, bad_R2 u2 (by rw [gi_si, if_neg (by omega)]) (by rw [gi_si, if_neg (by omega)])⟩⟩
      · have hge : gi R2 311 5 ≠ 0 := bad_R (R' := R2) q2
        rw [q1, Option.bind_some, if_pos rfl, m_expect_bad hge, Option.bind_some]
        exact ⟨M2, _, rfl, hcM, fz_si hrM (Or.inr (Or.inl ⟨rfl, rfl⟩)), Or.inr ⟨rfl, bad_R2 q2 (by rw [gi_si, if_neg (by omega)]) (by rw [gi_si, if_neg (by omega)])⟩⟩
  · have hne : ¬ (if s < n then nI (B s) else -1) = (40 : Int32) := by
      by_cases c : s < n
      · rw [if_pos c]
        exact fun q => c40 ⟨c, (nI_eq (b := 40) (by have := (hR.2.2 s c).1; omega) (by decide)).mp q⟩
      · rw [if_neg c]
        decide
    rw [if_neg c40, if_pos rfl, if_pos hne, m_isDig hRp, Option.bind_some]
    have syn : ∀ (Rz : gM) (hz : rE R Rz), jW T U M R B n d p H (some (0, si (si M 2 9 (-2)) 2 10 (nI s))) (some (rerr Rz (-2) s)) := fun Rz hz => ⟨_, _, rfl, cP_Q cP_err, fz_si (fz_si (rE_Q hz) (Or.inl ⟨rfl, by omega⟩)) (Or.inl ⟨rfl, by omega⟩), Or.inr ⟨rfl, bad_mk (by decide)⟩⟩
    by_cases kd : gi M 3 3 = 2
    · have hd2 := (c_kind hT).mp kd
      obtain ⟨M2, R2, v, g1, g2, g3, g4⟩ := j_number (hi := 9999) (by decide) (show pS T U M (rpos R s) B n s e s from ⟨hX, hXp, hT, hRp, hpp, hsy3, hgp, hap⟩)
      rw [if_neg (fun q => q kd), if_pos hd2, if_neg one]
      unfold f_X9_factor_142 f_X9_factor_159 f_X9_factor_170
      rw [if_neg (show ¬ (0 : Int32) ≤ -1 by decide), show f_X9_number U (rpos R s) 311 (0 : Int32) (9999 : Int32) = some (v, R2) from g1, Option.bind_some, if_neg (show ¬ (0 : Int32) ≤ -1 by decide)]
      try dsimp only
      rcases g4 with ⟨q1, q2, ⟨x, x1, x2⟩, -, -, s', e', q3, q4⟩ | ⟨q1, q2⟩
      · have hq := q3.2.2.2.2.2.1
        have hen : e ≤ n := hT.2.2.2.2.1
        obtain ⟨M3, R3, R4, a1, a2, a3, a4, a5, a6, a7, a8, a9⟩ := cW_add (cW_fr hWp g2 g3) (o := 0) (v := x) (Or.inl ⟨rfl, x1, by omega⟩) (x := v) (by rw [x2]; rfl) q3.1 q3.2.1 q3.2.2.2.2.2.2.1 (by omega)
        rw [show f_X5_readNumber T M 2 (9999 : Int32) = some (1, M2) from q1, Option.bind_some, if_pos one]
        try dsimp only
        rw [q2, a1, Option.bind_some, show f_X9_emit U R2 311 (0 : Int32) = some R3 from a2, Option.bind_some, x2, a3, Option.bind_some]
        exact ⟨M3, R4, rfl, fz_trans (cP_Q g2) a4, fz_trans (fz_trans (rE_Q hEp) (rE_Q g3)) a5, Or.inl ⟨rfl, s', e', e, F + 1, pS_item q3 a4 a5 a6 a7 a8, by omega, a9, by omega, by rw [a8 _ _ (by decide), g3.2.2 311 13 (fun q => by unfold rS0 at q; omega)]; exact h13p⟩⟩
      · have hge : gi R2 311 5 ≠ 0 := bad_R (R' := R2) q2
        rw [show f_X5_readNumber T M 2 (9999 : Int32) = some (0, M2) from q1, Option.bind_some, if_neg (fun q => q rfl), m_emit_bad hge, Option.bind_some, m_emit_bad hge, Option.bind_some]
        exact ⟨M2, R2, rfl, cP_Q g2, fz_trans (rE_Q hEp) (rE_Q g3), Or.inr ⟨rfl, q2⟩⟩
    · have hnd : ¬ (s < n ∧ isD (B s)) := fun q => kd ((c_kind hT).mpr q)
      rw [if_pos kd, if_neg hnd, if_pos rfl]
      have quant : ∀ (v : Nat) (x y : Int32), v < 4 → isKw B n s (9 + v) → x = -1 - nI v → y = nI v → (0 : Int32) ≤ y → jW T U M R B n d p H ((f_X5_addCode T M 2 x).bind fun x8 => (ldr T x8 2 0 6).bind fun b9 => (f_X6_advance T x8 b9).bind fun x10 => some ((1 : Int32), x10)) (f_X9_factor_142 rr U (rpos (rpos R s) (s + gSl (9 + v))) 311 y) := fun v x y hv hkw hx hy hy0 => by
        have hXq : gFx U (rpos (rpos R s) (s + gSl (9 + v))) := gFx_gr hXp (fun _ _ => rfl)
        have hEq : rE R (rpos (rpos R s) (s + gSl (9 + v))) := fz_trans hEp (rP_E rP_pos)
        have hek := (c_isWord (T := T) (M := M) (d := Classical.propDecidable _) (show 9 + v < 13 by omega) hT).2 hkw
        have hkc := (kc_ok (9 + v) (by omega)).1
        have hen : e ≤ n := hT.2.2.2.2.1
        have hgq : gi (rpos (rpos R s) (s + gSl (9 + v))) 311 5 = 0 := by rw [gi_si, if_neg (by omega)]; exact hgp
        obtain ⟨M3, R3, R4, a1, a2, a3, a4, a5, a6, a7, a8, a9⟩ := cW_add (cW_fr hW (M' := M) fz_refl hEq) (o := 1) (v := v) (Or.inr ⟨rfl, hv, by omega⟩) (x := x) (by rw [hx]; rfl) hX hXq hgq (by omega)
        have hX3 := gFx_fz hX a4
        have hT3 : cT M3 B n s e := cT_oth hT (fun b j hb => a6 b j (by omega) (by omega)) (a7 3 5)
        obtain ⟨M4, s', e', b1, b2, b3⟩ := j_adv (U := U) (R := R4) hX3 (gFx_fz hXq a5) hT3 (rTx_rF (rTx_rF hR (rE_F hEq)) (rQ_F a5)) (by rw [a8 _ _ (by decide), gi_si, if_pos ⟨rfl, rfl⟩, hek]) (by rw [a8 _ _ (by decide)]; exact hgq) (by rw [a8 _ _ (by decide), gi_si, if_neg (by omega)]; exact hap)
        unfold f_X9_factor_142 f_X9_factor_159 f_X9_factor_170
        rw [if_pos hy0, if_pos hy0, a1, Option.bind_some, r_2_0 hX3, Option.bind_some, b1, Option.bind_some, show f_X9_emit U (rpos (rpos R s) (s + gSl (9 + v))) 311 (1 : Int32) = some R3 from a2, Option.bind_some, hy, a3, Option.bind_some]
        exact ⟨M4, R4, rfl, fz_trans a4 (cP_Q (cP_t b3)), fz_trans (rE_Q hEq) a5, Or.inl ⟨rfl, s', e', e, F + 1, b2, by omega, cW_fr a9 (cP_t b3) fz_refl, by omega, by rw [a8 _ _ (by decide), gi_si, if_neg (by omega)]; exact h13p⟩⟩
      unfold f_X5_quantityCode
      have tw : ∀ i, i < 13 → isKw B n s i → f_X9_takeWord U (rpos R s) 311 i = some (1, rpos (rpos R s) (s + gSl i)) := fun i hi q => by
        rw [m_takeWord (d := Classical.propDecidable _) hi hXp hRp hgp hpp hsy3, if_pos q]
      have tn : ∀ i, i < 13 → ¬ isKw B n s i → f_X9_takeWord U (rpos R s) 311 i = some (0, rpos R s) := fun i hi q => by
        rw [m_takeWord (d := Classical.propDecidable _) hi hXp hRp hgp hpp hsy3, if_neg q]
        show some ((0 : Int32), si (si R 311 4 (nI s)) 311 4 (nI s)) = _
        rw [si_two]
      have cw : ∀ i, i < 13 → isKw B n s i → f_X6_isWord T M 3 i = some 1 := fun i hi q => by
        rw [(c_isWord (T := T) (M := M) (d := Classical.propDecidable _) hi hT).1, if_pos q]
      have cn : ∀ i, i < 13 → ¬ isKw B n s i → f_X6_isWord T M 3 i = some 0 := fun i hi q => by
        rw [(c_isWord (T := T) (M := M) (d := Classical.propDecidable _) hi hT).1, if_neg q]
      rw [r_2_0 hX, Option.bind_some]
      by_cases w9 : isKw B n s 9
      · rw [cw 9 (by decide) w9, Option.bind_some, if_neg one, tw 9 (by decide) w9]
        repeat rw [Option.bind_some]
        rw [if_pos (show ¬ ((-1 : Int32) = 0) by decide)]
        try dsimp only
        rw [if_neg one]
        exact quant 0 _ _ (by decide) w9 rfl rfl (by decide)
      · rw [cn 9 (by decide) w9, Option.bind_some, if_pos rfl, tn 9 (by decide) w9]
        repeat rw [Option.bind_some]
        try dsimp only
        rw [if_pos rfl]
        by_cases w10 : isKw B n s 10
        · rw [cw 10 (by decide) w10, Option.bind_some, if_neg one, tw 10 (by decide) w10]
          repeat rw [Option.bind_some]
          rw [if_pos (show ¬ ((-2 : Int32) = 0) by decide)]
          try dsimp only
          rw [if_neg one]
          exact quant 1 _ _ (by decide) w10 (by decide) rfl (by decide)
        · rw [cn 10 (by decide) w10, Option.bind_some, if_pos rfl, tn 10 (by decide) w10]
          repeat rw [Option.bind_some]
          try dsimp only
          rw [if_pos rfl]
          by_cases w11 : isKw B n s 11
          · rw [cw 11 (by decide) w11, Option.bind_some, if_neg one, tw 11 (by decide) w11]
            repeat rw [Option.bind_some]
            rw [if_pos (show ¬ ((-3 : Int32) = 0) by decide)]
            try dsimp only
            rw [if_neg one]
            exact quant 2 _ _ (by decide) w11 (by decide) rfl (by decide)
          · rw [cn 11 (by decide) w11, Option.bind_some, if_pos rfl, tn 11 (by decide) w11]
            repeat rw [Option.bind_some]
            try dsimp only
            rw [if_pos rfl]
            by_cases w12 : isKw B n s 12
            · rw [cw 12 (by decide) w12, Option.bind_some, if_neg one, tw 12 (by decide) w12]
              repeat rw [Option.bind_some]
              rw [if_pos (show ¬ ((-4 : Int32) = 0) by decide)]
              try dsimp only
              rw [if_neg one]
              exact quant 3 _ _ (by decide) w12 (by decide) rfl (by decide)
            · obtain ⟨w, R6, u1, u2⟩ := m_number (hi := 9999) (by decide) hXp hRp hgp hpp hsy3
              unfold f_X9_factor_142 f_X9_factor_159 f_X9_factor_170
              rw [cn 12 (by decide) w12, Option.bind_some, if_pos rfl, tn 12 (by decide) w12]
              repeat rw [Option.bind_some]
              rw [if_neg (fun q => q rfl), c_syn hX hT.2.1, Option.bind_some, chk_ok (Or.inl rfl), Option.bind_some]
              try dsimp only
              rw [if_pos rfl, if_neg (show ¬ (0 : Int32) ≤ -1 by decide), show f_X9_number U (rpos R s) 311 (0 : Int32) (9999 : Int32) = some (w, R6) from u1, Option.bind_some, if_neg (show ¬ (0 : Int32) ≤ -1 by decide)]
              try dsimp only
              rcases u2 with ⟨e9, g1, g2, -⟩ | ⟨e9, R9, g1, g2, -⟩ | ⟨-, R9, g2, g3⟩
              · exact absurd ⟨g1, g2⟩ hnd
              · exact absurd ⟨g1, g2⟩ hnd
              · have hge : gi (rerr R9 (-2) s) 311 5 ≠ 0 := by
                  rw [gi_si, if_neg (by omega), gi_si, if_pos ⟨rfl, rfl⟩]
                  decide
                rw [g2, m_emit_bad hge, Option.bind_some, m_emit_bad hge, Option.bind_some]
                exact syn R9 (fz_trans hEp (rP_E g3))
end PJA
