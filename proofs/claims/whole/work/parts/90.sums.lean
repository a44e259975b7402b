/-! TERMS AND SUMS of a weight on both sides -/
section PJT
variable {T U : gT} {M R M' R' : gM} {B : Nat → Nat} {n s e p F H d j : Nat} {rc : gRecT_X5_readSum} {rr : gRecT_X9_sum}
/-- both between two parts of a weight -/
def pI (T U : gT) (M R : gM) (B : Nat → Nat) (n d H p : Nat) : Prop := ∃ s e F, pS T U M R B n s e p ∧ cW M R F (H + 1) ∧ 2 * F ≤ p + 1 ∧ gi R 311 13 = nI d
theorem pI_le (h : pI T U M R B n d H p) : p ≤ 800 := by
  obtain ⟨s, e, F, h1, -⟩ := h
  have := h1.2.2.2.2.2.1.1
  have := h1.2.2.2.2.2.1.2.1
  have := h1.2.2.2.1.2.1
  omega
theorem gloop_one {α β : Type} {A : α → Option (β ⊕ α)} {a : α} {e : β} (h : A a = some (.inl e)) (k : Nat) : gloop A (k + 1) a = some e := by
  unfold gloop
  rw [h]
theorem gloop_two {α β : Type} {A : α → Option (β ⊕ α)} {a a' : α} (h : A a = some (.inr a')) (k : Nat) : gloop A (k + 1) a = gloop A k a' := by
  show (match A a with | none => none | some (.inl e) => some e | some (.inr a') => gloop A k a') = _
  rw [h]
theorem j_loop {Ac : Int32 × gM → Option ((Int32 × gM) ⊕ (Int32 × gM))} {Ar : gM → Option (gM ⊕ gM)} (hb : ∀ R, gi R 311 5 ≠ 0 → Ar R = some (.inl R)) (step : ∀ (i p : Nat) (M R : gM), i + 1 ≤ p → pI T U M R B n d H p → (∃ R' p', Ac (nI i, M) = some (.inl (1, M)) ∧ Ar R = some (.inl R') ∧ p ≤ p' ∧ pI T U M R' B n d H p' ∧ rQ9 R R') ∨ (∃ M' R', Ac (nI i, M) = some (.inl (0, M')) ∧ Ar R = some (.inr R') ∧ bad M' R' ∧ cQ M M' ∧ rQ9 R R') ∨ ∃ M' R' p', p + 1 ≤ p' ∧ Ac (nI i, M) = some (.inr (nI (i + 1), M')) ∧ Ar R = some (.inr R') ∧ pI T U M' R' B n d H p' ∧ cQ M M' ∧ rQ9 R R') : ∀ (c k i p : Nat) (M R : gM), c + 2 ≤ k → 801 ≤ p + c → i + 1 ≤ p → pI T U M R B n d H p → ∃ M' R', gloop Ar k R = some R' ∧ cQ M M' ∧ rQ9 R R' ∧ ((gloop Ac k (nI i, M) = some (1, M') ∧ ∃ p', p ≤ p' ∧ pI T U M' R' B n d H p') ∨ (gloop Ac k (nI i, M) = some (0, M') ∧ bad M' R'))
  | 0, k, i, p, M, R, hk, hc, hi, hP => by
    have := pI_le hP
    omega
  | c + 1, k, i, p, M, R, hk, hc, hi, hP => by
    obtain ⟨k, rfl⟩ : ∃ q, k = q + 1 := ⟨k - 1, by omega⟩
    rcases step i p M R hi hP with ⟨R1, p1, a1, a2, a3, a4, a5⟩ | ⟨M1, R1, a1, a2, a3, a4, a5⟩ | ⟨M1, R1, p1, a0, a1, a2, a3, a4, a5⟩
    · exact ⟨M, R1, gloop_one a2 k, fz_refl, a5, Or.inl ⟨gloop_one a1 k, p1, a3, a4⟩⟩
    · obtain ⟨k, rfl⟩ : ∃ q, k = q + 1 := ⟨k - 1, by omega⟩
      exact ⟨M1, R1, by rw [gloop_two a2, gloop_one (hb R1 (bad_R (R' := R1) a3))], a4, a5, Or.inr ⟨gloop_one a1 _, a3⟩⟩
    · obtain ⟨M2, R2, b1, b2, b3, b4⟩ := j_loop hb step c k (i + 1) p1 M1 R1 (by omega) (by omega) (by omega) a3
      refine ⟨M2, R2, by rw [gloop_two a2]; exact b1, fz_trans a4 b2, fz_trans a5 b3, ?_⟩
      rw [gloop_two a1]
      rcases b4 with ⟨b5, p2, b6, b7⟩ | b5
      · exact Or.inl ⟨b5, p2, by omega, b7⟩
      · exact Or.inr b5
theorem j_termB (hin : ∀ (M R : gM) (s e p F : Nat), pV T U M R B n s e p d F (H + 1) → jW T U M R B n d p (H + 1) (f_X5_readFactor rc T M 2 (nI d)) (f_X9_factor rr U R 311)) (i p : Nat) (M R : gM) (hi : i + 1 ≤ p) (h : pI T U M R B n d H p) : (∃ R' p', f_X5_readTerm_B12 rc T M 2 (nI d) (nI i) = some (.inl (1, M)) ∧ f_X9_term_B4 rr U R 311 = some (.inl R') ∧ p ≤ p' ∧ pI T U M R' B n d H p' ∧ rQ9 R R') ∨ (∃ M' R', f_X5_readTerm_B12 rc T M 2 (nI d) (nI i) = some (.inl (0, M')) ∧ f_X9_term_B4 rr U R 311 = some (.inr R') ∧ bad M' R' ∧ cQ M M' ∧ rQ9 R R') ∨ ∃ M' R' p', p + 1 ≤ p' ∧ f_X5_readTerm_B12 rc T M 2 (nI d) (nI i) = some (.inr (nI (i + 1), M')) ∧ f_X9_term_B4 rr U R 311 = some (.inr R') ∧ pI T U M' R' B n d H p' ∧ cQ M M' ∧ rQ9 R R' := by
  have hp8 := pI_le h
  obtain ⟨s, e, F, ⟨hX, hXR, hT, hR, hp, ⟨y1, y2, y3, y4⟩, hg, ha⟩, hW, hF, h13⟩ := h
  have one : ¬ ((1 : Int32) = 0) := by decide
  have hXp : gFx U (rpos R s) := gFx_gr hXR (fun _ _ => rfl)
  have hgp : gi (rpos R s) 311 5 = 0 := by rw [gi_si, if_neg (by omega)]; exact hg
  have hpp : gi (rpos R s) 311 4 = nI s := by rw [gi_si, if_pos ⟨rfl, rfl⟩]
  have hRp : rTx (rpos R s) B n := rTx_rF hR (rP_F rP_pos)
  have hsy3 : Sy B n s s := ⟨Nat.le_refl _, y2, fun j q1 q2 => by omega, y4⟩
  have hn8 := hR.2.1
  obtain ⟨k1, k2⟩ := c_isSign (T := T) (c := 42) (d := Classical.propDecidable _) sgn_42 hT
  obtain ⟨l1, l2⟩ := c_isSign (T := T) (c := 47) (d := Classical.propDecidable _) sgn_47 hT
  have m1 := m_next hXR hR hp ⟨y1, y2, y3, y4⟩
  have m2 : f_X9_next U (rpos R s) 311 = some (if s < n then nI (B s) else -1, rpos R s) := by
    rw [m_next hXp hRp hpp hsy3]
    show some (_, si (si R 311 4 (nI s)) 311 4 (nI s)) = _
    rw [si_two]
  have hch : ∀ c : Nat, c < 128 → ((if s < n then nI (B s) else -1) = nI c ↔ (s < n ∧ B s = c)) := fun c hc => by
    by_cases q : s < n
    · have := (hR.2.2 s q).1
      rw [if_pos q]
      exact ⟨fun y => ⟨q, (nI_eq (by omega) (by omega)).mp y⟩, fun y => by rw [y.2]⟩
    · rw [if_neg q]
      exact ⟨fun y => absurd y.symm (nI_nneg (v := c) (by omega) (by decide)), fun y => absurd y.1 q⟩
  have hc1 := hch 42 (by decide)
  have hc2 := hch 47 (by decide)
  have i8 : ¬ (800 : Int32) ≤ nI i := nI_ge (b := 800) (by omega) (by decide)
  have go : ∀ (o : Nat) (x y z : Int32), (2 ≤ o ∧ o ≤ 5) → e = s + 1 → x = wCls (o, 0) → (if z = 0 then f_X9_term_68 rr U = f_X9_term_68 rr U ∧ o = 5 else o = 4) → ((∃ M' R', f_X5_readTerm_62 rc T M 2 (nI d) (nI i) x = some (.inl (0, M')) ∧ f_X9_term_43 rr U (rpos R s) 311 z = some (.inr R') ∧ bad M' R' ∧ cQ M M' ∧ rQ9 R R') ∨ ∃ M' R' p', p + 1 ≤ p' ∧ f_X5_readTerm_62 rc T M 2 (nI d) (nI i) x = some (.inr (nI (i + 1), M')) ∧ f_X9_term_43 rr U (rpos R s) 311 z = some (.inr R') ∧ pI T U M' R' B n d H p' ∧ cQ M M' ∧ rQ9 R R') := fun o x y z ho he hx hz => by
    have hE1 : rE R (rpos R (s + 1)) := rP_E rP_pos
    have hX1R := gFx_fz hXR hE1
    obtain ⟨M1, s1, e1, c1, c2, c3⟩ := j_adv (U := U) (R := rpos R (s + 1)) hX hX1R hT (rTx_rF hR (rP_F rP_pos)) (by rw [gi_si, if_pos ⟨rfl, rfl⟩, he]) (by rw [gi_si, if_neg (by omega)]; exact hg) (by rw [gi_si, if_neg (by omega)]; exact ha)
    rw [he] at c2
    obtain ⟨M2, R2, r1, r2, r3, r4⟩ := hin M1 _ s1 e1 (s + 1) F ⟨c2, cW_fr hW (cP_t c3) hE1, by omega, by rw [gi_si, if_neg (by omega)]; exact h13⟩
    have hcM : cQ M M2 := fz_trans (cP_Q (cP_t c3)) r2
    have hrM : rQ9 R R2 := fz_trans (rE_Q hE1) r3
    unfold f_X5_readTerm_62 f_X9_term_43 f_X9_term_68
    rw [r_2_0 hX, Option.bind_some, c1, Option.bind_some, hpp, nI_1, nI_1, si_two, r1, Option.bind_some]
    rcases r4 with ⟨q1, s2, e2, p2, F2, q2, q3, q4, q5, q6⟩ | ⟨q1, q2⟩
    · have hp2 : p2 ≤ 800 := pI_le (H := H + 1) ⟨s2, e2, F2, q2, q4, q5, q6⟩
      obtain ⟨M3, R3, a1, a2, a4, a5, a6, a7, a8, a9⟩ := cW_op q4 ho (by omega) hx q2.1 q2.2.1 q2.2.2.2.2.2.2.1 (by omega)
      refine Or.inr ⟨M3, R3, p2, by omega, ?_, ?_, ⟨s2, e2, F2, pS_item q2 a4 a5 a6 a7 a8, a9, q5, by rw [a8 _ _ (by decide)]; exact q6⟩, fz_trans hcM a4, fz_trans hrM a5⟩
      · rw [q1, Option.bind_some, if_pos one, a1, Option.bind_some]
      · by_cases ez : z = 0
        · rw [if_pos ez] at hz
          rw [if_pos ez, show f_X9_emit U R2 311 (5 : Int32) = some R3 from by rw [hz.2] at a2; exact a2, Option.bind_some]
        · rw [if_neg ez] at hz
          rw [if_neg ez, show f_X9_emit U R2 311 (4 : Int32) = some R3 from by rw [hz] at a2; exact a2, Option.bind_some]
    · have hge : gi R2 311 5 ≠ 0 := bad_R (R' := R2) q2
      refine Or.inl ⟨M2, R2, ?_, ?_, q2, hcM, hrM⟩
      · rw [q1, Option.bind_some, if_neg (fun q => q rfl)]
      · rw [m_emit_bad hge, m_emit_bad hge, Option.bind_some]
        by_cases ez : z = 0
        · rw [if_pos ez]
        · rw [if_neg ez]
  unfold f_X5_readTerm_B12 f_X9_term_B4 f_X5_readTerm_43 f_X9_term_29
  rw [if_neg i8, r_2_0 hX]
  simp only [Option.bind_some]
  rw [show f_X6_isSign T M 3 (42 : Int32) = _ from k1, show f_X6_isSign T M 3 (47 : Int32) = _ from l1, m_good hg, m1]
  simp only [Option.bind_some]
  rw [if_neg one, m2]
  simp only [Option.bind_some]
  by_cases b1 : s < n ∧ B s = 42
  · rw [if_pos b1, if_pos one, if_neg one, if_pos (show (if s < n then nI (B s) else -1) = (42 : Int32) from hc1.mpr b1), if_neg (show ¬ ¬ (if s < n then nI (B s) else -1) = (42 : Int32) from fun q => q (hc1.mpr b1))]
    exact Or.inr (go 4 (-7 : Int32) 0 1 (by decide) (k2 b1) (by decide) (by rw [if_neg one]))
  · have n1 : ¬ (if s < n then nI (B s) else -1) = (42 : Int32) := fun q => b1 (hc1.mp q)
    rw [if_neg b1, if_neg (fun q => q rfl), if_neg n1]
    by_cases b2 : s < n ∧ B s = 47
    · rw [if_pos b2, if_neg one, if_pos rfl, if_neg (show ¬ ¬ (if s < n then nI (B s) else -1) = (47 : Int32) from fun q => q (hc2.mpr b2)), m2, Option.bind_some]
      dsimp only
      rw [if_pos n1]
      exact Or.inr (go 5 (-8 : Int32) 0 0 (by decide) (l2 b2) (by decide) (by rw [if_pos rfl]; exact ⟨rfl, rfl⟩))
    · rw [if_neg b2, if_pos rfl, if_pos (show ¬ (if s < n then nI (B s) else -1) = (47 : Int32) from fun q => b2 (hc2.mp q))]
      have hEp : rE R (rpos R s) := rP_E rP_pos
      exact Or.inl ⟨rpos R s, s, rfl, rfl, y1, ⟨s, e, F, ⟨hX, hXp, hT, hRp, hpp, hsy3, hgp, by rw [gi_si, if_neg (by omega)]; exact ha⟩, cW_fr hW fz_refl hEp, by omega, by rw [gi_si, if_neg (by omega)]; exact h13⟩, rE_Q hEp⟩
theorem j_term (hin0 : ∀ (M R : gM) (s e p F : Nat), pV T U M R B n s e p d F H → jW T U M R B n d p H (f_X5_readFactor rc T M 2 (nI d)) (f_X9_factor rr U R 311)) (hin : ∀ (M R : gM) (s e p F : Nat), pV T U M R B n s e p d F (H + 1) → jW T U M R B n d p (H + 1) (f_X5_readFactor rc T M 2 (nI d)) (f_X9_factor rr U R 311)) (h : pV T U M R B n s e p d F H) : jW T U M R B n d p H (f_X5_readTerm rc T M 2 (nI d)) (f_X9_term rr U R 311) := by
  have one : ¬ ((1 : Int32) = 0) := by decide
  obtain ⟨M1, R1, r1, r2, r3, r4⟩ := hin0 M R s e p F h
  have hb : ∀ R : gM, gi R 311 5 ≠ 0 → f_X9_term_B4 rr U R 311 = some (.inl R) := fun R hg => by
    unfold f_X9_term_B4
    rw [m_bad hg, Option.bind_some, if_pos rfl]
  unfold f_X5_readTerm f_X9_term
  rw [r1, Option.bind_some]
  rcases r4 with ⟨q1, s1, e1, p1, F1, q2, q3, q4, q5, q6⟩ | ⟨q1, q2⟩
  · obtain ⟨M2, R2, t1, t2, t3, t4⟩ := j_loop (T := T) (U := U) (B := B) (n := n) (d := d) (H := H) (Ac := fun x => f_X5_readTerm_B12 rc T x.2 2 (nI d) x.1) (Ar := fun x => f_X9_term_B4 rr U x 311) hb (fun i p M R hi hP => j_termB hin i p M R hi hP) 801 gFU 0 p1 M1 R1 (by decide) (by omega) (by omega) ⟨s1, e1, F1, q2, q4, q5, q6⟩
    rw [q1, Option.bind_some, if_pos one, t1, Option.bind_some]
    refine ⟨M2, R2, rfl, fz_trans r2 t2, fz_trans r3 t3, ?_⟩
    rcases t4 with ⟨u1, p2, u2, s2, e2, F2, u3, u4, u5, u6⟩ | ⟨u1, u2⟩
    · exact Or.inl ⟨by rw [show gloop (fun x => f_X5_readTerm_B12 rc T x.2 2 (nI d) x.1) gFU ((0 : Int32), M1) = some (1, M2) from u1, Option.bind_some], s2, e2, p2, F2, u3, by omega, u4, u5, u6⟩
    · exact Or.inr ⟨by rw [show gloop (fun x => f_X5_readTerm_B12 rc T x.2 2 (nI d) x.1) gFU ((0 : Int32), M1) = some (0, M2) from u1, Option.bind_some], u2⟩
  · have hge : gi R1 311 5 ≠ 0 := bad_R (R' := R1) q2
    rw [q1, Option.bind_some, if_neg (fun q => q rfl), show gloop (fun x => f_X9_term_B4 rr U x 311) gFU R1 = some R1 from gloop_one (k := 2999) (hb R1 hge), Option.bind_some]
    exact ⟨M1, R1, rfl, r2, r3, Or.inr ⟨rfl, q2⟩⟩
theorem j_sumB (hin : ∀ (M R : gM) (s e p F : Nat), pV T U M R B n s e p d F (H + 1) → jW T U M R B n d p (H + 1) (f_X5_readTerm rc T M 2 (nI d)) (f_X9_term rr U R 311)) (i p : Nat) (M R : gM) (hi : i + 1 ≤ p) (h : pI T U M R B n d H p) : (∃ R' p', f_X5_readSum_B12 rc T M 2 (nI d) (nI i) = some (.inl (1, M)) ∧ f_X9_sum_B4 rr U R 311 = some (.inl R') ∧ p ≤ p' ∧ pI T U M R' B n d H p' ∧ rQ9 R R') ∨ (∃ M' R', f_X5_readSum_B12 rc T M 2 (nI d) (nI i) = some (.inl (0, M')) ∧ f_X9_sum_B4 rr U R 311 = some (.inr R') ∧ bad M' R' ∧ cQ M M' ∧ rQ9 R R') ∨ ∃ M' R' p', p + 1 ≤ p' ∧ f_X5_readSum_B12 rc T M 2 (nI d) (nI i) = some (.inr (nI (i + 1), M')) ∧ f_X9_sum_B4 rr U R 311 = some (.inr R') ∧ pI T U M' R' B n d H p' ∧ cQ M M' ∧ rQ9 R R' := by
  have hp8 := pI_le h
  obtain ⟨s, e, F, ⟨hX, hXR, hT, hR, hp, ⟨y1, y2, y3, y4⟩, hg, ha⟩, hW, hF, h13⟩ := h
  have one : ¬ ((1 : Int32) = 0) := by decide
  have hXp : gFx U (rpos R s) := gFx_gr hXR (fun _ _ => rfl)
  have hgp : gi (rpos R s) 311 5 = 0 := by rw [gi_si, if_neg (by omega)]; exact hg
  have hpp : gi (rpos R s) 311 4 = nI s := by rw [gi_si, if_pos ⟨rfl, rfl⟩]
  have hRp : rTx (rpos R s) B n := rTx_rF hR (rP_F rP_pos)
  have hsy3 : Sy B n s s := ⟨Nat.le_refl _, y2, fun j q1 q2 => by omega, y4⟩
  have hn8 := hR.2.1
  obtain ⟨k1, k2⟩ := c_isSign (T := T) (c := 43) (d := Classical.propDecidable _) sgn_43 hT
  obtain ⟨l1, l2⟩ := c_isSign (T := T) (c := 45) (d := Classical.propDecidable _) sgn_45 hT
  have m1 := m_next hXR hR hp ⟨y1, y2, y3, y4⟩
  have m2 : f_X9_next U (rpos R s) 311 = some (if s < n then nI (B s) else -1, rpos R s) := by
    rw [m_next hXp hRp hpp hsy3]
    show some (_, si (si R 311 4 (nI s)) 311 4 (nI s)) = _
    rw [si_two]
  have hch : ∀ c : Nat, c < 128 → ((if s < n then nI (B s) else -1) = nI c ↔ (s < n ∧ B s = c)) := fun c hc => by
    by_cases q : s < n
    · have := (hR.2.2 s q).1
      rw [if_pos q]
      exact ⟨fun y => ⟨q, (nI_eq (by omega) (by omega)).mp y⟩, fun y => by rw [y.2]⟩
    · rw [if_neg q]
      exact ⟨fun y => absurd y.symm (nI_nneg (v := c) (by omega) (by decide)), fun y => absurd y.1 q⟩
  have hc1 := hch 43 (by decide)
  have hc2 := hch 45 (by decide)
  have i8 : ¬ (800 : Int32) ≤ nI i := nI_ge (b := 800) (by omega) (by decide)
  have go : ∀ (o : Nat) (x y z : Int32), (2 ≤ o ∧ o ≤ 5) → e = s + 1 → x = wCls (o, 0) → (if z = 0 then f_X9_sum_68 rr U = f_X9_sum_68 rr U ∧ o = 3 else o = 2) → ((∃ M' R', f_X5_readSum_62 rc T M 2 (nI d) (nI i) x = some (.inl (0, M')) ∧ f_X9_sum_43 rr U (rpos R s) 311 z = some (.inr R') ∧ bad M' R' ∧ cQ M M' ∧ rQ9 R R') ∨ ∃ M' R' p', p + 1 ≤ p' ∧ f_X5_readSum_62 rc T M 2 (nI d) (nI i) x = some (.inr (nI (i + 1), M')) ∧ f_X9_sum_43 rr U (rpos R s) 311 z = some (.inr R') ∧ pI T U M' R' B n d H p' ∧ cQ M M' ∧ rQ9 R R') := fun o x y z ho he hx hz => by
    have hE1 : rE R (rpos R (s + 1)) := rP_E rP_pos
    have hX1R := gFx_fz hXR hE1
    obtain ⟨M1, s1, e1, c1, c2, c3⟩ := j_adv (U := U) (R := rpos R (s + 1)) hX hX1R hT (rTx_rF hR (rP_F rP_pos)) (by rw [gi_si, if_pos ⟨rfl, rfl⟩, he]) (by rw [gi_si, if_neg (by omega)]; exact hg) (by rw [gi_si, if_neg (by omega)]; exact ha)
    rw [he] at c2
    obtain ⟨M2, R2, r1, r2, r3, r4⟩ := hin M1 _ s1 e1 (s + 1) F ⟨c2, cW_fr hW (cP_t c3) hE1, by omega, by rw [gi_si, if_neg (by omega)]; exact h13⟩
    have hcM : cQ M M2 := fz_trans (cP_Q (cP_t c3)) r2
    have hrM : rQ9 R R2 := fz_trans (rE_Q hE1) r3
    unfold f_X5_readSum_62 f_X9_sum_43 f_X9_sum_68
    rw [r_2_0 hX, Option.bind_some, c1, Option.bind_some, hpp, nI_1, nI_1, si_two, r1, Option.bind_some]
    rcases r4 with ⟨q1, s2, e2, p2, F2, q2, q3, q4, q5, q6⟩ | ⟨q1, q2⟩
    · have hp2 : p2 ≤ 800 := pI_le (H := H + 1) ⟨s2, e2, F2, q2, q4, q5, q6⟩
      obtain ⟨M3, R3, a1, a2, a4, a5, a6, a7, a8, a9⟩ := cW_op q4 ho (by omega) hx q2.1 q2.2.1 q2.2.2.2.2.2.2.1 (by omega)
      refine Or.inr ⟨M3, R3, p2, by omega, ?_, ?_, ⟨s2, e2, F2, pS_item q2 a4 a5 a6 a7 a8, a9, q5, by rw [a8 _ _ (by decide)]; exact q6⟩, fz_trans hcM a4, fz_trans hrM a5⟩
      · rw [q1, Option.bind_some, if_pos one, a1, Option.bind_some]
      · by_cases ez : z = 0
        · rw [if_pos ez] at hz
          rw [if_pos ez, show f_X9_emit U R2 311 (3 : Int32) = some R3 from by rw [hz.2] at a2; exact a2, Option.bind_some]
        · rw [if_neg ez] at hz
          rw [if_neg ez, show f_X9_emit U R2 311 (2 : Int32) = some R3 from by rw [hz] at a2; exact a2, Option.bind_some]
    · have hge : gi R2 311 5 ≠ 0 := bad_R (R' := R2) q2
      refine Or.inl ⟨M2, R2, ?_, ?_, q2, hcM, hrM⟩
      · rw [q1, Option.bind_some, if_neg (fun q => q rfl)]
      · rw [m_emit_bad hge, m_emit_bad hge, Option.bind_some]
        by_cases ez : z = 0
        · rw [if_pos ez]
        · rw [if_neg ez]
  unfold f_X5_readSum_B12 f_X9_sum_B4 f_X5_readSum_43 f_X9_sum_29
  rw [if_neg i8, r_2_0 hX]
  simp only [Option.bind_some]
  rw [show f_X6_isSign T M 3 (43 : Int32) = _ from k1, show f_X6_isSign T M 3 (45 : Int32) = _ from l1, m_good hg, m1]
  simp only [Option.bind_some]
  rw [if_neg one, m2]
  simp only [Option.bind_some]
  by_cases b1 : s < n ∧ B s = 43
  · rw [if_pos b1, if_pos one, if_neg one, if_pos (show (if s < n then nI (B s) else -1) = (43 : Int32) from hc1.mpr b1), if_neg (show ¬ ¬ (if s < n then nI (B s) else -1) = (43 : Int32) from fun q => q (hc1.mpr b1))]
    exact Or.inr (go 2 (-5 : Int32) 0 1 (by decide) (k2 b1) (by decide) (by rw [if_neg one]))
  · have n1 : ¬ (if s < n then nI (B s) else -1) = (43 : Int32) := fun q => b1 (hc1.mp q)
    rw [if_neg b1, if_neg (fun q => q rfl), if_neg n1]
    by_cases b2 : s < n ∧ B s = 45
    · rw [if_pos b2, if_neg one, if_pos rfl, if_neg (show ¬ ¬ (if s < n then nI (B s) else -1) = (45 : Int32) from fun q => q (hc2.mpr b2)), m2, Option.bind_some]
      dsimp only
      rw [if_pos n1]
      exact Or.inr (go 3 (-6 : Int32) 0 0 (by decide) (l2 b2) (by decide) (by rw [if_pos rfl]; exact ⟨rfl, rfl⟩))
    · rw [if_neg b2, if_pos rfl, if_pos (show ¬ (if s < n then nI (B s) else -1) = (45 : Int32) from fun q => b2 (hc2.mp q))]
      have hEp : rE R (rpos R s) := rP_E rP_pos
      exact Or.inl ⟨rpos R s, s, rfl, rfl, y1, ⟨s, e, F, ⟨hX, hXp, hT, hRp, hpp, hsy3, hgp, by rw [gi_si, if_neg (by omega)]; exact ha⟩, cW_fr hW fz_refl hEp, by omega, by rw [gi_si, if_neg (by omega)]; exact h13⟩, rE_Q hEp⟩
theorem j_sum (hin0 : ∀ (M R : gM) (s e p F : Nat), pV T U M R B n s e p d F H → jW T U M R B n d p H (f_X5_readTerm rc T M 2 (nI d)) (f_X9_term rr U R 311)) (hin : ∀ (M R : gM) (s e p F : Nat), pV T U M R B n s e p d F (H + 1) → jW T U M R B n d p (H + 1) (f_X5_readTerm rc T M 2 (nI d)) (f_X9_term rr U R 311)) (h : pV T U M R B n s e p d F H) : jW T U M R B n d p H (f_X5_readSum rc T M 2 (nI d)) (f_X9_sum rr U R 311) := by
  have one : ¬ ((1 : Int32) = 0) := by decide
  obtain ⟨M1, R1, r1, r2, r3, r4⟩ := hin0 M R s e p F h
  have hb : ∀ R : gM, gi R 311 5 ≠ 0 → f_X9_sum_B4 rr U R 311 = some (.inl R) := fun R hg => by
    unfold f_X9_sum_B4
    rw [m_bad hg, Option.bind_some, if_pos rfl]
  unfold f_X5_readSum f_X9_sum
  rw [r1, Option.bind_some]
  rcases r4 with ⟨q1, s1, e1, p1, F1, q2, q3, q4, q5, q6⟩ | ⟨q1, q2⟩
  · obtain ⟨M2, R2, t1, t2, t3, t4⟩ := j_loop (T := T) (U := U) (B := B) (n := n) (d := d) (H := H) (Ac := fun x => f_X5_readSum_B12 rc T x.2 2 (nI d) x.1) (Ar := fun x => f_X9_sum_B4 rr U x 311) hb (fun i p M R hi hP => j_sumB hin i p M R hi hP) 801 gFU 0 p1 M1 R1 (by decide) (by omega) (by omega) ⟨s1, e1, F1, q2, q4, q5, q6⟩
    rw [q1, Option.bind_some, if_pos one, t1, Option.bind_some]
    refine ⟨M2, R2, rfl, fz_trans r2 t2, fz_trans r3 t3, ?_⟩
    rcases t4 with ⟨u1, p2, u2, s2, e2, F2, u3, u4, u5, u6⟩ | ⟨u1, u2⟩
    · exact Or.inl ⟨by rw [show gloop (fun x => f_X5_readSum_B12 rc T x.2 2 (nI d) x.1) gFU ((0 : Int32), M1) = some (1, M2) from u1, Option.bind_some], s2, e2, p2, F2, u3, by omega, u4, u5, u6⟩
    · exact Or.inr ⟨by rw [show gloop (fun x => f_X5_readSum_B12 rc T x.2 2 (nI d) x.1) gFU ((0 : Int32), M1) = some (0, M2) from u1, Option.bind_some], u2⟩
  · have hge : gi R1 311 5 ≠ 0 := bad_R (R' := R1) q2
    rw [q1, Option.bind_some, if_neg (fun q => q rfl), show gloop (fun x => f_X9_sum_B4 rr U x 311) gFU R1 = some R1 from gloop_one (k := 2999) (hb R1 hge), Option.bind_some]
    exact ⟨M1, R1, rfl, r2, r3, Or.inr ⟨rfl, q2⟩⟩
theorem j_wsum : ∀ (j d : Nat), d + j = 4 → ∀ (fc fr : Nat), j + 1 ≤ fc → j + 2 ≤ fr → ∀ (M R : gM) (s e p F H : Nat), pV T U M R B n s e p d F H → H + 2 * j + 3 ≤ 11 → jW T U M R B n d p H (g_X5_readSum fc T M 2 (nI d)) (g_X9_sum fr U R 311) := fun j => by
  induction j with
  | zero =>
    intro d hd fc fr h1 h2 M R s e p F H h hH
    obtain ⟨fc, rfl⟩ : ∃ q, fc = q + 1 := ⟨fc - 1, by omega⟩
    obtain ⟨fr, rfl⟩ : ∃ q, fr = q + 2 := ⟨fr - 2, by omega⟩
    have hb : ∀ R : gM, gi R 311 5 ≠ 0 → g_X9_sum (fr + 1) U R 311 = some R := fun R hg => m_sum_bad (rr := g_X9_sum fr) hg
    have fac : ∀ H, H + 1 ≤ 11 → ∀ (M R : gM) (s e p F : Nat), pV T U M R B n s e p d F H → jW T U M R B n d p H (f_X5_readFactor (g_X5_readSum fc) T M 2 (nI d)) (f_X9_factor (g_X9_sum (fr + 1)) U R 311) := fun H hH M R s e p F h => j_factor (j := 0) hd (fun q => by omega) hb h (by omega)
    have ter : ∀ H, H + 2 ≤ 11 → ∀ (M R : gM) (s e p F : Nat), pV T U M R B n s e p d F H → jW T U M R B n d p H (f_X5_readTerm (g_X5_readSum fc) T M 2 (nI d)) (f_X9_term (g_X9_sum (fr + 1)) U R 311) := fun H hH M R s e p F h => j_term (fac H (by omega)) (fac (H + 1) (by omega)) h
    exact j_sum (ter H (by omega)) (ter (H + 1) (by omega)) h
  | succ j ih =>
    intro d hd fc fr h1 h2 M R s e p F H h hH
    obtain ⟨fc, rfl⟩ : ∃ q, fc = q + 1 := ⟨fc - 1, by omega⟩
    obtain ⟨fr, rfl⟩ : ∃ q, fr = q + 2 := ⟨fr - 2, by omega⟩
    have hb : ∀ R : gM, gi R 311 5 ≠ 0 → g_X9_sum (fr + 1) U R 311 = some R := fun R hg => m_sum_bad (rr := g_X9_sum fr) hg
    have fac : ∀ H, H + 2 * (j + 1) + 1 ≤ 11 → ∀ (M R : gM) (s e p F : Nat), pV T U M R B n s e p d F H → jW T U M R B n d p H (f_X5_readFactor (g_X5_readSum fc) T M 2 (nI d)) (f_X9_factor (g_X9_sum (fr + 1)) U R 311) := fun H hH M R s e p F h => j_factor (j := j + 1) hd (fun _ M R s e p F H h hH => ih (d + 1) (by omega) fc (fr + 1) (by omega) (by omega) M R s e p F H h (by omega)) hb h hH
    have ter : ∀ H, H + 2 * (j + 1) + 2 ≤ 11 → ∀ (M R : gM) (s e p F : Nat), pV T U M R B n s e p d F H → jW T U M R B n d p H (f_X5_readTerm (g_X5_readSum fc) T M 2 (nI d)) (f_X9_term (g_X9_sum (fr + 1)) U R 311) := fun H hH M R s e p F h => j_term (fac H (by omega)) (fac (H + 1) (by omega)) h
    exact j_sum (ter H (by omega)) (ter (H + 1) (by omega)) h
end PJT
