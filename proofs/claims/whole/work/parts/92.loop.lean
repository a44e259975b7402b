/-! ALL STATEMENTS of the text on both sides -/
section PJX
variable {T U : gT} {M R M' R' : gM} {B : Nat → Nat} {n s e p : Nat}
theorem c_kind0 (hT : cT M B n s e) : gi M 3 3 = 0 ↔ ¬ s < n := by
  obtain ⟨-, -, -, h4, h5, hK⟩ := hT
  rcases hK with k | k | k | k
  · rw [k.2.2]
    exact ⟨fun _ => by omega, fun _ => rfl⟩
  · have := k.1
    refine ⟨fun q => ?_, fun q => by omega⟩
    rcases k.2.2.2 with y | y
    · rw [y.2.1] at q; exact absurd q (by decide)
    · rw [y.2] at q; exact absurd q (by decide)
  · have := k.1
    refine ⟨fun q => ?_, fun q => by omega⟩
    rw [k.2.2.2.1] at q; exact absurd q (by decide)
  · have := k.1
    refine ⟨fun q => ?_, fun q => by omega⟩
    rw [k.2.2.2.2.1] at q; exact absurd q (by decide)
/-- the reference passes the spaces -/
theorem pT_pos (h : pT T U M R B n s e p) : pT T U M (rpos R s) B n s e s := by
  obtain ⟨⟨hX, hXR, hT, hR, hp, ⟨y1, y2, y3, y4⟩, hg, ha⟩, ⟨nl, nn, hD⟩, hC⟩ := h
  have hE : rE R (rpos R s) := rP_E rP_pos
  exact pT_PE (M := M) (R := R) ⟨hX, gFx_fz hXR hE, hT, rTx_rF hR (rE_F hE), by rw [gi_si, if_pos ⟨rfl, rfl⟩], ⟨Nat.le_refl _, y2, fun j q1 q2 => by omega, y4⟩, by rw [gi_si, if_neg (by omega)]; exact hg, by rw [gi_si, if_neg (by omega)]; exact ha⟩ hD hC fz_refl hE
theorem m_loop_bad (h : gi R 311 5 ≠ 0) : f_X9_load_B122 U R 311 = some (.inl R) := by
  unfold f_X9_load_B122
  rw [m_bad h, Option.bind_some, if_pos rfl]
theorem j_stloop : ∀ (c k i p : Nat) (M R : gM) (s e : Nat), c + 2 ≤ k → 801 ≤ p + c → i ≤ p → pT T U M R B n s e p → ∃ M' R', gloop (fun x => f_X9_load_B122 U x 311) k R = some R' ∧ cF M M' ∧ rF R R' ∧ ((gloop (fun x => f_X5_readText_B58 T x.2 2 x.1) k (nI i, M) = some (.inr M') ∧ ∃ s' e' p', pT T U M' R' B n s' e' p') ∨ (gloop (fun x => f_X5_readText_B58 T x.2 2 x.1) k (nI i, M) = some (.inl ((0 : Int32), T, M')) ∧ bad M' R' ∧ kP M'))
  | 0, k, i, p, M, R, s, e, hk, hc, hi, hP => by
    have := hP.1.2.2.2.2.2.1.1
    have := hP.1.2.2.2.2.2.1.2.1
    have := hP.1.2.2.2.1.2.1
    omega
  | c + 1, k, i, p, M, R, s, e, hk, hc, hi, hP => by
    obtain ⟨k, rfl⟩ : ∃ q, k = q + 1 := ⟨k - 1, by omega⟩
    have one : ¬ ((1 : Int32) = 0) := by decide
    have hP' := pT_pos hP
    obtain ⟨⟨hX, hXR, hT, hR, hp, hsy, hg, ha⟩, -, -⟩ := hP
    have hy := hsy.1
    have hy2 := hsy.2.1
    have hn8 := hR.2.1
    have m1 := m_next hXR hR hp hsy
    by_cases hsn : s < n
    · have hB := (hR.2.2 s hsn).1
      have hch : ¬ (if s < n then nI (B s) else -1) = (-1 : Int32) := by
        rw [if_pos hsn]
        exact nI_nneg (v := B s) (by omega) (by decide)
      have hk0 : ¬ gi M 3 3 = 0 := fun q => (c_kind0 hT).mp q hsn
      obtain ⟨M1, R1, r1, r2, r3, r4⟩ := j_statement hP'
      have hRR : rF R R1 := fz_trans (rP_F rP_pos) r3
      have hA : f_X9_load_B122 U R 311 = some (.inr R1) := by
        unfold f_X9_load_B122
        rw [m_good hg, Option.bind_some, if_neg one, m1, Option.bind_some]
        dsimp only
        rw [if_neg hch, r1, Option.bind_some]
      have i8 : ¬ (800 : Int32) ≤ nI i := nI_ge (b := 800) (by omega) (by decide)
      rcases r4 with ⟨M2, q1, q2, s', e', p', q3, q4⟩ | ⟨q1, q2⟩
      · have hCc : f_X5_readText_B58 T M 2 (nI i) = some (.inr (nI (i + 1), M1)) := by
          unfold f_X5_readText_B58
          rw [if_neg i8, r_2_0 hX, Option.bind_some, if_neg hk0, q1, Option.bind_some]
          dsimp only
          rw [if_neg one, q2, Option.bind_some]
          dsimp only
          rw [if_pos one, nI_1]
        obtain ⟨M3, R3, b1, b2, b3, b4⟩ := j_stloop c k (i + 1) p' M1 R1 s' e' (by omega) (by omega) (by omega) q3
        refine ⟨M3, R3, by rw [gloop_two hA]; exact b1, fz_trans r2 b2, fz_trans hRR b3, ?_⟩
        rw [gloop_two (A := fun x => f_X5_readText_B58 T x.2 2 x.1) (a := (nI i, M)) hCc]
        exact b4
      · have hge : gi R1 311 5 ≠ 0 := bad_R (R' := R1) q2.1
        have hCc : f_X5_readText_B58 T M 2 (nI i) = some (.inl (.inl ((0 : Int32), T, M1))) := by
          unfold f_X5_readText_B58
          rw [if_neg i8, r_2_0 hX, Option.bind_some, if_neg hk0]
          rcases q1 with q1 | ⟨M2, q1, q3⟩
          · rw [q1, Option.bind_some]
            dsimp only
            rw [if_pos rfl]
          · rw [q1, Option.bind_some]
            dsimp only
            rw [if_neg one, q3, Option.bind_some]
            dsimp only
            rw [if_neg (fun q => q rfl)]
        obtain ⟨k, rfl⟩ : ∃ q, k = q + 1 := ⟨k - 1, by omega⟩
        exact ⟨M1, R1, by rw [gloop_two hA]; exact gloop_one (A := fun x => f_X9_load_B122 U x 311) (m_loop_bad hge) k, r2, hRR, Or.inr ⟨gloop_one (A := fun x => f_X5_readText_B58 T x.2 2 x.1) (a := (nI i, M)) hCc _, q2⟩⟩
    · have hA : f_X9_load_B122 U R 311 = some (.inl (rpos R s)) := by
        unfold f_X9_load_B122
        rw [m_good hg, Option.bind_some, if_neg one, m1, Option.bind_some]
        dsimp only
        rw [if_neg hsn, if_pos rfl]
      have hCc : f_X5_readText_B58 T M 2 (nI i) = some (.inl (.inr M)) := by
        unfold f_X5_readText_B58
        by_cases i8 : (800 : Int32) ≤ nI i
        · rw [if_pos i8]
        · rw [if_neg i8, r_2_0 hX, Option.bind_some, if_pos ((c_kind0 hT).mpr hsn)]
      exact ⟨M, rpos R s, gloop_one (A := fun x => f_X9_load_B122 U x 311) hA k, fz_refl, rP_F rP_pos, Or.inl ⟨gloop_one (A := fun x => f_X5_readText_B58 T x.2 2 x.1) (a := (nI i, M)) hCc k, s, e, s, hP'⟩⟩
end PJX
