/-! A LOAD'S TEXT from its beginning to its end, on both sides -/
def rSL (b j : Nat) : Prop := rS b j ∨ rS0L b j
section PJR
variable {T U : gT} {M R M' R' : gM} {B : Nat → Nat} {n q s e p : Nat}
theorem j_read (hX : gFx T M) (hD : gDat T M 5) (hK : ∀ i, i < 8 → dKp M 5 i = 0 ∨ dKp M 5 i = 1) (hB : ∀ j, j < n → B j < 256 ∧ gi M 1 j = cB (B j) ∧ (gi M 1 j).toInt8.toInt32 = gi M 1 j) (hXR : gFx U R) (hq : gi R 311 2 = nI q) (hn : n ≤ q) (hq8 : q ≤ 800) (hB2 : ∀ j, j < n → gi R 312 j = nI (B j)) : ∃ M' R', f_X9_load U R 311 (nI n) = rTail U R' ∧ cG M M' ∧ fz rSL rL R R' ∧ gi R' 311 0 = 0 ∧ gi R' 311 2 = 0 ∧ ((f_X5_readText T M 2 1 (nI n) = cTail T M' ∧ ∃ s e p, pT T U M' R' B n s e p) ∨ (f_X5_readText T M 2 1 (nI n) = some ((0 : Int32), T, M') ∧ bad M' R' ∧ kP M')) := by
  obtain ⟨M1, s, e, c1, c2, c3, c4, c5, c6, c7, c8, c9, c10, c11, c12⟩ := c_text hX (by omega) hB
  obtain ⟨R1, r1, r2, r3, r4, r5, r6, r7, r8, r9, r10, r11, r12⟩ := m_load hXR hq hn hq8
  have hX1 := gFx_fz hX c4
  have hXR1 := gFx_fz hXR r2
  have hT1 : rTx R1 B n := ⟨r5, by omega, fun j hj => ⟨(hB j hj).1, by rw [r2.2.2 312 j (fun z => by unfold rS0L at z; omega)]; exact hB2 j hj⟩⟩
  have hP : pT T U M1 R1 B n s e 0 := by
    refine ⟨⟨hX1, hXR1, c3, hT1, r6, c2, r7, r8⟩, ⟨0, 0, gDat_gr hD c4.1, ⟨Nat.zero_le _, Nat.zero_le _⟩, ⟨c5, c6, r12 1 (by decide) (by decide), r12 2 (by decide) (by decide), r12 3 (by decide) (by decide), by rw [r11, c7]⟩, fun i hi => absurd hi (Nat.not_lt_zero i), fun i _ hi => r12 _ (by omega) (by omega), fun i hi => absurd hi (Nat.not_lt_zero i), fun i hi => absurd hi (Nat.not_lt_zero i), fun i hi => ?_⟩, ⟨0, 0, by decide, by decide, c10, c11, r10, r9, Or.inl ⟨rfl, c8, c9, r12 5 (by decide) (by decide)⟩⟩⟩
    rw [show dKp M1 5 i = dKp M 5 i from c12 _ _ (dIn_lib hi (Or.inr (Or.inl rfl))) (by omega)]
    exact hK i hi
  obtain ⟨M2, R2, t1, t2, t3, t4⟩ := j_text hP
  have h0 : ∀ j, (j = 0 ∨ j = 2) → gi R2 311 j = gi R1 311 j := fun j hj => t3.2.2 311 j (fun z => by unfold rS at z; omega)
  refine ⟨M2, R2, by rw [r1, t1], fz_trans c4 (cF_G t2), fz_trans (fz_mono r2 (fun _ _ z => Or.inr z) (fun _ _ z => z.elim)) (fz_mono t3 (fun _ _ z => Or.inl z) (fun _ _ z => z)), (h0 0 (by omega)).trans r3, (h0 2 (by omega)).trans r4, ?_⟩
  rcases t4 with ⟨u1, u2⟩ | ⟨u1, u2⟩
  · exact Or.inl ⟨by rw [c1, u1], u2⟩
  · exact Or.inr ⟨by rw [c1, u1], u2⟩
end PJR
