/-! A CHANGE BEGINS: the class keeps, the reference remembers -/
section PBG
variable {T : gT} {M : gM} {k : Nat → Nat × Nat} {m nx sz C : Nat}
theorem gSlot_0 (hnx : nx < 8) : gSlot ((nx + 1) % 8) 0 = 78 + 29 * nx := by
  unfold gSlot
  omega
theorem gSlot_s {q : Nat} (hnx : nx < 8) (hq : q < 7) : gSlot ((nx + 1) % 8) (q + 1) = gSlot nx q := by
  unfold gSlot
  omega
theorem gSlot_ne {q : Nat} (hnx : nx < 8) (hq : q < 7) : gSlot nx q ≠ 78 + 29 * nx := by
  unfold gSlot
  omega
theorem gr_77 (h : gFx T M) {i : Nat} (hi : i < 8) : gr M 77 i = some (78 + 29 * i) := by
  have q : ∀ i, i < 8 → (77, i, 78 + 29 * i) ∈ gRefs := by decide +kernel
  exact h.2 _ (q i hi)
/-- what the class's beginChange leaves -/
def gBg (M N : gM) (nx sz : Nat) : Prop := (∀ b j, ¬ (b = 78 + 29 * nx ∧ j = 4) → gr N b j = gr M b j) ∧ gr N (78 + 29 * nx) 4 = gr M 37 4 ∧ (∀ b j, gl N b j = gl M b j) ∧ dSame N (78 + 29 * nx) M 37 ∧ gi N 76 1 = nI ((nx + 1) % 8) ∧ gi N 76 2 = nI (if sz < 8 then sz + 1 else 8) ∧ (∀ j, j < 96 → gi N 310 j = gi M 73 j) ∧ ∀ b j, ¬ dIn (78 + 29 * nx) b j → ¬ (b = 76 ∧ (j = 1 ∨ j = 2)) → b ≠ 310 → gi N b j = gi M b j
theorem p_begin [gW0] (hX : gFx T M) (hDa : gDa T M) (hKf : gKf M) (hW : gWt T M 37 k m) (hnx : nx < 8) (hsz : sz ≤ 8) (h1 : gi M 76 1 = nI nx) (h2 : gi M 76 2 = nI sz) : ∃ N, f_X8_beginChange T M 0 = some N ∧ gBg M N nx sz := by
  obtain ⟨w, g4, hw, -⟩ := hW
  have hd1 := hDa (78 + 29 * nx) (Or.inr (Or.inr ⟨nx, hnx, rfl⟩))
  have hd2 := hDa 37 (Or.inr (Or.inl rfl))
  obtain ⟨N, c1, c2, c3, c4, c5, c6, c7, c8⟩ := p_X2_keep (s_77 hX) (hX.2 (76, 0, 77) (by decide +kernel)) (gr_77 hX hnx) hnx h1 h2 hsz hd1 hd2 g4 hw (hKf 37 (Or.inr (Or.inl rfl)))
  have hXN : gFx T N := gFx_of hX (fun b j hb => c2 b j (fun q => hb ⟨by rw [q.1]; exact gDs_mem (Or.inr (Or.inr ⟨nx, hnx, rfl⟩)), q.2⟩))
  unfold f_X8_beginChange
  rw [r_0_7 hX, Option.bind_some, r_0_4 hX, Option.bind_some, c1, Option.bind_some, r_0_5 hXN, Option.bind_some, r_66_6 hXN, Option.bind_some, r_0_8 hXN, Option.bind_some, show acp T N 73 (0 : Int32) 310 (0 : Int32) (96 : Int32) = some (cpi N 73 0 310 0 96) from acp_ok (s0 := 0) (d0 := 0) (m := 96) (s_73 hXN) (s_310 hXN) (by decide) (by decide) (by decide) (by decide), Option.bind_some]
  have hnd : ∀ b j, dIn (78 + 29 * nx) b j → ¬ (b = 310 ∨ b = 73 ∨ b = 76) := fun b j q => by
    have := dIn_rng q
    omega
  refine ⟨_, rfl, c2, c3.trans g4.symm, c4, fun b j hb => ?_, ?_, ?_, fun j hj => ?_, fun b j h3 h4 h5 => ?_⟩
  · have := hnd b j hb
    rw [gi_cpi, if_neg (by omega)]
    exact c5 b j hb
  · rw [gi_cpi, if_neg (by omega)]
    exact c6
  · rw [gi_cpi, if_neg (by omega)]
    exact c7
  · rw [gi_cpi, if_pos (by omega), show 0 + (j - 0) = j by omega]
    exact c8 73 j (fun q => hnd _ _ q (Or.inr (Or.inl rfl))) (by omega)
  · rw [gi_cpi, if_neg (by omega)]
    exact c8 b j h3 h4
end PBG
