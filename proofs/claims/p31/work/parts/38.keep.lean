/-! THE CLASS'S HISTORY: keep, bring back -/
theorem irem_up : ∀ nx, nx < 8 → irem (nI nx + 1) 8 = nI ((nx + 1) % 8) := by decide +kernel
theorem irem_dn : ∀ nx, nx < 8 → irem (nI nx + 8 - 1) 8 = nI ((nx + 7) % 8) := by decide +kernel
theorem dIn_rng {D b j : Nat} (h : dIn D b j) : D ≤ b ∧ b ≤ D + 28 := by
  rcases h with ⟨rfl, -⟩ | ⟨i, hi, h⟩
  · omega
  · have := lIn_rng h
    omega
section PHI
variable {T : gT} {M : gM} {nx sz w m : Nat}
theorem p_X2_keep (hK : T[77]? = some (13, 8)) (hg : gr M 76 0 = some 77) (hgk : gr M 77 nx = some (78 + 29 * nx)) (hnx : nx < 8) (hn : gi M 76 1 = nI nx) (hs : gi M 76 2 = nI sz) (hsz : sz ≤ 8) (hD : gDat T M (78 + 29 * nx)) (hD' : gDat T M 37) (hw : gr M 37 4 = some w) (hTw : T[w]? = some (7, m)) (hk : ∀ i, i < 8 → dKp M 37 i = 0 ∨ dKp M 37 i = 1) :
    ∃ M', f_X2_keep T M 76 37 = some M' ∧ (∀ b j, ¬ (b = 78 + 29 * nx ∧ j = 4) → gr M' b j = gr M b j) ∧ gr M' (78 + 29 * nx) 4 = some w ∧ (∀ b j, gl M' b j = gl M b j) ∧ (∀ b j, dIn (78 + 29 * nx) b j → gi M' b j = gi M (b - (78 + 29 * nx) + 37) j) ∧ gi M' 76 1 = nI ((nx + 1) % 8) ∧ gi M' 76 2 = nI (if sz < 8 then sz + 1 else 8) ∧ ∀ b j, ¬ dIn (78 + 29 * nx) b j → ¬ (b = 76 ∧ (j = 1 ∨ j = 2)) → gi M' b j = gi M b j := by
  unfold f_X2_keep
  rw [ldr_ok hg hK, Option.bind_some, hn, aldr_ok hK hnx (by decide) hgk hD.1, Option.bind_some]
  obtain ⟨N, c1, c2, c3, c4, c5, c6⟩ := p_X0_copyFrom (by omega) hD hD' hw hTw hk
  have e1 : gi N 76 1 = nI nx := (c6 _ _ (fun q => by have := dIn_rng q; omega)).trans hn
  have e2 : gi N 76 2 = nI sz := (c6 _ _ (fun q => by have := dIn_rng q; omega)).trans hs
  rw [c1, Option.bind_some, e1, irem_up nx hnx]
  have e3 : gi (si N 76 1 (nI ((nx + 1) % 8))) 76 2 = nI sz := by rw [gi_si, if_neg (by omega)]; exact e2
  rw [e3]
  by_cases h8 : sz = 8
  · subst h8
    rw [if_pos (show (8 : Int32) ≤ nI 8 from nI_le (Nat.le_refl 8) (by decide))]
    refine ⟨_, rfl, c2, c3, c4, fun b j hb => ?_, ?_, ?_, fun b j hb hb2 => ?_⟩
    · have := dIn_rng hb
      rw [gi_si, if_neg (by omega)]
      exact c5 b j hb
    · rw [gi_si, if_pos ⟨rfl, rfl⟩]
    · rw [e3]
      rfl
    · rw [gi_si, if_neg (by omega)]
      exact c6 b j hb
  · have hlt : sz < 8 := by omega
    rw [if_neg (show ¬ ((8 : Int32) ≤ nI sz) from nI_ge hlt (by decide)), nI_1]
    refine ⟨_, rfl, c2, c3, c4, fun b j hb => ?_, ?_, ?_, fun b j hb hb2 => ?_⟩
    · have := dIn_rng hb
      rw [gi_si, if_neg (by omega), gi_si, if_neg (by omega)]
      exact c5 b j hb
    · rw [gi_si, if_neg (by omega), gi_si, if_pos ⟨rfl, rfl⟩]
    · rw [gi_si, if_pos ⟨rfl, rfl⟩, if_pos hlt]
    · rw [gi_si, if_neg (by omega), gi_si, if_neg (by omega)]
      exact c6 b j hb
theorem p_X2_back0 (hs : gi M 76 2 = nI 0) : f_X2_bringBack T M 76 37 = some (0, M) := by
  unfold f_X2_bringBack
  rw [hs, if_neg (fun q => q rfl)]
theorem p_X2_back (hK : T[77]? = some (13, 8)) (hg : gr M 76 0 = some 77) (hnx : nx < 8) (hgk : gr M 77 ((nx + 7) % 8) = some (78 + 29 * ((nx + 7) % 8))) (hn : gi M 76 1 = nI nx) (hs : gi M 76 2 = nI (sz + 1)) (hsz : sz < 8) (hD : gDat T M 37) (hD' : gDat T M (78 + 29 * ((nx + 7) % 8))) (hw : gr M (78 + 29 * ((nx + 7) % 8)) 4 = some w) (hTw : T[w]? = some (7, m)) (hk : ∀ i, i < 8 → dKp M (78 + 29 * ((nx + 7) % 8)) i = 0 ∨ dKp M (78 + 29 * ((nx + 7) % 8)) i = 1) :
    ∃ M', f_X2_bringBack T M 76 37 = some (1, M') ∧ (∀ b j, ¬ (b = 37 ∧ j = 4) → gr M' b j = gr M b j) ∧ gr M' 37 4 = some w ∧ (∀ b j, gl M' b j = gl M b j) ∧ (∀ b j, dIn 37 b j → gi M' b j = gi M (b - 37 + (78 + 29 * ((nx + 7) % 8))) j) ∧ gi M' 76 1 = nI ((nx + 7) % 8) ∧ gi M' 76 2 = nI sz ∧ ∀ b j, ¬ dIn 37 b j → ¬ (b = 76 ∧ (j = 1 ∨ j = 2)) → gi M' b j = gi M b j := by
  unfold f_X2_bringBack
  rw [hs, if_pos (nI_ne0 (by omega) (by omega)), nI_pred]
  have e1 : gi (si M 76 2 (nI sz)) 76 1 = nI nx := by rw [gi_si, if_neg (by omega)]; exact hn
  rw [e1, irem_dn nx hnx]
  generalize hN : si (si M 76 2 (nI sz)) 76 1 (nI ((nx + 7) % 8)) = N
  have gN : ∀ b j, gr N b j = gr M b j := fun b j => by rw [← hN]; rfl
  have lN9 : ∀ b j, gl N b j = gl M b j := fun b j => by rw [← hN]; rfl
  have iN : ∀ b j, ¬ (b = 76 ∧ (j = 1 ∨ j = 2)) → gi N b j = gi M b j := fun b j h => by rw [← hN, gi_si, if_neg (by omega), gi_si, if_neg (by omega)]
  have iN1 : gi N 76 1 = nI ((nx + 7) % 8) := by rw [← hN, gi_si, if_pos ⟨rfl, rfl⟩]
  have iN2 : gi N 76 2 = nI sz := by rw [← hN, gi_si, if_neg (by omega), gi_si, if_pos ⟨rfl, rfl⟩]
  have hDN : ∀ D, gDat T M D → gDat T N D := fun D h => ⟨h.1, h.2.1, (gN _ _).trans h.2.2.1, fun i hi => ⟨(h.2.2.2 i hi).1, (gN _ _).trans (h.2.2.2 i hi).2.1, (gN _ _).trans (h.2.2.2 i hi).2.2.1, (gN _ _).trans (h.2.2.2 i hi).2.2.2⟩⟩
  rw [ldr_ok ((gN _ _).trans hg) hK, Option.bind_some, iN1, aldr_ok hK (Nat.mod_lt _ (by decide)) (by decide) ((gN _ _).trans hgk) hD'.1, Option.bind_some]
  obtain ⟨N', c1, c2, c3, c4, c5, c6⟩ := p_X0_copyFrom (M := N) (D := 37) (D' := 78 + 29 * ((nx + 7) % 8)) (by omega) (hDN _ hD) (hDN _ hD') ((gN _ _).trans hw) hTw (fun i hi => by
    have := hk i hi
    rw [show dKp N (78 + 29 * ((nx + 7) % 8)) i = dKp M (78 + 29 * ((nx + 7) % 8)) i from iN _ _ (by omega)]
    exact this)
  rw [c1, Option.bind_some]
  refine ⟨N', rfl, fun b j h => (c2 b j h).trans (gN b j), c3, fun b j => (c4 b j).trans (lN9 b j), fun b j hb => ?_, (c6 _ _ (fun q => by have := dIn_rng q; omega)).trans iN1, (c6 _ _ (fun q => by have := dIn_rng q; omega)).trans iN2, fun b j hb hb2 => (c6 b j hb).trans (iN b j hb2)⟩
  have := dIn_rng hb
  rw [c5 b j hb]
  exact iN _ _ (by omega)
end PHI
