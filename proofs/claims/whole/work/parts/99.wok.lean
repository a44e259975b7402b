/-! A LOAD THAT SUCCEEDS: the class's side, whole -/
section PLK
variable {T U : gT} {M A R : gM} {k : Nat → Nat × Nat} {m C nx sz n q s e p L : Nat} {B : Nat → Nat}
theorem l_chain (hl : T.length = L) (hL0 : ∃ j, L = 359 + 3 * j) (hL : L + 3 ≤ 900000) (hI : gInv T M k m C nx sz) (hc0 : gi M 0 1 = nI q) (hn : n ≤ q) (hq8 : q ≤ 800) (hG : cG (si M 0 1 0) A) (hP : pT T U A R B n s e p) (hr : f_X5_readText T (si M 0 1 0) 2 1 (nI n) = cTail T A) : ∃ T1 N k1 m1, f_X8_load T M 0 (nI n) = some (.inr (gi N 37 1, T1, N)) ∧ T1.length = L + 3 ∧ gFx T1 N ∧ gDa T1 N ∧ gKf N ∧ gCls T1 N k1 m1 ∧ gEl N k1 m1 ∧ gSlt T1 N (78 + 29 * nx) 313 k m C ∧ (nx < 8 ∧ sz ≤ 8 ∧ gi N 76 1 = nI ((nx + 1) % 8) ∧ gi N 76 2 = nI (if sz < 8 then sz + 1 else 8) ∧ gi N 311 11 = nI sz ∧ ∀ q, q < sz → q < 7 → ∃ k m, gSlt T1 N (gSlot nx q) (316 + (sz - 1 - q)) k m C) ∧ dSame N 37 A 5 ∧ wRf R 314 k1 m1 ∧ gi N 0 1 = 0 ∧ gi N 0 2 = -1 ∧ (∀ b j, (b = 1 ∨ (311 ≤ b ∧ b < 324)) → b ≠ 314 → gi N b j = gi M b j) := by
  obtain ⟨hS, ⟨nl, nn, hD⟩, hC⟩ := hP
  have hXA := hS.1
  have h359 : 359 ≤ L := by obtain ⟨j, hj⟩ := hL0; omega
  obtain ⟨k1, m1, w1, w2, w3, w4, w5⟩ := pC_val hC
  obtain ⟨v1, -⟩ := pD_val hD
  obtain ⟨N1, t1, t2, t3, t4, t5, t6, t7, t8⟩ := c_tail hXA (by omega) (by omega) w1 w2
  rw [hl] at t2 t3 t4 t5 t6 t7 t8
  generalize hT1 : ((T ++ [((7 : Nat), (0 : Nat))]) ++ [(11, m1)]) ++ [(11, 11)] = T1 at t1
  have hE : gEx T T1 := fun a y h => by rw [← hT1]; exact ge_old (ge_old (ge_old h))
  have l1 : (T ++ [((7 : Nat), (0 : Nat))]).length = L + 1 := by rw [ge_len, hl]
  have l2 : ((T ++ [((7 : Nat), (0 : Nat))]) ++ [(11, m1)]).length = L + 2 := by rw [ge_len, l1]
  have l3 : T1.length = L + 3 := by rw [← hT1, ge_len, l2]
  have s0 : T1[L]? = some (7, 0) := by rw [← hT1, ← hl]; exact ge_old (ge_old ge_last)
  have s1 : T1[L + 1]? = some (11, m1) := by rw [← hT1, ← l1]; exact ge_old ge_last
  have s2 : T1[L + 2]? = some (11, 11) := by rw [← hT1, ← l2]; exact ge_last
  have hQ0 := l_go (N := N1) (by omega) hI hG hD.2.2.2.2.2.2.2 hE (by rw [hl]; exact t2) (by rw [hl]; exact t4)
  have hq : ∀ b j, ¬ (b = 311 ∧ (j = 2 ∨ j = 7)) → gi (si N1 0 2 (-1)) b j = gi (si (si (si N1 0 2 (-1)) 311 2 0) 311 7 (-1)) b j := fun b j hb => by
    rw [gi_si (si (si N1 0 2 (-1)) 311 2 0), if_neg (by omega), gi_si (si N1 0 2 (-1)), if_neg (by omega)]
  have hX5 : gFx T1 (si N1 0 2 (-1)) := gFx_gr hQ0.2.1 (fun _ _ => rfl)
  have hDa5 : gDa T1 (si N1 0 2 (-1)) := gDa_r hQ0.2.2.2.2.2.1 (fun _ _ => rfl)
  have hKf5 : gKf (si N1 0 2 (-1)) := fun D hDD i hi => by
    have := dD_lo hDD
    have h3 := dIn_rngs hDD (dIn_lib hi (Or.inr (Or.inl rfl)))
    rw [show dKp (si N1 0 2 (-1)) D i = dKp (si (si (si N1 0 2 (-1)) 311 2 0) 311 7 (-1)) D i from hq _ _ (by omega)]
    exact hQ0.2.2.2.2.1 D hDD i hi
  have hW5 : gWt T1 (si N1 0 2 (-1)) 37 k m := gWt_mv hQ0.1.2.2.1 rfl (fun _ _ _ => rfl) (fun b j hb => hq b j (fun z => gCo_311 hb z.1))
  obtain ⟨hnx, hsz, g3, g4, g5, g6⟩ := hQ0.2.2.2.1
  obtain ⟨N2, p1, hB2⟩ := p_begin hX5 hDa5 hKf5 hW5 hnx hsz ((hq 76 1 (by omega)).trans g3) ((hq 76 2 (by omega)).trans g4)
  have hB2' := hB2
  obtain ⟨b1, b2, b3, b4, b5, b6, b7, b8⟩ := hB2
  have hDk : gD (78 + 29 * nx) := Or.inr ⟨nx, hnx, rfl⟩
  have hgr2 : ∀ b j, ¬ (b ∈ gDs ∧ j = 4) → gr N2 b j = gr (si N1 0 2 (-1)) b j := fun b j hb => b1 b j (fun z => hb ⟨by rw [z.1]; exact gDs_mem (Or.inr hDk), z.2⟩)
  have hX2 := gFx_of hX5 hgr2
  have hDa2 : gDa T1 N2 := gDa_of hDa5 hgr2
  have far2 : ∀ b j, b < 37 ∨ 359 ≤ b → gi N2 b j = gi (si N1 0 2 (-1)) b j := fun b j hb => b8 b j (fun z => by have := dIn_rng z; omega) (by omega) (by omega)
  have low : ∀ b j, 1 ≤ b → b < 37 → gi N2 b j = gi A b j := fun b j h1 h2 => by
    rw [far2 b j (Or.inl h2), gi_si, if_neg (by omega)]
    exact t2 b j (by omega)
  have hk2 : ∀ i, i < 8 → dKp N2 5 i = 0 ∨ dKp N2 5 i = 1 := fun i hi => by
    rw [show dKp N2 5 i = dKp A 5 i from low _ _ (by omega) (by omega)]
    exact hD.2.2.2.2.2.2.2 i hi
  obtain ⟨N3, d1, d2, d3, d4, d5, d6⟩ := p_X0_copyFrom (T := T1) (M := N2) (D := 37) (D' := 5) (w := L) (m := 0) (by omega) (hDa2 37 (Or.inr (Or.inl rfl))) (hDa2 5 (Or.inl rfl)) ((b1 5 4 (by omega)).trans t5) s0 hk2
  have hgr3 : ∀ b j, ¬ (b ∈ gDs ∧ j = 4) → gr N3 b j = gr N2 b j := fun b j hb => d2 b j (fun z => hb ⟨by rw [z.1]; exact gDs_mem (Or.inr (Or.inl rfl)), z.2⟩)
  have hX3 := gFx_of hX2 hgr3
  have hDa3 : gDa T1 N3 := gDa_of hDa2 hgr3
  have hds : dSame N3 37 A 5 := fun b j hd => by
    have h5 := dIn_rng hd
    rw [d5 b j hd]
    by_cases hb : b - 37 + 5 < 37
    · exact low _ _ (by omega) hb
    · omega
  have hV3 : gVal T1 N3 37 := gVal_same hds (hDa3 37 (Or.inr (Or.inl rfl))) ⟨gDat_ex v1.1 hE (Or.inl rfl) (fun _ _ _ _ => rfl), v1.2⟩
  have hi3 : ∀ b j, 359 ≤ b → gi N3 b j = gi N1 b j := fun b j hb => by
    rw [d6 b j (fun z => by have := dIn_rng z; omega), far2 b j (Or.inr hb), gi_si, if_neg (by omega)]
  have hg3 : ∀ b j, 359 ≤ b → gr N3 b j = gr N1 b j := fun b j hb => (d2 b j (by omega)).trans (b1 b j (by omega))
  have hW3 : gWt T1 N3 37 k1 m1 := ⟨L, d3, s0, (hg3 L 0 h359).trans t6, s1, (hg3 L 1 h359).trans t7, s2, Or.inr (Or.inr (Or.inr hL0)), fun t ht => (hi3 _ _ (by omega)).trans ((t8 t ht).trans (w3 t ht))⟩
  have hK3 : ∀ i, i < 8 → dKp N3 37 i = 0 ∨ dKp N3 37 i = 1 := fun i hi => by
    rw [show dKp N3 37 i = dKp A 5 i from dKp_same hds hi]
    exact hD.2.2.2.2.2.2.2 i hi
  obtain ⟨N, c1, c2, c3, c4, c5, c6, c7, c8, c9, c10, c11, -⟩ := p_mid2 hQ0 hq (fun _ _ => rfl) hB2' d2 d6 (k' := k1) (m' := m1) ⟨hX3, hV3, trivial, hW3, trivial, w5, by omega, trivial⟩ hK3
  have hX0 : gFx T (si M 0 1 0) := gFx_gr hI.2.1 (fun _ _ => rfl)
  have nA : ∀ b j, (b = 0 ∨ b = 1 ∨ 311 ≤ b) → ¬ cS11 b j := fun b j hb z => by
    unfold cS11 at z
    rcases z with z | z | z | z | z
    · omega
    · omega
    · omega
    · omega
    · have := dIn_rng z; omega
  refine ⟨T1, N, k1, m1, ?_, l3, c2, c3, c4, c5, c6, c7, c8, fun b j hd => (c9 b j hd).trans (hds b j hd), w4, ?_, ?_, fun b j hb hb4 => ?_⟩
  · unfold f_X8_load
    rw [if_neg (fun z => nI_pos (by omega) z), hc0, if_pos (nI_le hn (by omega)), r_0_3 hX0, Option.bind_some, r_0_0 hX0, Option.bind_some, hr, t1, Option.bind_some]
    dsimp only
    rw [if_pos (show ¬ ((1 : Int32) = 0) by decide), p1, Option.bind_some, r_0_4 hX2, Option.bind_some, r_0_3 hX2, Option.bind_some, r_2_1 hX2, Option.bind_some, d1, Option.bind_some, r_0_5 hX3, Option.bind_some, r_0_4 hX3, Option.bind_some, c1, Option.bind_some, r_0_4 c2, Option.bind_some]
  · rw [c10 0 1 (by omega), gi_si, if_neg (by omega), t2 0 1 (by omega), hG.2.2 0 1 (nA 0 1 (by omega)), gi_si, if_pos ⟨rfl, rfl⟩]
  · rw [c10 0 2 (by omega), gi_si, if_pos ⟨rfl, rfl⟩]
  · rw [c10 b j (by omega), gi_si, if_neg (by omega), t2 b j (by omega), hG.2.2 b j (nA b j (by omega)), gi_si, if_neg (by omega)]
end PLK
