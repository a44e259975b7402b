/-! ALL ROUNDS, AND BACK -/
section PUN
variable {T T1 T' T0 : gT} {M M1 M' N V V1 : gM} {rr a7 l A : Nat} {L R O : Nat → Nat} {nl nn : Nat} {k : Nat → Nat × Nat} {m dn nx sz B lc : Nat} {ld : Nat → Nat} {c b D p R0 kk q j : Nat} {n : Nat} {f : Nat → Int32} {i2 i9 : Int32}
theorem t_rounds [gW0] (hX : FX rr a7 l L R O nl) (hS : MS T M rr a7 l A L R O nl nn k m 0) (hT : T.length + 247275 ≤ 900000) : ∃ (dn : Nat) (T' : gT) (M' : gM) (c s : Nat), gloopc (fun x : Int32 × Int32 × Int32 × gT × gM => f_L_law_B192 n f x.2.2.2.1 x.2.2.2.2 x.1 i2 0 rr l a7 x.2.1 x.2.2.1) gFU ((1 : Int32), (0 : Int32), (0 : Int32), T, M) = some ((1, nI dn, T', M'), c, s) ∧ dn ≤ 35 ∧ MS T' M' rr a7 l A L R O nl nn k m dn ∧ T'.length ≤ T.length + 247275 ∧ c ≤ 247275 ∧ s ≤ 1240925 := by
  obtain ⟨⟨x1, x2, T9, M9⟩, c, s, e, dn, rfl, rfl, q1, q2, q3, q4, q5⟩ := loopc_ex (B := fun x : Int32 × Int32 × Int32 × gT × gM => f_L_law_B192 n f x.2.2.2.1 x.2.2.2.2 x.1 i2 0 rr l a7 x.2.1 x.2.2.1) (P := fun t y c s => y.1 = 1 ∧ y.2.2.1 = nI t ∧ t ≤ 35 ∧ y.2.2.2.1.length ≤ T.length + 7065 * t ∧ c ≤ 7065 * t ∧ s ≤ 35455 * t ∧ ∃ dn, dn ≤ t ∧ y.2.1 = nI dn ∧ MS y.2.2.2.1 y.2.2.2.2 rr a7 l A L R O nl nn k m dn) (Q := fun e c s => ∃ dn, e.1 = 1 ∧ e.2.1 = nI dn ∧ dn ≤ 35 ∧ MS e.2.2.1 e.2.2.2 rr a7 l A L R O nl nn k m dn ∧ e.2.2.1.length ≤ T.length + 247275 ∧ c ≤ 247275 ∧ s ≤ 1240925) (fu := gFU) (x := ((1 : Int32), (0 : Int32), (0 : Int32), T, M)) 35 (by decide) ⟨rfl, rfl, by omega, by show T.length ≤ T.length + 7065 * 0; omega, by omega, by omega, 0, by omega, rfl, hS⟩ (fun t y c s _ hP => by
    obtain ⟨y1, y2, y3, T1, M1⟩ := y
    obtain ⟨rfl, rfl, ht, hl, hc, hs, dn, hdn, rfl, h⟩ := hP
    dsimp only at hl h ⊢
    by_cases e : t = 35
    · have h0 := h
      obtain ⟨nx, sz, B, lc, ld, hC, -⟩ := h
      have hX9 : f_L_law_B192 n f T1 M1 1 i2 0 rr l a7 (nI dn) (nI t) = some (.inl (1, nI dn, T1, M1), 0, 0) := by
        unfold f_L_law_B192
        rw [gkd_ok (s_obj hC.1), Option.bind_some, gkd_ok hC.2.2.2.2.2.2.2.2.1, Option.bind_some, LK_kd hC.2.2.1, Option.bind_some, gkd_ok hC.2.2.2.2.2.2.2.2.2.1, Option.bind_some, if_pos (show (35 : Int32) ≤ nI t by rw [e]; decide)]
      exact Or.inl ⟨_, 0, 0, hX9, dn, rfl, rfl, by omega, h0, by show T1.length ≤ T.length + 247275; omega, by omega, by omega⟩
    · obtain ⟨dn', T2, M2, c2, s2, e2, h2, hl2, hc2, hs2, hd2⟩ := b_round (n := n) (f := f) (i2 := i2) hX h (t := t) (by omega) (by omega)
      have k1 : T2.length ≤ T.length + 7065 * (t + 1) := Nat.le_trans hl2 (Nat.le_trans (Nat.add_le_add_right hl _) (by rw [Nat.mul_add, Nat.mul_one]; omega))
      have k2 : c + c2 ≤ 7065 * (t + 1) := by rw [Nat.mul_add, Nat.mul_one]; omega
      have k3 : s + s2 ≤ 35455 * (t + 1) := by rw [Nat.mul_add, Nat.mul_one]; omega
      have k4 : t + 1 ≤ 35 := by omega
      exact Or.inr ⟨by omega, _, c2, s2, e2, rfl, nI_1 t, k4, k1, k2, k3, dn', by omega, rfl, h2⟩)
  exact ⟨dn, T9, M9, c, s, e, q1, q2, q3, q4, q5⟩
/-- after j steps back -/
def UN [gW0] (T : gT) (M : gM) (rr a7 l : Nat) (L O : Nat → Nat) (nl nn : Nat) (k : Nat → Nat × Nat) (m dn j : Nat) : Prop := T[a7]? = some (22, 9) ∧ ∃ nx sz d, d + j = dn ∧ cInv T M k m nx sz d 0 ∧ (d ≤ sz ∨ 8 ≤ sz + j) ∧ ∀ q, q < d → q + j < 8 → ∃ b, gr M a7 (q + j) = some b ∧ KP T M rr a7 l L O nl nn k m b (gSlot nx q)
theorem UN_fr [gW0] (hF : fr (fun b _ => b = 74 ∨ b = 75) M N) (h : UN T M rr a7 l L O nl nn k m dn j) : UN T N rr a7 l L O nl nn k m dn j := by
  obtain ⟨h7, nx, sz, d, h1, h2, h3, h4⟩ := h
  refine ⟨h7, nx, sz, d, h1, cInv_fr h2 hF (fun b j z => by omega) (gBf_fr h2.2.2.2.2.2 hF (fun b j z => z)), h3, fun q hq hq8 => ?_⟩
  obtain ⟨b, b1, b2⟩ := h4 q hq hq8
  have hs := h2.2.2.1.2.2.2.2.2 q (by omega) hq
  exact ⟨b, (hF.1 _ _).trans b1, KP_mv hs.1 (fun b hb x hx => ⟨hx, fun j => hF.2.2 b j (fun z => by have := hb.1.1; omega), fun j => hF.1 b j⟩) (fr_d37 hF (fun b j z => by omega) (Or.inr (gD_slot nx q))) b2⟩
theorem UN_to [gW0] (hG : gTo T M T1 M1 c) (h : UN T M rr a7 l L O nl nn k m dn j) : UN T1 M1 rr a7 l L O nl nn k m dn j := by
  obtain ⟨h7, nx, sz, d, h1, h2, h3, h4⟩ := h
  refine ⟨gTo_sh hG h7, nx, sz, d, h1, (cInv_ce (gCe_to hG) h2).1, h3, fun q hq hq8 => ?_⟩
  obtain ⟨b, b1, b2⟩ := h4 q hq hq8
  have hs := h2.2.2.1.2.2.2.2.2 q (by omega) hq
  exact ⟨b, (gTo_gr hG h7 _).trans b1, KP_mv hs.1 (gKe_To hG) ((cInv_ce (gCe_to hG) h2).2 _ (Or.inr (gD_slot nx q))) b2⟩
theorem t_back [gW0] (h7 : 311 ≤ a7) (hl : nl ≤ 5) (hn : nn ≤ 4) (h : UN T M rr a7 l L O nl nn k m dn j) (hj : j < dn) (hj8 : j < 8) (hdn : dn ≤ 35) (hT : T.length + 3824 ≤ 900000) : ∃ T' M' c s, f_L_law_B1198 n f T M 1 i2 0 a7 (nI dn) (nI j) = some (.inr (1, nI (j + 1), T', M'), c, s) ∧ UN T' M' rr a7 l L O nl nn k m dn (j + 1) ∧ T'.length ≤ T.length + 3824 ∧ c ≤ 3824 ∧ s ≤ 22522 := by
  obtain ⟨s7, nx, sz, d, h1, h2, h3, h4⟩ := h
  obtain ⟨d', rfl⟩ : ∃ d', d = d' + 1 := ⟨d - 1, by omega⟩
  obtain ⟨sz', rfl⟩ : ∃ s, sz = s + 1 := ⟨sz - 1, by omega⟩
  have hnx := h2.2.2.1.1
  have hnx7 : (nx + 7) % 8 < 8 := Nat.mod_lt _ (by decide)
  obtain ⟨N, e1, hI, hd, hds, hLf, -⟩ := o_undo h2
  obtain ⟨b, b1, b2⟩ := h4 0 (by omega) (by omega)
  rw [Nat.zero_add] at b1
  have keN : gKe (Pb rr a7 l L O nl) T M T N := fun b hb x hx => ⟨hx, (hLf b hb.1.1).2 hb.1.2.1, (hLf b hb.1.1).1⟩
  have hsl := h2.2.2.1.2.2.2.2.2
  have b3 := KP_sl (hsl 0 (by omega) (by omega)).1 keN hd b2
  have hU : UN T N rr a7 l L O nl nn k m dn (j + 1) := by
    refine ⟨s7, (nx + 7) % 8, sz', d', by omega, hI, by omega, fun q hq hq8 => ?_⟩
    obtain ⟨b, y1, y2⟩ := h4 (q + 1) (by omega) (by omega)
    refine ⟨b, ?_, KP_sl (hsl (q + 1) (by omega) (by omega)).1 keN (hds q (by omega)) y2⟩
    rw [(hLf a7 h7).1, show q + (j + 1) = q + 1 + j by omega]
    exact y1
  obtain ⟨A', B', L', R', O', lc', ld', z1, z2, z3, z4⟩ := b3
  obtain ⟨N2, T', M', c1, c, s, w1, w2, w3, w4, w5, w6⟩ := p_agrees hI z1 (fun b hb => hb.1.1) z2 (by omega) (by omega) hT
  have hlen := w3.2.2
  have gN : gr N a7 j = some b := ((hLf a7 h7).1 j).trans b1
  refine ⟨T', M', c + 0, s + 0, ?_, UN_to w3 (UN_fr w2 hU), by omega, by omega, by omega⟩
  unfold f_L_law_B1198 f_L_law_1240
  rw [gkd_ok (s_obj h2), Option.bind_some, gkd_ok s7, Option.bind_some, if_neg (show ¬ (8 : Int32) ≤ nI j from nI_ge (b := 8) hj8 (by decide)), if_neg (nI_ge hj (by omega)), if_neg (by decide), e1, Option.bind_some]
  dsimp only
  rw [if_neg (nI_pos (by have := h2.2.2.1.2.1; omega)), aldo_ok s7 (by omega) (by decide), gN, Option.bind_some, gko_some z1.1.2.1, Option.bind_some, gsm_some z1.1.2.1, Option.bind_some, w1, Option.bind_some]
  dsimp only
  rw [if_neg (by decide), cadd_some, nI_1]
theorem t_undos [gW0] (hX : FX rr a7 l L R O nl) (hS : MS T M rr a7 l A L R O nl nn k m dn) (hdn : dn ≤ 35) (hT : T.length + 30592 ≤ 900000) : ∃ T' M' c s, gloopc (fun x : Int32 × Int32 × gT × gM => f_L_law_B1198 n f x.2.2.1 x.2.2.2 x.1 i2 0 a7 (nI dn) x.2.1) gFU ((1 : Int32), (0 : Int32), T, M) = some ((1, T', M'), c, s) ∧ (∃ nx sz d, cInv T' M' k m nx sz d 0) ∧ T'.length ≤ T.length + 30592 ∧ c ≤ 30592 ∧ s ≤ 180176 := by
  obtain ⟨nx, sz, B, lc, ld, hC, hq⟩ := hS
  have h7 : 311 ≤ a7 := by have := hX.2.2.2.2.1; have := w0_ge; omega
  have hl := hX.2.2.2.2.2.2.2.2.2
  have hn := hC.2.2.2.2.2.2.1
  have h0 : UN T M rr a7 l L O nl nn k m dn 0 := ⟨hC.2.2.2.2.2.2.2.2.2.1, nx, sz, dn, by omega, hC.1, hC.2.1, fun q hqd hq8 => hq q hqd hq8⟩
  obtain ⟨⟨x1, T9, M9⟩, c, s, e, rfl, q1, q2, q3, q4⟩ := loopc_ex (B := fun x : Int32 × Int32 × gT × gM => f_L_law_B1198 n f x.2.2.1 x.2.2.2 x.1 i2 0 a7 (nI dn) x.2.1) (P := fun t y c s => y.1 = 1 ∧ y.2.1 = nI t ∧ t ≤ 8 ∧ t ≤ dn ∧ y.2.2.1.length ≤ T.length + 3824 * t ∧ c ≤ 3824 * t ∧ s ≤ 22522 * t ∧ UN y.2.2.1 y.2.2.2 rr a7 l L O nl nn k m dn t) (Q := fun e c s => e.1 = 1 ∧ (∃ nx sz d, cInv e.2.1 e.2.2 k m nx sz d 0) ∧ e.2.1.length ≤ T.length + 30592 ∧ c ≤ 30592 ∧ s ≤ 180176) (fu := gFU) (x := ((1 : Int32), (0 : Int32), T, M)) 8 (by decide) ⟨rfl, rfl, by omega, by omega, by show T.length ≤ T.length + 3824 * 0; omega, by omega, by omega, h0⟩ (fun t y c s _ hP => by
    obtain ⟨y1, y2, T1, M1⟩ := y
    obtain ⟨rfl, rfl, ht, htd, hl1, hc, hs, h⟩ := hP
    dsimp only at hl1 h ⊢
    by_cases e : t = 8 ∨ t = dn
    · obtain ⟨s7, nx, sz, d, h1, h2, h3, h4⟩ := h
      have hX9 : f_L_law_B1198 n f T1 M1 1 i2 0 a7 (nI dn) (nI t) = some (.inl (1, T1, M1), 0, 0) := by
        unfold f_L_law_B1198
        rw [gkd_ok (s_obj h2), Option.bind_some, gkd_ok s7, Option.bind_some]
        rcases e with rfl | rfl
        · rw [if_pos (by decide)]
        · split
          · rfl
          · rw [if_pos (nI_le (Nat.le_refl _) (by omega))]
      exact Or.inl ⟨_, 0, 0, hX9, rfl, ⟨nx, sz, d, h2⟩, by show T1.length ≤ T.length + 30592; omega, by omega, by omega⟩
    · obtain ⟨T2, M2, c2, s2, e2, h2, hl2, hc2, hs2⟩ := t_back (n := n) (f := f) (i2 := i2) h7 hl hn h (by omega) (by omega) hdn (by omega)
      have k1 : T2.length ≤ T.length + 3824 * (t + 1) := Nat.le_trans hl2 (Nat.le_trans (Nat.add_le_add_right hl1 _) (by rw [Nat.mul_add, Nat.mul_one]; omega))
      have k2 : c + c2 ≤ 3824 * (t + 1) := by rw [Nat.mul_add, Nat.mul_one]; omega
      have k3 : s + s2 ≤ 22522 * (t + 1) := by rw [Nat.mul_add, Nat.mul_one]; omega
      have k4 : t + 1 ≤ 8 := by omega
      have k5 : t + 1 ≤ dn := by omega
      exact Or.inr ⟨by omega, _, c2, s2, e2, rfl, rfl, k4, k5, k1, k2, k3, h2⟩)
  exact ⟨T9, M9, c, s, e, q1, q2, q3, q4⟩
end PUN
