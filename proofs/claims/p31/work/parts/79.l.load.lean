/-! A TEXT OF STATEMENTS, and its load -/
/-- whoever reads a text that begins with tx comes to V at its end -/
def Rd (V0 : gM) (tx : List Nat) (V : gM) (nl nn a b : Nat) (k : Nat → Nat × Nat) (m : Nat) : Prop := ∀ (T : gT) (M : gM) (B : Nat → Nat) (n : Nat), RT T M B n 5 V0 0 0 0 0 (fun _ => (1, 0)) 1 → bs B 0 tx → tx.length ≤ n → ∃ i M', i ≤ tx.length ∧ (∀ fu, gloop (fun x => f_X5_readText_B58 T x.2 2 x.1) (fu + i) ((0 : Int32), M) = gloop (fun x => f_X5_readText_B58 T x.2 2 x.1) fu (nI i, M')) ∧ RT T M' B n tx.length V nl nn a b k m ∧ fz cS11 cLd M M'
theorem Rd_0 {V0 : gM} : Rd V0 (gStrs.getD 13 []) V0 0 0 0 0 (fun _ => (1, 0)) 1 := fun T M B n h _ _ => by
  rw [show (gStrs.getD 13 []).length = 5 by decide +kernel]
  exact ⟨0, M, Nat.zero_le _, fun fu => rfl, h, fz_refl⟩
section PRD
variable {T T1 : gT} {M M' N A V V' V0 : gM} {B : Nat → Nat} {n p s e q i nl nn a b m nl' nn' a' b' m' nx sz dn bq D : Nat} {k k' : Nat → Nat × Nat} {tx st : List Nat}
theorem Rd_ext (h : Rd V0 tx V nl nn a b k m) (hs : SS V nl nn a b k m st V' nl' nn' a' b' k' m') (h8 : tx.length + st.length ≤ 790) (hst : 1 ≤ st.length) : Rd V0 (tx ++ st) V' nl' nn' a' b' k' m' := by
  intro T M B n hR hb hn
  rw [bs_app] at hb
  rw [List.length_append] at hn ⊢
  obtain ⟨i, M1, hi, h1, h2, h3⟩ := h T M B n hR hb.1 (by omega)
  obtain ⟨s1, s2, M2, M3, s3, s4, s5, s6⟩ := hs T M1 B n tx.length h2 (by have := hb.2; rwa [Nat.zero_add] at this) (by omega)
  obtain ⟨e, hT⟩ := aT_at (k := 0) h2.1 sp0 (isL_32 s2) s1
  have hX := h2.1.1
  have hk0 : ¬ gi M1 3 3 = 0 := fun z => (c_kind0 hT).mp z s1
  have hA : f_X5_readText_B58 T M1 2 (nI i) = some (.inr (nI (i + 1), M3)) := by
    unfold f_X5_readText_B58
    rw [if_neg (show ¬ (800 : Int32) ≤ nI i from nI_ge (b := 800) (by omega) (by decide)), r_2_0 hX, Option.bind_some, if_neg hk0, s3, Option.bind_some]
    dsimp only
    rw [if_neg (by decide), s4, Option.bind_some]
    dsimp only
    rw [if_pos (by decide), nI_1]
  refine ⟨i + 1, M3, by omega, fun fu => ?_, s5, fz_trans h3 s6⟩
  rw [show fu + (i + 1) = (fu + 1) + i by omega, h1, gloop_two (A := fun x => f_X5_readText_B58 T x.2 2 x.1) (a := (nI i, M1)) hA]
/-- the class reads it -/
theorem ld_text (hX : gFx T M) (hDa : gDat T M 5) (hRd : Rd V0 tx V nl nn a b k m) (h5 : 5 ≤ tx.length) (hlk : bs (fun j => tx.getD j 0) 0 (gStrs.getD 13 [])) (h8 : tx.length ≤ 790) (hB : ∀ j, j < tx.length → tx.getD j 0 < 128 ∧ gi M 1 j = nI (tx.getD j 0)) (hV : ∀ b j, dIn 5 b j → b ≠ 5 → gi M b j = gi V0 b j) (v1 : gi V0 5 1 = 0) (v2 : gi V0 5 2 = 0) (v3 : gi V0 5 3 = 50) : ∃ A, f_X5_readText T M 2 1 (nI tx.length) = cTail T A ∧ RU T A V nl nn a b k m ∧ gFx T A ∧ cG M A := by
  obtain ⟨B, hBt⟩ : ∃ B : Nat → Nat, ∀ j, B j = tx.getD j 0 := ⟨_, fun _ => rfl⟩
  have hlk : bs B 0 (gStrs.getD 13 []) := fun i hi => (hBt _).trans (hlk i hi)
  have hBb : ∀ j, j < tx.length → B j < 256 ∧ gi M 1 j = cB (B j) ∧ (gi M 1 j).toInt8.toInt32 = gi M 1 j := fun j hj => by
    obtain ⟨q1, q2⟩ := hB j hj
    rw [← hBt] at q1 q2
    have e8 : ∀ c, c < 128 → (nI c).toInt8.toInt32 = nI c := by decide +kernel
    exact ⟨by omega, by rw [q2, cB_lo _ q1], by rw [q2, e8 _ q1]⟩
  obtain ⟨M1, s, e, c1, c2, c3, c4, c5, c6, c7, c8, c9, c10, c11, c12⟩ := c_text (B := B) (n := tx.length) hX (by omega) hBb
  have hX1 : gFx T M1 := gFx_gr hX c4.1
  have hU1 : RU T M1 V0 0 0 0 0 (fun _ => (1, 0)) 1 := by
    refine ⟨gDat_gr hDa c4.1, fun b j hd => ?_, ⟨v1, by decide⟩, ⟨v2, by decide⟩, fun i hi => absurd hi (Nat.not_lt_zero i), fun i hi => absurd hi (Nat.not_lt_zero i), ⟨c10, c11⟩, c8, fun t ht => ?_⟩
    · by_cases e5 : b = 5
      · subst e5
        rcases hd with ⟨-, hj⟩ | ⟨i, hi, hl⟩
        · rcases hj with rfl | rfl | rfl
          · rw [c5, v1]
          · rw [c6, v2]
          · rw [c7, v3]
        · have := lIn_rng hl
          omega
      · rw [c12 b j hd e5]
        exact hV b j hd e5
    · rw [show t = 0 by omega, c9]
      decide
  rw [show gStrs.getD 13 [] = gStrs.getD 0 [] ++ [59] by decide +kernel, bs_app] at hlk
  obtain ⟨l1, l2⟩ := hlk
  have g0 : gSl 0 = 4 := by decide +kernel
  rw [show (gStrs.getD 0 []).length = 4 from g0, Nat.zero_add] at l2
  have l2 := bs1 l2
  have hA1 : aT T M1 B tx.length 0 := ⟨hX1, s, e, c2, c3⟩
  obtain ⟨M2, d1, d2, d3⟩ := s_key (i := 0) (k := 0) (by decide) hA1 sp0 l1 (by
    rw [g0]
    show ¬ isL (B 4)
    rw [l2]
    decide) (by rw [g0]; omega)
  rw [show 0 + 0 + gSl 0 = 4 by rw [g0]] at d2
  obtain ⟨M3, f1, f2, f3⟩ := s_semi d2 l2 (by omega)
  obtain ⟨i, M', hi, r1, r2, r3⟩ := hRd T M3 B tx.length (RT_of f2 (RU_t (RU_t hU1 d3) f3)) (fun j _ => by rw [Nat.zero_add]; exact hBt j) (Nat.le_refl _)
  have hk0 : gi M' 3 3 = 0 := by
    obtain ⟨-, s', e', y1, y2⟩ := r2.1
    refine (c_kind0 y2).mpr ?_
    have := y1.1
    omega
  have hF : gFU = 3000 := rfl
  have hL : gloop (fun x => f_X5_readText_B58 T x.2 2 x.1) gFU ((0 : Int32), M3) = some (.inr M') := by
    have e1 := r1 (gFU - i)
    rw [show gFU - i + i = gFU by omega] at e1
    rw [e1, show gFU - i = (gFU - i - 1) + 1 by omega]
    refine gloop_one (A := fun x => f_X5_readText_B58 T x.2 2 x.1) (a := (nI i, M')) ?_ _
    show f_X5_readText_B58 T M' 2 (nI i) = _
    unfold f_X5_readText_B58
    rw [if_neg (show ¬ (800 : Int32) ≤ nI i from nI_ge (b := 800) (by omega) (by decide)), r_2_0 r2.1.1, Option.bind_some, if_pos hk0]
  refine ⟨M', ?_, r2.2, r2.1.1, fz_trans (fz_trans c4 (fz_trans (fz_11 d3) (fz_11 f3))) r3⟩
  rw [c1]
  unfold cText
  rw [d1, Option.bind_some]
  dsimp only
  rw [if_neg (by decide), f1, Option.bind_some]
  dsimp only
  rw [if_pos (by decide), hL, Option.bind_some]
  rfl
end PRD
section PLL
variable {T T1 : gT} {M N K V V0 : gM} {D D' n p s e q i nl nn a b m m0 nx sz dn bq : Nat} {k k0 : Nat → Nat × Nat} {tx : List Nat}
theorem cS11_no {b j : Nat} (h : cS11 b j) : b = 2 ∨ b = 3 ∨ b = 4 ∨ b = 5 ∨ b = 36 ∨ (10 ≤ b ∧ b ≤ 33) := by
  rcases h with h | h | h | h | h
  · omega
  · omega
  · omega
  · omega
  · have := d5_no h; omega
/-- the class's invariant where only the reader's places have changed, and the list of shapes goes on -/
theorem cInv_rd [gW0] (hI : cInv T M k m nx sz dn bq) (hl : 311 ≤ T.length) (hE : gEx T T1) (hi : ∀ b j, b < T.length → ¬ cS11 b j → ¬ (b = 0 ∧ (j = 1 ∨ j = 2)) → gi N b j = gi M b j) (hr : ∀ b j, b < T.length → ¬ (b = 5 ∧ j = 4) → gr N b j = gr M b j) (h0 : gi N 0 1 = 0) (hK : ∀ i, i < 8 → dKp N 5 i = 0 ∨ dKp N 5 i = 1) : cInv T1 N k m nx sz dn 0 := by
  obtain ⟨i0, i3, ⟨hnx, hsz, j1, j2, j4, j5⟩, i5, i6, i7⟩ := hI
  have hX := i0.1
  have hX1 : gFx T1 N := gFx_ex hX hl hE (fun b j hb hn => hr b j (by omega) (fun z => hn ⟨by rw [z.1]; exact gDs_mem (Or.inl rfl), z.2⟩))
  have hds : ∀ D, gD D → dSame N D M D := fun D hD b j hd => by
    have h1 := dIn_rngs (Or.inr hD) hd
    have h2 := dIn_rng hd
    have h3 : ¬ cS11 b j := fun z => by
      have := cS11_no z
      have h4 := dIn_two hd
      rcases hD with rfl | ⟨i, hi, rfl⟩ <;> omega
    rw [show b - D + D = b by omega]
    exact hi b j (by omega) h3 (by omega)
  have hda : ∀ D, D = 5 ∨ gD D → gDat T M D → gDat T1 N D := fun D hD hd => by
    have hb : 5 ≤ D ∧ D + 28 < 311 := by rcases hD with rfl | rfl | ⟨i, hi, rfl⟩ <;> omega
    exact ⟨hE _ _ hd.1, hE _ _ hd.2.1, (hr _ _ (by omega) (by omega)).trans hd.2.2.1, fun i hi => ⟨⟨hE _ _ (hd.2.2.2 i hi).1.1, hE _ _ (hd.2.2.2 i hi).1.2.1, hE _ _ (hd.2.2.2 i hi).1.2.2⟩, (hr _ _ (by omega) (by omega)).trans (hd.2.2.2 i hi).2.1, (hr _ _ (by omega) (by omega)).trans (hd.2.2.2 i hi).2.2.1, (hr _ _ (by omega) (by omega)).trans (hd.2.2.2 i hi).2.2.2⟩⟩
  have hval : ∀ D, gD D → gVal T M D → gVal T1 N D := fun D hD hv => by
    have hd0 : gDat T N D := by
      have hb : 5 < D ∧ D + 28 < 311 := by rcases hD with rfl | ⟨i, hi, rfl⟩ <;> omega
      have hd := hv.1
      exact ⟨hd.1, hd.2.1, (hr _ _ (by omega) (by omega)).trans hd.2.2.1, fun i hi => ⟨(hd.2.2.2 i hi).1, (hr _ _ (by omega) (by omega)).trans (hd.2.2.2 i hi).2.1, (hr _ _ (by omega) (by omega)).trans (hd.2.2.2 i hi).2.2.1, (hr _ _ (by omega) (by omega)).trans (hd.2.2.2 i hi).2.2.2⟩⟩
    exact ⟨hda D (Or.inr hD) hv.1, (gVal_same (hds D hD) hd0 hv).2⟩
  have hwt : ∀ {D : Nat} {k' : Nat → Nat × Nat} {m' : Nat}, gD D → gWt T M D k' m' → gWt T1 N D k' m' := fun {D k' m'} hD hw => by
    obtain ⟨w, g4, hw1, g0, hc, g1, hs, hww, hk⟩ := hw
    have hb : 5 < D ∧ D + 28 < 311 := by rcases hD with rfl | ⟨i, hi, rfl⟩ <;> omega
    have l0 := sh_lt hw1
    have l1 := sh_lt hc
    have hco := gCo_no (gCo_w hww)
    exact ⟨w, (hr _ _ (by omega) (by omega)).trans g4, hE _ _ hw1, (hr _ _ l0 (by omega)).trans g0, hE _ _ hc, (hr _ _ l0 (by omega)).trans g1, hE _ _ hs, hww, fun t ht => (hi _ _ l1 (fun z => by have := cS11_no z; omega) (by omega)).trans (hk t ht)⟩
  have hsl : ∀ {k' : Nat → Nat × Nat} {m' : Nat} (q : Nat), gSlt T M (gSlot nx q) k' m' → gSlt T1 N (gSlot nx q) k' m' := fun q hs => ⟨hval _ (gD_slot nx q) hs.1, hwt (gD_slot nx q) hs.2.1, hs.2.2⟩
  have h37 : gD 37 := Or.inl rfl
  have e1 := dNl_same (hds 37 h37)
  have e2 := dNn_same (hds 37 h37)
  have far : ∀ b j, 37 ≤ b → b < 311 → gi N b j = gi M b j := fun b j h1 h2 => hi b j (by omega) (fun z => by have := cS11_no z; omega) (by omega)
  refine ⟨⟨hX1, hval 37 h37 i0.2.1, trivial, hwt h37 i0.2.2.2.1, trivial, i0.2.2.2.2.2.1, i0.2.2.2.2.2.2.1, trivial⟩, ⟨fun j hj => ?_, fun n hn => ?_⟩, ⟨hnx, hsz, (far 76 1 (by omega) (by omega)).trans j1, (far 76 2 (by omega) (by omega)).trans j2, fun q hq => ?_, fun q hq hd => hsl q (j5 q hq hd)⟩, fun D hD i hi8 => ?_, fun D hD => hda D hD (i6 D hD), by decide, h0, fun j hj => ?_⟩
  · rw [e1] at hj
    rw [far 67 j (by omega) (by omega), dRk_same (hds 37 h37) (by have := i0.2.1.2.1; omega), i3.1 j hj, vW_sameV i0.2.1 (hds 37 h37) j hj]
  · rw [e2] at hn
    have h12 := i0.2.1.2.2.1
    obtain ⟨a1, a2, a3, a4⟩ := gElN_same (A := M) (hds 37 h37) i0.2.1 (by omega) (vW_sameV i0.2.1 (hds 37 h37)) (i3.2 n hn)
    refine ⟨?_, ?_, ?_, fun i hi => ?_⟩
    · rw [far 68 _ (by omega) (by omega)]; exact a1
    · rw [far 69 _ (by omega) (by omega)]; exact a2
    · rw [far 70 _ (by omega) (by omega)]; exact a3
    · rw [far 71 _ (by omega) (by omega), far 72 _ (by omega) (by omega), far 73 _ (by omega) (by omega)]; exact a4 i hi
  · obtain ⟨k', m', hs⟩ := j4 q hq
    exact ⟨k', m', hsl q hs⟩
  · rcases hD with rfl | hD
    · exact hK i hi8
    · rw [show dKp N D i = dKp M D i from dKp_same (hds D hD) hi8]
      exact i5 D (Or.inr hD) i hi8
  · rw [hi 1 j (by omega) (fun z => by have := cS11_no z; omega) (by omega)]
    exact i7.2.2 j hj
theorem p_midL [gW0] {M1 M2 : gM} {k' : Nat → Nat × Nat} {m' : Nat} (hI : cInv T M k m nx sz dn bq) (hB : gBg M M1 nx sz) (h1 : ∀ b j, ¬ (b = 37 ∧ j = 4) → gr M2 b j = gr M1 b j) (h3 : ∀ b j, ¬ dIn 37 b j → gi M2 b j = gi M1 b j) (hC2 : gCls T M2 k' m') (hK : ∀ i, i < 8 → dKp M2 37 i = 0 ∨ dKp M2 37 i = 1) : ∃ N, f_X1_count T M2 66 37 = some N ∧ (cInv T N k' m' ((nx + 1) % 8) (if sz < 8 then sz + 1 else 8) 0 bq ∧ dSame N (78 + 29 * nx) M 37 ∧ (∀ j, j < 96 → gi N 310 j = gi M 73 j) ∧ (∀ b j, dIn 37 b j → gi N b j = gi M2 b j) ∧ (∀ t, t < sz → t < 7 → dSame N (gSlot nx t) M (gSlot nx t)) ∧ gLf M N ∧ gi N 0 2 = gi M 0 2) ∧ fr (fun b _ => (67 ≤ b ∧ b ≤ 73) ∨ gStk b) M2 N := by
  have i1 := cInv_sl hI
  obtain ⟨i0, i3, ⟨hnx, hsz, j1, j2, j4, j5⟩, i5, i6, i7⟩ := hI
  have i2 := i0.1
  obtain ⟨b1, b2, b3, b4, b5, b6, b7, b8⟩ := hB
  have hDk : gD (78 + 29 * nx) := Or.inr ⟨nx, hnx, rfl⟩
  have hg : ∀ b j, ¬ (b ∈ gDs ∧ j = 4) → gr M2 b j = gr M b j := fun b j hb => (h1 b j (fun q => hb ⟨by rw [q.1]; exact gDs_mem (Or.inr (Or.inl rfl)), q.2⟩)).trans (b1 b j (fun q => hb ⟨by rw [q.1]; exact gDs_mem (Or.inr hDk), q.2⟩))
  have hX2 : gFx T M2 := gFx_of i2 hg
  have hc1 : ∀ b j, gCo b → gi M2 b j = gi M b j := fun b j hb => by
    have hb2 := gCo_no hb
    rw [h3 b j (fun q => dIn_noCo (Or.inr (Or.inl rfl)) q hb)]
    exact b8 b j (fun q => dIn_noCo (Or.inr hDk) q hb) (by omega) (by omega)
  obtain ⟨N, c1, c2, c3, c4⟩ := p_count hC2
  have hN : ∀ b j, ¬ ((67 ≤ b ∧ b ≤ 73) ∨ gStk b) → ¬ dIn 37 b j → gi N b j = gi M1 b j := fun b j q1 q2 => (c2.2.2 b j q1).trans (h3 b j q2)
  have hlo : ∀ b, b ≤ 8 ∨ b = 37 ∨ b = 76 ∨ (286 ≤ b ∧ b < 311) → ¬ ((67 ≤ b ∧ b ≤ 73) ∨ gStk b) := fun b hb q => q.elim (fun z => by omega) (fun z => by have := gStk_no z; omega)
  have hother : ∀ D b j, (D = 5 ∨ gD D) → D ≠ 37 → D ≠ 78 + 29 * nx → dIn D b j → gi N b j = gi M b j := fun D b j hD hne1 hne2 hd => by
    have hr := dIn_rngs hD hd
    rw [hN b j (dst_no hD hd) (dIn_apart hD (Or.inr (Or.inl rfl)) hne1 hd)]
    exact b8 b j (dIn_apart hD (Or.inr hDk) hne2 hd) (by omega) (by omega)
  have hDkd : dSame N (78 + 29 * nx) M 37 := fun b j hd => by
    rw [hN b j (dst_no (Or.inr hDk) hd) (dIn_apart (Or.inr hDk) (Or.inr (Or.inl rfl)) (by omega) hd)]
    exact b4 b j hd
  have hmid : ∀ b j, (b = 0 ∨ b = 1) → gi N b j = gi M b j := fun b j hb => by
    rw [hN b j (hlo b (by omega)) (fun q => by have := dIn_rngs (Or.inr (Or.inl rfl)) q; omega)]
    exact b8 b j (fun q => by have := dIn_rngs (Or.inr hDk) q; omega) (by omega) (by omega)
  have hgN : ∀ b j, ¬ (b ∈ gDs ∧ j = 4) → gr N b j = gr M b j := fun b j hb => (c2.1 b j).trans (hg b j hb)
  have hgk : gr N (78 + 29 * nx) 4 = gr M 37 4 := (c2.1 _ _).trans ((h1 _ _ (by omega)).trans b2)
  have hcN : ∀ b j, gCo b → gi N b j = gi M b j := fun b j hb => by
    have hb2 := gCo_no hb
    rw [c2.2.2 b j (fun q => q.elim (fun z => by omega) (fun z => by have := gStk_no z; omega))]
    exact hc1 b j hb
  have hDaN : gDa T N := gDa_of i6 hgN
  have hold : ∀ q, q < 7 → dSame N (gSlot nx q) M (gSlot nx q) := fun q hq7 b j hd => by
    have h5 := dIn_rng hd
    rw [show b - gSlot nx q + gSlot nx q = b by omega]
    exact hother _ b j (Or.inr (gD_slot nx q)) (by unfold gSlot; omega) (gSlot_ne hnx hq7) hd
  have holdS : ∀ {k' : Nat → Nat × Nat} {m' : Nat} (q : Nat), q < 7 → gSlt T M (gSlot nx q) k' m' → gSlt T N (gSlot nx q) k' m' := fun q hq7 hs => gSl_mv hs (hDaN _ (Or.inr (gD_slot nx q))) (hold q hq7) ((c2.1 _ _).trans ((h1 _ _ (fun z => by unfold gSlot at z; omega)).trans (b1 _ _ (fun z => gSlot_ne hnx hq7 z.1)))) hgN hcN
  have hnew : gSlt T N (78 + 29 * nx) k m := gSl_mv i1 (hDaN _ (Or.inr hDk)) hDkd hgk hgN hcN
  refine ⟨N, c1, ⟨⟨c3, c4, ⟨Nat.mod_lt _ (by decide), by split <;> omega, ?_, ?_, fun q hq => ?_, fun q hq hqd => absurd hqd (Nat.not_lt_zero q)⟩, fun D hD i hi => ?_, hDaN, ?_⟩, hDkd, fun j hj => ?_, fun b j hd => c2.2.2 b j (dst_no (Or.inr (Or.inl rfl)) hd), fun t _ ht => hold t ht, fun b hb => ⟨fun j => ?_, fun hbw j => ?_⟩, hmid 0 2 (Or.inl rfl)⟩, c2⟩
  · rw [hN 76 1 (hlo 76 (by omega)) (fun q => by have := dIn_rngs (Or.inr (Or.inl rfl)) q; omega)]
    exact b5
  · rw [hN 76 2 (hlo 76 (by omega)) (fun q => by have := dIn_rngs (Or.inr (Or.inl rfl)) q; omega)]
    exact b6
  · cases q with
    | zero => rw [gSlot_0 hnx]; exact ⟨k, m, hnew⟩
    | succ q =>
      have hq7 : q < 7 := by split at hq <;> omega
      rw [gSlot_s hnx hq7]
      obtain ⟨k', m', hs⟩ := j4 q (by split at hq <;> omega)
      exact ⟨k', m', holdS q hq7 hs⟩
  · by_cases e1 : D = 37
    · subst e1
      rw [show dKp N 37 i = dKp M2 37 i from c2.2.2 _ _ (dst_no (Or.inr (Or.inl rfl)) (dIn_lib hi (Or.inr (Or.inl rfl))))]
      exact hK i hi
    · by_cases e2 : D = 78 + 29 * nx
      · subst e2
        rw [show dKp N (78 + 29 * nx) i = dKp M 37 i from dKp_same hDkd hi]
        exact i5 37 (Or.inr (Or.inl rfl)) i hi
      · rw [show dKp N D i = dKp M D i from hother D _ _ hD e1 e2 (dIn_lib hi (Or.inr (Or.inl rfl)))]
        exact i5 D hD i hi
  · obtain ⟨q1, q2, q3⟩ := i7
    exact ⟨q1, by rw [hmid _ _ (by omega)]; exact q2, fun j hj => by rw [hmid 1 j (by omega)]; exact q3 j hj⟩
  · rw [hN 310 j (hlo 310 (by omega)) (fun q => by have := dIn_rngs (Or.inr (Or.inl rfl)) q; omega)]
    exact b7 j hj
  · exact hgN b j (fun q => by have := gDs_le b q.1; omega)
  · rw [hN b j (fun q => q.elim (fun z => by omega) (fun z => by have := gStk_no z; omega)) (fun q => by have := dIn_rngs (Or.inr (Or.inl rfl)) q; omega)]
    exact b8 b j (fun q => by have := dIn_rngs (Or.inr hDk) q; omega) (by omega) (by omega)
/-- a text of statements is loaded -/
theorem ld_all [gW0] (hw : w0 = T.length) (hT : T.length + 3 ≤ 900000) (h311 : 311 ≤ T.length) (hI : cInv T M k0 m0 nx 0 0 bq) (hRd : Rd V0 tx V nl nn a b k m) (h5 : 5 ≤ tx.length) (hlk : bs (fun j => tx.getD j 0) 0 (gStrs.getD 13 [])) (h8 : tx.length ≤ 790) (hbq : tx.length ≤ bq) (hB : ∀ j, j < tx.length → tx.getD j 0 < 128 ∧ gi M 1 j = nI (tx.getD j 0)) (hV : ∀ b j, dIn 5 b j → b ≠ 5 → gi M b j = gi V0 b j) (v1 : gi V0 5 1 = 0) (v2 : gi V0 5 2 = 0) (v3 : gi V0 5 3 = 50) (hval : gVal T V 5) (hvk : ∀ i, i < 8 → dKp V 5 i = 0 ∨ dKp V 5 i = 1) (hok : wOK k m) (hm : m < 800) : ∃ T1 N, f_X8_load T M 0 (nI tx.length) = some (.inr (nI nl, T1, N)) ∧ gEx T T1 ∧ T1.length = T.length + 3 ∧ cInv T1 N k m ((nx + 1) % 8) 1 0 0 ∧ dSame N 37 V 5 ∧ ∀ b, 311 ≤ b → b < T.length → (∀ j, gi N b j = gi M b j) ∧ ∀ j, gr N b j = gr M b j := by
  have hX0 : gFx T (si M 0 1 0) := gFx_gr hI.1.1 (fun _ _ => rfl)
  have hq8 := hI.2.2.2.2.2.1
  have hc0 := hI.2.2.2.2.2.2.1
  obtain ⟨A, r1, r2, r3, r4⟩ := ld_text hX0 (gDat_gr (hI.2.2.2.2.1 5 (Or.inl rfl)) (fun _ _ => rfl)) hRd h5 hlk h8 (fun j hj => ⟨(hB j hj).1, by rw [gi_si, if_neg (by omega)]; exact (hB j hj).2⟩) (fun b j hd hb => by rw [gi_si, if_neg (by have := d5_no hd; omega)]; exact hV b j hd hb) v1 v2 v3
  have hdA : dSame A 5 V 5 := fun b j hd => by
    have := dIn_rng hd
    rw [show b - 5 + 5 = b by omega]
    exact r2.2.1 b j hd
  obtain ⟨N1, t1, t2, t3, t4, t5, t6, t7, t8⟩ := c_tail r3 hT h311 r2.2.2.2.2.2.2.2.1 hm
  generalize hT1 : ((T ++ [((7 : Nat), (0 : Nat))]) ++ [(11, m)]) ++ [(11, 11)] = T1 at t1
  have hE : gEx T T1 := fun a y h => by rw [← hT1]; exact ge_old (ge_old (ge_old h))
  have l1 : (T ++ [((7 : Nat), (0 : Nat))]).length = T.length + 1 := ge_len
  have l2 : ((T ++ [((7 : Nat), (0 : Nat))]) ++ [(11, m)]).length = T.length + 2 := by rw [ge_len, l1]
  have l3 : T1.length = T.length + 3 := by rw [← hT1, ge_len, l2]
  have s0 : T1[T.length]? = some (7, 0) := by rw [← hT1]; exact ge_old (ge_old ge_last)
  have s1 : T1[T.length + 1]? = some (11, m) := by rw [← hT1, ← l1]; exact ge_old ge_last
  have s2 : T1[T.length + 2]? = some (11, 11) := by rw [← hT1, ← l2]; exact ge_last
  have nA : ∀ b j, (b = 0 ∨ 311 ≤ b) → ¬ cS11 b j := fun b j hb z => by
    have := cS11_no z
    omega
  have kA : ∀ i, i < 8 → dKp A 5 i = 0 ∨ dKp A 5 i = 1 := fun i hi => by
    rw [show dKp A 5 i = dKp V 5 i from r2.2.1 _ _ (dIn_lib hi (Or.inr (Or.inl rfl)))]
    exact hvk i hi
  have hI5 : cInv T1 (si N1 0 2 (-1)) k0 m0 nx 0 0 0 := by
    refine cInv_rd hI h311 hE (fun b j hb h1 h2 => ?_) (fun b j hb hj => ?_) ?_ (fun i hi => ?_)
    · rw [gi_si, if_neg (by omega), t2 b j hb, r4.2.2 b j h1, gi_si, if_neg (by omega)]
    · rw [gr_si, t4 b j hb hj, r4.1]
      rfl
    · rw [gi_si, if_neg (by omega), t2 0 1 (by omega), r4.2.2 0 1 (nA 0 1 (Or.inl rfl)), gi_si, if_pos ⟨rfl, rfl⟩]
    · rw [show dKp (si N1 0 2 (-1)) 5 i = dKp A 5 i from by
        show gi (si N1 0 2 (-1)) (5 + 5 + 3 * i) 1 = gi A (5 + 5 + 3 * i) 1
        rw [gi_si, if_neg (by omega), t2 _ _ (by omega)]]
      exact kA i hi
  have hI5' := hI5
  obtain ⟨i0, i3, ⟨hnx, hsz, j1, j2, j4, j5⟩, i5, i6, i7⟩ := hI5
  obtain ⟨N2, p1, hB2⟩ := p_begin i0.1 i6 i5 i0.2.2.2.1 hnx hsz j1 j2
  have hB2' := hB2
  obtain ⟨b1, b2, b3, b4, b5, b6, b7, b8⟩ := hB2
  have hDk : gD (78 + 29 * nx) := Or.inr ⟨nx, hnx, rfl⟩
  have hgr2 : ∀ b j, ¬ (b ∈ gDs ∧ j = 4) → gr N2 b j = gr (si N1 0 2 (-1)) b j := fun b j hb => b1 b j (fun z => hb ⟨by rw [z.1]; exact gDs_mem (Or.inr hDk), z.2⟩)
  have hX2 := gFx_of i0.1 hgr2
  have hDa2 : gDa T1 N2 := gDa_of i6 hgr2
  have far2 : ∀ b j, b < 37 ∨ 311 ≤ b → gi N2 b j = gi (si N1 0 2 (-1)) b j := fun b j hb => b8 b j (fun z => by have := dIn_rng z; omega) (by omega) (by omega)
  have low : ∀ b j, 1 ≤ b → b < 37 → gi N2 b j = gi A b j := fun b j h1 h2 => by
    rw [far2 b j (Or.inl h2), gi_si, if_neg (by omega)]
    exact t2 b j (by omega)
  have hk2 : ∀ i, i < 8 → dKp N2 5 i = 0 ∨ dKp N2 5 i = 1 := fun i hi => by
    rw [show dKp N2 5 i = dKp A 5 i from low _ _ (by omega) (by omega)]
    exact kA i hi
  obtain ⟨N3, d1, d2, d3, d4, d5, d6⟩ := p_X0_copyFrom (T := T1) (M := N2) (D := 37) (D' := 5) (w := T.length) (m := 0) (by omega) (hDa2 37 (Or.inr (Or.inl rfl))) (hDa2 5 (Or.inl rfl)) ((b1 5 4 (by omega)).trans t5) s0 hk2
  have hgr3 : ∀ b j, ¬ (b ∈ gDs ∧ j = 4) → gr N3 b j = gr N2 b j := fun b j hb => d2 b j (fun z => hb ⟨by rw [z.1]; exact gDs_mem (Or.inr (Or.inl rfl)), z.2⟩)
  have hX3 := gFx_of hX2 hgr3
  have hDa3 : gDa T1 N3 := gDa_of hDa2 hgr3
  have hds : dSame N3 37 V 5 := fun b j hd => by
    have h5 := dIn_rng hd
    have h6 := dIn_shift (D' := 5) hd
    rw [d5 b j hd, low _ _ (by omega) (by omega)]
    exact r2.2.1 _ _ h6
  have hvT : gVal T1 V 5 := ⟨⟨hE _ _ hval.1.1, hE _ _ hval.1.2.1, hval.1.2.2.1, fun i hi => ⟨⟨hE _ _ (hval.1.2.2.2 i hi).1.1, hE _ _ (hval.1.2.2.2 i hi).1.2.1, hE _ _ (hval.1.2.2.2 i hi).1.2.2⟩, (hval.1.2.2.2 i hi).2⟩⟩, hval.2⟩
  have hV3 : gVal T1 N3 37 := gVal_same hds (hDa3 37 (Or.inr (Or.inl rfl))) hvT
  have hi3 : ∀ b j, 311 ≤ b → gi N3 b j = gi N1 b j := fun b j hb => by
    rw [d6 b j (fun z => by have := dIn_rng z; omega), far2 b j (Or.inr hb), gi_si, if_neg (by omega)]
  have hg3 : ∀ b j, 311 ≤ b → gr N3 b j = gr N1 b j := fun b j hb => (d2 b j (by omega)).trans (b1 b j (by omega))
  have hW3 : gWt T1 N3 37 k m := ⟨T.length, d3, s0, (hg3 _ 0 h311).trans t6, s1, (hg3 _ 1 h311).trans t7, s2, Or.inr (Or.inr (Or.inr hw.symm)), fun t ht => (hi3 _ _ (by omega)).trans ((t8 t ht).trans (r2.2.2.2.2.2.2.2.2 t ht))⟩
  have hK3 : ∀ i, i < 8 → dKp N3 37 i = 0 ∨ dKp N3 37 i = 1 := fun i hi => by
    rw [show dKp N3 37 i = dKp V 5 i from dKp_same hds hi]
    exact hvk i hi
  have hC3 : gCls T1 N3 k m := ⟨hX3, hV3, trivial, hW3, trivial, hok, by omega, trivial⟩
  obtain ⟨N, c1, ⟨c2, c3, c4, c5, c6, c7, c8⟩, c9⟩ := p_midL hI5' hB2' d2 d6 hC3 hK3
  have hdN : dSame N 37 V 5 := fun b j hd => (c5 b j hd).trans (hds b j hd)
  have enl : gi N 37 1 = nI nl := by
    have := hdN 37 1 (dIn_hd (Or.inl rfl))
    exact this.trans r2.2.2.1.1
  refine ⟨T1, N, ?_, hE, l3, c2, hdN, fun b hb hbT => ⟨fun j => ?_, fun j => ?_⟩⟩
  · unfold f_X8_load
    rw [if_neg (fun z => nI_pos (by omega) z), hc0, if_pos (nI_le hbq (by omega)), r_0_3 hX0, Option.bind_some, r_0_0 hX0, Option.bind_some, r1, t1, Option.bind_some]
    dsimp only
    rw [if_pos (show ¬ ((1 : Int32) = 0) by decide), p1, Option.bind_some, r_0_4 hX2, Option.bind_some, r_0_3 hX2, Option.bind_some, r_2_1 hX2, Option.bind_some, d1, Option.bind_some, r_0_5 hX3, Option.bind_some, r_0_4 hX3, Option.bind_some, c1, Option.bind_some, r_0_4 c2.1.1, Option.bind_some, enl]
  · have hg := (c7 b hb).2
    rw [hg (by omega) j, gi_si, if_neg (by omega), t2 b j hbT, r4.2.2 b j (nA b j (Or.inr hb)), gi_si, if_neg (by omega)]
  · rw [(c7 b hb).1 j, gr_si, t4 b j hbT (by omega), r4.1]
    rfl
end PLL
