/-! APPEND, QUERIES, THE START -/
section POF
variable {T T1 : gT} {M M1 N K V : gM} {D D' a n0 t : Nat} {k : Nat → Nat × Nat} {m nx sz dn bq c : Nat} {i j x e3 : Int32} {u0 u1 u2 u3 u4 : Int32}
theorem apM_w8 {q j : Nat} (h : ∀ j, j < 800 → (gi M 1 j).toInt8.toInt32 = gi M 1 j) (hj : j < 800) : (gi (apM M u0 u1 u2 u3 u4 q) 1 j).toInt8.toInt32 = gi (apM M u0 u1 u2 u3 u4 q) 1 j := by
  rw [apM_gi (b := 1) (j := j) (fun z => by omega)]
  by_cases h2 : (1 : Nat) = 1 ∧ q ≤ j ∧ j < q + 20
  · rw [if_pos h2]
    exact gBf_w8 _ (j - q) (by omega)
  · rw [if_neg h2]
    exact h j hj
theorem fr_app {q : Nat} : fr (fun b j => (b = 1 ∧ q ≤ j ∧ j < q + 20) ∨ (b = 0 ∧ j = 1)) M (apM M u0 u1 u2 u3 u4 q) := ⟨fun b j => apM_gr, fun b j _ => by
  have : ∀ (k : Nat) (M : gM) (x : Int32) (q : Nat), gl (pbM M x q k) b j = gl M b j := fun k => by
    induction k with
    | zero => intro _ _ _; rfl
    | succ k ih => intro M x q; exact ih M x q
  unfold apM
  rw [this, this, this, this, this], fun b j hb => by
  rw [apM_gi (fun z => hb (Or.inr z)), if_neg (fun z => hb (Or.inl z))]⟩
theorem o_append [gW0] (hI : cInv T M k m nx sz dn bq) (h : bq + 20 ≤ 800) : f_X8_append T M 0 u0 u1 u2 u3 u4 = some (nI (bq + 20), apM M u0 u1 u2 u3 u4 bq) ∧ cInv T (apM M u0 u1 u2 u3 u4 bq) k m nx sz dn (bq + 20) := by
  have hX := hI.1.1
  obtain ⟨q1, q2, q3⟩ := hI.2.2.2.2.2
  refine ⟨p_X8_append (hX.2 (0, 0, 1) (by decide +kernel)) (s_1 hX) q2 h, cInv_fr hI fr_app (fun b j z => by omega) ⟨h, ?_, fun j hj => apM_w8 q3 hj⟩⟩
  exact pbM_cnt (pbM_cnt (pbM_cnt (pbM_cnt (pbM_cnt q2 4) 4) 4) 4) 4
theorem wq_lib [gW0] (hI : cInv T M k m nx sz dn bq) (ha : a < dNl M 37) (hn : n0 < 6) : f_L_library T M 0 (nI a) (nI n0) = some (vTl M 37 k m a n0) := by
  unfold f_L_library
  rw [q_libY hI.1 hI.2.1 ha hn]
  rfl
theorem wq_libN [gW0] (hI : cInv T M k m nx sz dn bq) (g : ¬ gdL M 37 i) : f_L_library T M 0 i j = some (-2000000097) := by
  unfold f_L_library
  rw [q_libN hI.1 g]
  rfl
theorem wq_off [gW0] (hI : cInv T M k m nx sz dn bq) (ha : a < dNl M 37) (hn : n0 < dNn M 37) : f_L_offer T M 0 (nI a) (nI n0) = some (dOf M 37 a n0) := by
  unfold f_L_offer
  rw [q_offY hI.1 ha hn]
  rfl
theorem wq_bnd [gW0] (hI : cInv T M k m nx sz dn bq) (ha : a < dNl M 37) (hn : n0 < dNn M 37) : f_L_binding T M 0 (nI a) (nI n0) = some (vBd (vW M 37 k m) M 37 a n0) := by
  unfold f_L_binding
  rw [q_bndY hI.1 hI.2.1 ha hn]
  rfl
theorem wq_winN [gW0] (hI : cInv T M k m nx sz dn bq) (g : ¬ gdN M 37 j) : f_L_winner T M 0 j = some (-2000000097) := by
  unfold f_L_winner
  rw [q_winN hI.1 g]
  rfl
theorem wq_canN [gW0] (hI : cInv T M k m nx sz dn bq) (g : ¬ gdN M 37 j) : f_L_candidates T M 0 j = some (-2000000097) := by
  unfold f_L_candidates
  rw [q_candN hI.1 g]
  rfl
theorem wq_minN [gW0] (hI : cInv T M k m nx sz dn bq) (g : ¬ gdN M 37 j) : f_L_minority T M 0 j = some (-2000000097) := by
  unfold f_L_minority
  rw [q_minN hI.1 g]
  rfl
theorem wq_calN [gW0] (hI : cInv T M k m nx sz dn bq) (g : ¬ (gdL M 37 i ∧ gdN M 37 j)) : f_L_call T M 0 i j = some (-2000000097, M) := by
  unfold f_L_call
  rw [q_calN hI.1 g]
  rfl
theorem wq_chk [gW0] (hI : cInv T M k m nx sz dn bq) : ∃ N, f_X8_checksum T M 0 = some (ckL M 37 k m (dNl M 37), N) ∧ fr (fun b _ => b = 74 ∨ b = 75) M N ∧ cInv T N k m nx sz dn bq := by
  obtain ⟨N, h1, h2⟩ := q_checksum hI.1 hI.2.1
  exact ⟨N, h1, h2, cInv_fr hI h2 (fun b j z => by omega) (gBf_fr hI.2.2.2.2.2 h2 (fun b j z => z))⟩
theorem wq_nl [gW0] (hI : cInv T M k m nx sz dn bq) : f_X8_libraries T M 0 = some (nI (dNl M 37)) := by
  unfold f_X8_libraries
  rw [r_0_4 hI.1.1, Option.bind_some, hI.1.2.1.2.2.2.1]
theorem wq_nn [gW0] (hI : cInv T M k m nx sz dn bq) : f_X8_names T M 0 = some (nI (dNn M 37)) := by
  unfold f_X8_names
  rw [r_0_4 hI.1.1, Option.bind_some, hI.1.2.1.2.2.2.2.1]
theorem wq_sh [gW0] (hI : cInv T M k m nx sz dn bq) : f_X8_share T M 0 = some (gi M 37 3) := by
  unfold f_X8_share
  rw [r_0_4 hI.1.1, Option.bind_some]
theorem wq_eo : f_X8_errorOffset T M 0 = some (gi M 0 2) := by
  unfold f_X8_errorOffset
  rfl
/-- the class's things are the same in a later memory -/
def gCe [gW0] (T : gT) (M : gM) (T1 : gT) (M1 : gM) : Prop := ∀ b, (b < 311 ∨ b = w0 ∨ b = w0 + 1 ∨ b = w0 + 2) → ∀ x, T[b]? = some x → T1[b]? = some x ∧ (∀ j, gi M1 b j = gi M b j) ∧ ∀ j, gr M1 b j = gr M b j
theorem gCe_to [gW0] (h : gTo T M T1 M1 c) : gCe T M T1 M1 := fun b _ x hx => ⟨gTo_sh h hx, gTo_gi h hx, gTo_gr h hx⟩
theorem gT0_some : ∀ b, b < 311 → ∃ x, gT0[b]? = some x := fun b hb => by
  have h : gT0.length = 311 := by decide +kernel
  exact ⟨gT0[b]'(by omega), List.getElem?_eq_getElem (by omega)⟩
theorem gCe_lo [gW0] (h : gCe T M T1 M1) (hX : gFx T M) {b : Nat} (hb : b < 311) : T1[b]? = T[b]? ∧ (∀ j, gi M1 b j = gi M b j) ∧ ∀ j, gr M1 b j = gr M b j := by
  obtain ⟨x, hx⟩ := gT0_some b hb
  have hT := (hX.1 b hb).trans hx
  obtain ⟨q1, q2, q3⟩ := h b (Or.inl hb) x hT
  exact ⟨q1.trans hT.symm, q2, q3⟩
theorem cInv_ce [gW0] (h : gCe T M T1 M1) (hI : cInv T M k m nx sz dn bq) : cInv T1 M1 k m nx sz dn bq ∧ ∀ D, D = 5 ∨ gD D → dSame M1 D M D := by
  obtain ⟨i0, i3, ⟨hnx, hsz, j1, j2, j4, j5⟩, i5, i6, i7⟩ := hI
  have hX := i0.1
  have lo := fun {b : Nat} (hb : b < 311) => gCe_lo h hX hb
  have hds : ∀ D, D = 5 ∨ gD D → dSame M1 D M D := fun D hD b j hd => by
    have h1 := dIn_rngs hD hd
    have h2 := dIn_rng hd
    rw [show b - D + D = b by omega, (lo (by omega)).2.1]
  have hX1 : gFx T1 M1 := ⟨fun a ha => (lo ha).1.trans (hX.1 a ha), fun q hq => by
    have hlt : ∀ q ∈ gRefs, q.1 < 311 := by decide +kernel
    rw [(lo (hlt q hq)).2.2]
    exact hX.2 q hq⟩
  have hda : ∀ D, D = 5 ∨ gD D → gDat T M D → gDat T1 M1 D := fun D hD hd => by
    have hb : D + 28 < 311 := by rcases hD with rfl | rfl | ⟨i, hi, rfl⟩ <;> omega
    exact ⟨by rw [(lo (by omega)).1]; exact hd.1, by rw [(lo (by omega)).1]; exact hd.2.1, by rw [(lo (by omega)).2.2]; exact hd.2.2.1, fun i hi => ⟨⟨by rw [(lo (by omega)).1]; exact (hd.2.2.2 i hi).1.1, by rw [(lo (by omega)).1]; exact (hd.2.2.2 i hi).1.2.1, by rw [(lo (by omega)).1]; exact (hd.2.2.2 i hi).1.2.2⟩, by rw [(lo (by omega)).2.2]; exact (hd.2.2.2 i hi).2.1, by rw [(lo (by omega)).2.2]; exact (hd.2.2.2 i hi).2.2.1, by rw [(lo (by omega)).2.2]; exact (hd.2.2.2 i hi).2.2.2⟩⟩
  have hval : ∀ D, D = 5 ∨ gD D → gVal T M D → gVal T1 M1 D := fun D hD hv => by
    have := gVal_same (T := T1) (hds D hD) (hda D hD hv.1) (M := M) (D' := D)
    refine ⟨hda D hD hv.1, ?_⟩
    have e := gVal_same (T := T) (N := M1) (M := M) (D := D) (D' := D) (hds D hD) ?_ hv
    · exact e.2
    · have hb : D + 28 < 311 := by rcases hD with rfl | rfl | ⟨i, hi, rfl⟩ <;> omega
      have hd := hv.1
      exact ⟨hd.1, hd.2.1, by rw [(lo (by omega)).2.2]; exact hd.2.2.1, fun i hi => ⟨(hd.2.2.2 i hi).1, by rw [(lo (by omega)).2.2]; exact (hd.2.2.2 i hi).2.1, by rw [(lo (by omega)).2.2]; exact (hd.2.2.2 i hi).2.2.1, by rw [(lo (by omega)).2.2]; exact (hd.2.2.2 i hi).2.2.2⟩⟩
  have hwt : ∀ {D : Nat} {k' : Nat → Nat × Nat} {m' : Nat}, (D = 5 ∨ gD D) → gWt T M D k' m' → gWt T1 M1 D k' m' := fun {D k' m'} hD hw => by
    obtain ⟨w, g4, hw1, g0, hc, g1, hs, hww, hk⟩ := hw
    have hww2 := gWa_no hww
    have hbD : D < 311 := by rcases hD with rfl | rfl | ⟨i, hi, rfl⟩ <;> omega
    have r0 := h w (by omega) _ hw1
    have r1 := h (w + 1) (by omega) _ hc
    have r2 := h (w + 2) (by omega) _ hs
    exact ⟨w, ((lo hbD).2.2 4).trans g4, r0.1, (r0.2.2 0).trans g0, r1.1, (r0.2.2 1).trans g1, r2.1, hww, fun t ht => (r1.2.1 t).trans (hk t ht)⟩
  have hsl : ∀ {k' : Nat → Nat × Nat} {m' : Nat} (q : Nat), gSlt T M (gSlot nx q) k' m' → gSlt T1 M1 (gSlot nx q) k' m' := fun q hs => ⟨hval _ (Or.inr (gD_slot nx q)) hs.1, hwt (Or.inr (gD_slot nx q)) hs.2.1, hs.2.2⟩
  have hd37 : (37 : Nat) = 5 ∨ gD 37 := Or.inr (Or.inl rfl)
  have e1 := dNl_same (hds 37 hd37)
  have e2 := dNn_same (hds 37 hd37)
  refine ⟨⟨⟨hX1, hval 37 hd37 i0.2.1, trivial, hwt hd37 i0.2.2.2.1, trivial, i0.2.2.2.2.2.1, i0.2.2.2.2.2.2.1, trivial⟩, ⟨fun j hj => ?_, fun n hn => ?_⟩, ⟨hnx, hsz, by rw [(lo (by omega)).2.1]; exact j1, by rw [(lo (by omega)).2.1]; exact j2, fun q hq => ?_, fun q hq hd => hsl q (j5 q hq hd)⟩, fun D hD i hi => ?_, fun D hD => hda D hD (i6 D hD), i7.1, by rw [(lo (by omega)).2.1]; exact i7.2.1, fun j hj => by rw [(lo (by omega)).2.1]; exact i7.2.2 j hj⟩, hds⟩
  · rw [e1] at hj
    rw [(lo (by omega)).2.1, dRk_same (hds 37 hd37) (by have := i0.2.1.2.1; omega), i3.1 j hj, vW_sameV i0.2.1 (hds 37 hd37) j hj]
  · rw [e2] at hn
    have h12 := i0.2.1.2.2.1
    obtain ⟨a1, a2, a3, a4⟩ := gElN_same (A := M) (hds 37 hd37) i0.2.1 (by omega) (vW_sameV i0.2.1 (hds 37 hd37)) (i3.2 n hn)
    refine ⟨?_, ?_, ?_, fun i hi => ?_⟩
    · rw [(lo (b := 68) (by omega)).2.1]; exact a1
    · rw [(lo (b := 69) (by omega)).2.1]; exact a2
    · rw [(lo (b := 70) (by omega)).2.1]; exact a3
    · rw [(lo (b := 71) (by omega)).2.1, (lo (b := 72) (by omega)).2.1, (lo (b := 73) (by omega)).2.1]; exact a4 i hi
  · obtain ⟨k', m', hs⟩ := j4 q hq
    exact ⟨k', m', hsl q hs⟩
  · rw [show dKp M1 D i = dKp M D i from dKp_same (hds D hD) hi]
    exact i5 D hD i hi
/-- at the start -/
theorem cInv_init [gW0] {x : gT × gM} (hx : gInit = some x) : x.1 = gT0 ∧ cInv x.1 x.2 (fun _ => (1, 0)) 1 0 0 0 0 ∧ dNl x.2 37 = 0 ∧ dNn x.2 37 = 0 ∧ gi x.2 37 3 = 50 ∧ gi x.2 0 2 = -1 := by
  have hT : x.1 = gT0 := gInit_of (P := fun x => x.1 = gT0) gInit_T hx
  have h1 := gInit_of (P := fun x => ∀ q ∈ gRefs, gr x.2 q.1 q.2.1 = some q.2.2) gInit_refs hx
  have h2 := gInit_of (P := fun x => ∀ D ∈ gDs, gr x.2 D 0 = some (D + 1) ∧ gr x.2 D 4 = some (D + 2) ∧ gr x.2 (D + 2) 0 = some (D + 3) ∧ gr x.2 (D + 2) 1 = some (D + 4)) gInit_dat1 hx
  have h3 := gInit_of (P := fun x => ∀ D ∈ gDs, gi x.2 (D + 3) 0 = -1 ∧ gi x.2 D 1 = 0 ∧ gi x.2 D 2 = 0 ∧ gi x.2 D 3 = 50) gInit_dat2 hx
  have h4 := gInit_of (P := fun x => ∀ D ∈ gDs, ∀ i ∈ List.range 8, gr x.2 (D + 1) i = some (D + 5 + 3 * i) ∧ gr x.2 (D + 5 + 3 * i) 3 = some (D + 6 + 3 * i) ∧ gr x.2 (D + 5 + 3 * i) 4 = some (D + 7 + 3 * i)) gInit_dat3 hx
  have h5 := gInit_of (P := fun x => gi x.2 0 1 = 0 ∧ gi x.2 0 2 = -1 ∧ gi x.2 76 1 = 0 ∧ gi x.2 76 2 = 0) gInit_ints hx
  have h6 := gInit_of (P := fun x => ∀ D ∈ gDs, ∀ i ∈ List.range 8, gi x.2 (D + 5 + 3 * i) 1 = 0) gInit_kp hx
  have h7 := gInit_of (P := fun x => ∀ j ∈ List.range 800, gi x.2 1 j = 0) gInit_bf hx
  obtain ⟨T, M⟩ := x
  dsimp only at hT h1 h2 h3 h4 h5 h6 h7
  subst hT
  have hDa : gDa gT0 M := fun D hD => by
    have hm := gDs_mem hD
    obtain ⟨t1, t2, t3⟩ := gT0_dat D hm
    exact ⟨t1, t2, (h2 D hm).1, fun i hi => ⟨t3 i hi, h4 D hm i (List.mem_range.mpr hi)⟩⟩
  have h37 : (37 : Nat) ∈ gDs := by decide
  obtain ⟨a1, a2, a3, a4⟩ := h5
  obtain ⟨b1, b2, b3, b4⟩ := h3 37 h37
  obtain ⟨c1, c2, c3, c4⟩ := h2 37 h37
  have e1 : dNl M 37 = 0 := by
    show (gi M 37 1).toNatClampNeg = 0
    rw [b2]
    rfl
  have e2 : dNn M 37 = 0 := by
    show (gi M 37 2).toNatClampNeg = 0
    rw [b3]
    rfl
  have no : ∀ {i : Nat} {P : Prop}, i < dNl M 37 → P := fun h => by
    rw [e1] at h
    exact absurd h (Nat.not_lt_zero _)
  have no2 : ∀ {i : Nat} {P : Prop}, i < dNn M 37 → P := fun h => by
    rw [e2] at h
    exact absurd h (Nat.not_lt_zero _)
  refine ⟨rfl, ⟨⟨⟨fun _ _ => rfl, h1⟩, ⟨hDa 37 (Or.inr (Or.inl rfl)), by rw [e1]; decide, by rw [e2]; decide, ?_, ?_, fun i hi => no hi⟩, trivial, ⟨39, c2, (show gT0[39]? = some (7, 0) by decide +kernel), c3, (show gT0[40]? = some (11, 1) by decide +kernel), c4, (show gT0[41]? = some (11, 11) by decide +kernel), Or.inr (Or.inl rfl), fun t ht => ?_⟩, trivial, ⟨by decide, fun t ht => ?_⟩, by decide, trivial⟩, ⟨fun j hj => no hj, fun n hn => no2 hn⟩, ⟨by decide, by decide, a3, a4, fun q hq => absurd hq (Nat.not_lt_zero _), fun q hq => absurd hq (Nat.not_lt_zero _)⟩, fun D hD i hi => Or.inl (h6 D (gDs_mem hD) i (List.mem_range.mpr hi)), hDa, by decide, a1, fun j hj => ?_⟩, e1, e2, b4, a2⟩
  · rw [e1, b2]; rfl
  · rw [e2, b3]; rfl
  · rw [show t = 0 by omega, show gi M (39 + 1) 0 = -1 from b1]
    decide
  · rw [show t = 0 by omega]
    exact Or.inr (Or.inl ⟨rfl, by decide, by decide⟩)
  · rw [h7 j (List.mem_range.mpr hj)]
    decide
end POF
