/-! WHAT HOLDS OF THE CLASS BETWEEN TWO CALLS -/
section PIV
variable {T : gT} {M N K : gM} {D D' : Nat} {k : Nat → Nat × Nat} {m nx sz dn bq : Nat}
def gSlt [gW0] (T : gT) (M : gM) (D : Nat) (k : Nat → Nat × Nat) (m : Nat) : Prop := gVal T M D ∧ gWt T M D k m ∧ wOK k m ∧ m ≤ 2000
theorem gSl_mv [gW0] (h : gSlt T M D' k m) (hD : gDat T N D) (hd : dSame N D M D') (hg4 : gr N D 4 = gr M D' 4) (hgr : ∀ b j, ¬ (b ∈ gDs ∧ j = 4) → gr N b j = gr M b j) (hc : ∀ b j, gCo b → gi N b j = gi M b j) : gSlt T N D k m := ⟨gVal_same hd hD h.1, gWt_mv h.2.1 hg4 hgr hc, h.2.2.1, h.2.2.2⟩
/-- the buffer, bq bytes so far -/
def gBf (M : gM) (bq : Nat) : Prop := bq ≤ 800 ∧ gi M 0 1 = nI bq ∧ ∀ j, j < 800 → (gi M 1 j).toInt8.toInt32 = gi M 1 j
/-- what lies behind the class stays -/
def gLf [gW0] (M N : gM) : Prop := ∀ b, 311 ≤ b → (∀ j, gr N b j = gr M b j) ∧ (b ≠ w0 + 2 → ∀ j, gi N b j = gi M b j)
theorem gLf_refl [gW0] : gLf M M := fun _ _ => ⟨fun _ => rfl, fun _ _ => rfl⟩
theorem gLf_tr [gW0] (h : gLf M N) (h2 : gLf N K) : gLf M K := fun b hb => ⟨fun j => ((h2 b hb).1 j).trans ((h b hb).1 j), fun q j => ((h2 b hb).2 q j).trans ((h b hb).2 q j)⟩
theorem gLf_fr [gW0] {S : Nat → Nat → Prop} (h : fr S M N) (hS : ∀ b j, S b j → b < 311 ∨ b = w0 + 2) : gLf M N := fun b hb => ⟨fun j => h.1 b j, fun q j => h.2.2 b j (fun z => by
  have := hS b j z
  omega)⟩
def gHs [gW0] (T : gT) (M : gM) (nx sz dn : Nat) (k : Nat → Nat × Nat) (m : Nat) : Prop := nx < 8 ∧ sz ≤ 8 ∧ gi M 76 1 = nI nx ∧ gi M 76 2 = nI sz ∧ (∀ q, q < sz → ∃ k m, gSlt T M (gSlot nx q) k m) ∧ ∀ q, q < sz → q < dn → gSlt T M (gSlot nx q) k m
def cInv [gW0] (T : gT) (M : gM) (k : Nat → Nat × Nat) (m nx sz dn bq : Nat) : Prop := gCls T M k m ∧ gEl M k m ∧ gHs T M nx sz dn k m ∧ gKf M ∧ gDa T M ∧ gBf M bq
theorem cInv_sl [gW0] (h : cInv T M k m nx sz dn bq) : gSlt T M 37 k m := ⟨h.1.2.1, h.1.2.2.2.1, h.1.2.2.2.2.2.1, h.1.2.2.2.2.2.2.1⟩
/-- what a change leaves: M before, M2 with the change made, N at the end -/
def cMid [gW0] (T : gT) (M M2 N : gM) (k : Nat → Nat × Nat) (m nx sz dn bq : Nat) : Prop := cInv T N k m ((nx + 1) % 8) (if sz < 8 then sz + 1 else 8) (dn + 1) bq ∧ dSame N (78 + 29 * nx) M 37 ∧ (∀ j, j < 96 → gi N 310 j = gi M 73 j) ∧ (∀ b j, dIn 37 b j → gi N b j = gi M2 b j) ∧ (∀ t, t < sz → t < 7 → dSame N (gSlot nx t) M (gSlot nx t)) ∧ gLf M N ∧ gi N 0 2 = gi M 0 2
theorem dst_no [gW0] {D b j : Nat} (hD : D = 5 ∨ gD D) (hd : dIn D b j) : ¬ ((67 ≤ b ∧ b ≤ 73) ∨ gStk b) := fun q => by
  have h2 := dIn_two hd
  rcases q with q | q
  · have := dIn_rngs hD hd
    omega
  · have q2 := gStk_no q
    rcases hD with rfl | rfl | ⟨i, hi, rfl⟩ <;> omega
theorem p_mid [gW0] {M1 M2 : gM} (hI : cInv T M k m nx sz dn bq) (hB : gBg M M1 nx sz) (h1 : ∀ b j, gr M2 b j = gr M1 b j) (h3 : ∀ b j, ¬ dIn 37 b j → gi M2 b j = gi M1 b j) (hV : gVal T M2 37) (hK : ∀ i, i < 8 → dKp M2 37 i = 0 ∨ dKp M2 37 i = 1) : ∃ N, f_X1_count T M2 66 37 = some N ∧ cMid T M M2 N k m nx sz dn bq ∧ fr (fun b _ => (67 ≤ b ∧ b ≤ 73) ∨ gStk b) M2 N := by
  have i1 := cInv_sl hI
  obtain ⟨i0, i3, ⟨hnx, hsz, j1, j2, j4, j5⟩, i5, i6, i7⟩ := hI
  have i2 := i0.1
  obtain ⟨b1, b2, b3, b4, b5, b6, b7, b8⟩ := hB
  have hDk : gD (78 + 29 * nx) := Or.inr ⟨nx, hnx, rfl⟩
  have hg : ∀ b j, ¬ (b ∈ gDs ∧ j = 4) → gr M2 b j = gr M b j := fun b j hb => (h1 b j).trans (b1 b j (fun q => hb ⟨by rw [q.1]; exact gDs_mem (Or.inr hDk), q.2⟩))
  have hX2 : gFx T M2 := gFx_of i2 hg
  have hc1 : ∀ b j, gCo b → gi M2 b j = gi M b j := fun b j hb => by
    have hb2 := gCo_no hb
    rw [h3 b j (fun q => dIn_noCo (Or.inr (Or.inl rfl)) q hb)]
    exact b8 b j (fun q => dIn_noCo (Or.inr hDk) q hb) (by omega) (by omega)
  have g37 : gr M2 37 4 = gr M 37 4 := (h1 _ _).trans (b1 37 4 (by omega))
  have hW2 : gWt T M2 37 k m := gWt_mv i1.2.1 g37 hg hc1
  have hC2 : gCls T M2 k m := ⟨hX2, hV, trivial, hW2, trivial, i1.2.2.1, i1.2.2.2, trivial⟩
  obtain ⟨N, c1, c2, c3, c4⟩ := p_count hC2
  have hN : ∀ b j, ¬ ((67 ≤ b ∧ b ≤ 73) ∨ gStk b) → ¬ dIn 37 b j → gi N b j = gi M1 b j := fun b j q1 q2 => (c2.2.2 b j q1).trans (h3 b j q2)
  have hlo : ∀ b, b ≤ 8 ∨ b = 37 ∨ b = 76 ∨ (286 ≤ b ∧ b < 311) → ¬ ((67 ≤ b ∧ b ≤ 73) ∨ gStk b) := fun b hb q => q.elim (fun z => by omega) (fun z => by have := gStk_no z; omega)
  have hother : ∀ D b j, (D = 5 ∨ gD D) → D ≠ 37 → D ≠ 78 + 29 * nx → dIn D b j → gi N b j = gi M b j := fun D b j hD hne1 hne2 hd => by
    have hr := dIn_rngs hD hd
    rw [hN b j (dst_no hD hd) (dIn_apart hD (Or.inr (Or.inl rfl)) hne1 hd)]
    exact b8 b j (dIn_apart hD (Or.inr hDk) hne2 hd) (by omega) (by omega)
  have hDkd : dSame N (78 + 29 * nx) M 37 := fun b j hd => by
    rw [hN b j (dst_no (Or.inr hDk) hd) (dIn_apart (Or.inr hDk) (Or.inr (Or.inl rfl)) (by omega) hd)]
    exact b4 b j hd
  have hmid : ∀ b j, (b = 0 ∨ b = 1) → gi N b j = gi M b j := fun b j hb => by
    rw [hN b j (hlo b (by omega)) (fun q => by have := dIn_rngs (Or.inr (Or.inl rfl)) q; omega)]
    exact b8 b j (fun q => by have := dIn_rngs (Or.inr hDk) q; omega) (by omega) (by omega)
  have hgN : ∀ b j, ¬ (b ∈ gDs ∧ j = 4) → gr N b j = gr M b j := fun b j hb => (c2.1 b j).trans (hg b j hb)
  have hgk : gr N (78 + 29 * nx) 4 = gr M 37 4 := (c2.1 _ _).trans ((h1 _ _).trans b2)
  have hcN : ∀ b j, gCo b → gi N b j = gi M b j := fun b j hb => by
    have hb2 := gCo_no hb
    rw [c2.2.2 b j (fun q => q.elim (fun z => by omega) (fun z => by have := gStk_no z; omega))]
    exact hc1 b j hb
  have hDaN : gDa T N := gDa_of i6 hgN
  have hold : ∀ q, q < 7 → dSame N (gSlot nx q) M (gSlot nx q) := fun q hq7 b j hd => by
    have h5 := dIn_rng hd
    rw [show b - gSlot nx q + gSlot nx q = b by omega]
    exact hother _ b j (Or.inr (gD_slot nx q)) (by unfold gSlot; omega) (gSlot_ne hnx hq7) hd
  have holdS : ∀ {k' : Nat → Nat × Nat} {m' : Nat} (q : Nat), q < 7 → gSlt T M (gSlot nx q) k' m' → gSlt T N (gSlot nx q) k' m' := fun q hq7 hs => gSl_mv hs (hDaN _ (Or.inr (gD_slot nx q))) (hold q hq7) ((c2.1 _ _).trans ((h1 _ _).trans (b1 _ _ (fun z => gSlot_ne hnx hq7 z.1)))) hgN hcN
  have hnew : gSlt T N (78 + 29 * nx) k m := gSl_mv i1 (hDaN _ (Or.inr hDk)) hDkd hgk hgN hcN
  refine ⟨N, c1, ⟨⟨c3, c4, ⟨Nat.mod_lt _ (by decide), by split <;> omega, ?_, ?_, fun q hq => ?_, fun q hq hqd => ?_⟩, fun D hD i hi => ?_, hDaN, ?_⟩, hDkd, fun j hj => ?_, fun b j hd => c2.2.2 b j (dst_no (Or.inr (Or.inl rfl)) hd), fun t _ ht => hold t ht, fun b hb => ⟨fun j => ?_, fun hbw j => ?_⟩, hmid 0 2 (Or.inl rfl)⟩, c2⟩
  · rw [hN 76 1 (hlo 76 (by omega)) (fun q => by have := dIn_rngs (Or.inr (Or.inl rfl)) q; omega)]
    exact b5
  · rw [hN 76 2 (hlo 76 (by omega)) (fun q => by have := dIn_rngs (Or.inr (Or.inl rfl)) q; omega)]
    exact b6
  · cases q with
    | zero => rw [gSlot_0 hnx]; exact ⟨k, m, hnew⟩
    | succ q =>
      have hq7 : q < 7 := by split at hq <;> omega
      rw [gSlot_s hnx hq7]
      obtain ⟨k', m', hs⟩ := j4 q (by split at hq <;> omega)
      exact ⟨k', m', holdS q hq7 hs⟩
  · cases q with
    | zero => rw [gSlot_0 hnx]; exact hnew
    | succ q =>
      have hq7 : q < 7 := by split at hq <;> omega
      rw [gSlot_s hnx hq7]
      exact holdS q hq7 (j5 q (by split at hq <;> omega) (by omega))
  · by_cases e1 : D = 37
    · subst e1
      rw [show dKp N 37 i = dKp M2 37 i from c2.2.2 _ _ (dst_no (Or.inr (Or.inl rfl)) (dIn_lib hi (Or.inr (Or.inl rfl))))]
      exact hK i hi
    · by_cases e2 : D = 78 + 29 * nx
      · subst e2
        rw [show dKp N (78 + 29 * nx) i = dKp M 37 i from dKp_same hDkd hi]
        exact i5 37 (Or.inr (Or.inl rfl)) i hi
      · rw [show dKp N D i = dKp M D i from hother D _ _ hD e1 e2 (dIn_lib hi (Or.inr (Or.inl rfl)))]
        exact i5 D hD i hi
  · obtain ⟨q1, q2, q3⟩ := i7
    exact ⟨q1, by rw [hmid _ _ (by omega)]; exact q2, fun j hj => by rw [hmid 1 j (by omega)]; exact q3 j hj⟩
  · rw [hN 310 j (hlo 310 (by omega)) (fun q => by have := dIn_rngs (Or.inr (Or.inl rfl)) q; omega)]
    exact b7 j hj
  · exact hgN b j (fun q => by have := gDs_le b q.1; omega)
  · rw [hN b j (fun q => q.elim (fun z => by omega) (fun z => by have := gStk_no z; omega)) (fun q => by have := dIn_rngs (Or.inr (Or.inl rfl)) q; omega)]
    exact b8 b j (fun q => by have := dIn_rngs (Or.inr hDk) q; omega) (by omega) (by omega)
theorem c_put [gW0] {b0 j0 : Nat} {x : Int32} (hI : cInv T M k m nx sz dn bq) (hb : dIn 37 b0 j0) (hK : ∀ i, i < 8 → dKp (si M b0 j0 x) 37 i = 0 ∨ dKp (si M b0 j0 x) 37 i = 1) (hV2 : gVal T (si M b0 j0 x) 37) : ∃ M1, f_X8_beginChange T M 0 = some M1 ∧ gFx T M1 ∧ gDat T M1 37 ∧ dSame M1 37 M 37 ∧ ∃ N, f_X1_count T (si M1 b0 j0 x) 66 37 = some N ∧ cMid T M (si M b0 j0 x) N k m nx sz dn bq := by
  have hI' := hI
  have i1 := cInv_sl hI
  obtain ⟨i0, i3, ⟨hnx, hsz, j1, j2, j4, j5⟩, i5, i6, i7⟩ := hI
  have i2 := i0.1
  obtain ⟨M1, c1, c2⟩ := p_begin i2 i6 i5 i1.2.1 hnx hsz j1 j2
  have hDk : gD (78 + 29 * nx) := Or.inr ⟨nx, hnx, rfl⟩
  have hX1 : gFx T M1 := gFx_of i2 (fun b j hb => c2.1 b j (fun q => hb ⟨by rw [q.1]; exact gDs_mem (Or.inr hDk), q.2⟩))
  have hd1 : gDat T M1 37 := gDa_of i6 (fun b j hb => c2.1 b j (fun q => hb ⟨by rw [q.1]; exact gDs_mem (Or.inr hDk), q.2⟩)) 37 (Or.inr (Or.inl rfl))
  have hs1 : ∀ b j, dIn 37 b j → gi M1 b j = gi M b j := fun b j hd => by
    have hr := dIn_rng hd
    exact c2.2.2.2.2.2.2.2 b j (dIn_apart (Or.inr (Or.inl rfl)) (Or.inr hDk) (by omega) hd) (by omega) (by omega)
  have hs2 : ∀ b j, dIn 37 b j → gi (si M1 b0 j0 x) b j = gi (si M b0 j0 x) b j := fun b j hd => by
    rw [gi_si, gi_si, hs1 b j hd]
  have hV : gVal T (si M1 b0 j0 x) 37 := gVal_same (M := si M b0 j0 x) (D' := 37) (fun b j hd => by
    have hr := dIn_rng hd
    rw [show b - 37 + 37 = b by omega, hs2 b j hd]) (gDat_gr hd1 (fun _ _ => rfl)) hV2
  obtain ⟨N, d1, d2, -⟩ := p_mid (M2 := si M1 b0 j0 x) hI' c2 (fun _ _ => rfl) (fun b j hd => by rw [gi_si, if_neg (fun q => hd (by rw [q.1, q.2]; exact hb))]) hV (fun i hi => by
    rw [show dKp (si M1 b0 j0 x) 37 i = dKp (si M b0 j0 x) 37 i from hs2 _ _ (dIn_lib hi (Or.inr (Or.inl rfl)))]
    exact hK i hi)
  refine ⟨M1, c1, hX1, hd1, fun b j hd => ?_, N, d1, ?_⟩
  · have hr := dIn_rng hd
    rw [show b - 37 + 37 = b by omega]
    exact hs1 b j hd
  · obtain ⟨e1, e2, e3, e4, e5, e6⟩ := d2
    exact ⟨e1, e2, e3, fun b j hd => (e4 b j hd).trans (hs2 b j hd), e5, e6⟩
end PIV
