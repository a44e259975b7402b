/-! A LOAD THAT FAILS -/
/-- the answer of a load: the list of shapes may have gone on -/
def opL (T : gT) (M : gM) (C' : Nat) (cls : Option (Nat ⊕ (Int32 × gT × gM))) (ref : gT → gM → Option (Int32 × gM)) : Prop :=
  (∃ v T' N, cls = some (.inr (v, T', N)) ∧ (T'.length = T.length ∨ T'.length = T.length + 3) ∧ ∀ l : Nat → Nat → Int64, ∃ N', ref T' (N.1, l, N.2.2) = some (v, N') ∧ gi N' 311 0 = 0 ∧ gl N' 358 0 = l 358 0 ∧ ∃ k m nx sz, gInv T' N' k m C' nx sz) ∨ cls = some (.inl 1) ∧ ∀ l : Nat → Nat → Int64, ∃ v N', ref T (M.1, l, M.2.2) = some (v, N') ∧ gi N' 311 0 = 1 ∧ ∃ k m nx sz, gInv T N' k m C' nx sz
/-- the places that reading a text writes -/
def sT (b j : Nat) : Prop := b = 2 ∨ b = 3 ∨ b = 4 ∨ b = 36 ∨ b = 314 ∨ (b = 0 ∧ (j = 1 ∨ j = 2)) ∨ (b = 311 ∧ j ≠ 11) ∨ dIn 5 b j
section PLB
variable {T : gT} {M N M1 : gM} {k : Nat → Nat × Nat} {m C nx sz n q : Nat}
theorem sT_no {b j : Nat} (h : sT b j) : b ≤ 4 ∨ (5 ≤ b ∧ b ≤ 33) ∨ b = 36 ∨ b = 311 ∨ b = 314 := by
  unfold sT at h
  rcases h with h | h | h | h | h | h | h | h
  · omega
  · omega
  · omega
  · omega
  · omega
  · omega
  · omega
  · have := dIn_rng h
    omega
theorem sT_D {D b j : Nat} (hD : gD D) (h : sT b j) : ¬ dIn D b j := fun z => by
  have h1 := sT_no h
  have h2 := dIn_rng z
  rcases hD with rfl | ⟨i, hi, rfl⟩ <;> omega
theorem gEl_ex2 (hV : gVal T M 37) (h : gEl M k m) (hd : dSame N 37 M 37) (h7 : ∀ b j, 67 ≤ b → b ≤ 73 → gi N b j = gi M b j) : gEl N k m := by
  have hW := vW_sameV (k := k) (m := m) hV hd
  have h8 := hV.2.1
  have h12 := hV.2.2.1
  refine ⟨fun j hj => ?_, fun n hn => ?_⟩
  · rw [dNl_same hd] at hj
    rw [h7 67 j (by omega) (by omega), h.1 j hj, dRk_same hd (by omega), hW j hj]
  · rw [dNn_same hd] at hn
    have hx : gElN M N (vW M 37 k m) n := by
      obtain ⟨b1, b2, b3, b4⟩ := h.2 n hn
      exact ⟨(h7 68 n (by omega) (by omega)).trans b1, (h7 69 n (by omega) (by omega)).trans b2, (h7 70 n (by omega) (by omega)).trans b3, fun i hi2 => by
        obtain ⟨d1, d2, d3⟩ := b4 i hi2
        exact ⟨(h7 71 _ (by omega) (by omega)).trans d1, (h7 72 _ (by omega) (by omega)).trans d2, (h7 73 _ (by omega) (by omega)).trans d3⟩⟩
    exact gElN_same hd hV (by omega) hW hx
/-- a text was read: the invariant stays -/
theorem gInv_T (h : gInv T M k m C nx sz) (hg : ∀ b j, gr N b j = gr M b j) (hi : ∀ b j, ¬ sT b j → gi N b j = gi M b j) (hK : kP N) (hB : gBf N) : gInv T N k m C nx sz := by
  have hr := gInv_rel h
  have hF : fr sT M (N.1, M.2.1, N.2.2) := ⟨hg, fun _ _ _ => rfl, hi⟩
  have hw : gInv T (N.1, M.2.1, N.2.2) k m C nx sz := by
    obtain ⟨h1, h2, h3, ⟨a1, a2, a3, a4, a5, a6⟩, h5, h6, h7⟩ := h
    have hq2 : ∀ b j, sT b j → ¬ gCo b := fun b j z y => by
      have h1 := sT_no z
      have h2 := gCo_no y
      rcases y with y | y | ⟨i, hi, y⟩ | ⟨i, y⟩
      · subst y
        unfold sT at z
        rcases z with z | z | z | z | z | z | z | z
        · omega
        · omega
        · omega
        · omega
        · omega
        · omega
        · omega
        · exact dIn_noCo (Or.inl rfl) z (Or.inl rfl)
      · omega
      · omega
      · omega
    refine ⟨gSl_fr h1 hF (fun b j z => sT_D (Or.inl rfl) z) hq2 (fun j _ z => by have := sT_no z; omega), gFx_fr h2 hF, gEl_ex2 h1.1 h3 (fun b j hd => by have := dIn_rng hd; rw [show b - 37 + 37 = b by omega]; exact hi b j (fun z => sT_D (Or.inl rfl) z hd)) (fun b j q1 q2 => hi b j (fun z => by have := sT_no z; omega)), ⟨a1, a2, (hi 76 1 (fun z => by have := sT_no z; omega)).trans a3, (hi 76 2 (fun z => by have := sT_no z; omega)).trans a4, (hi 311 11 (fun z => ?_)).trans a5, fun x hx => ?_⟩, fun D hD i hi8 => ?_, gDa_r h6 hF.1, hB⟩
    · unfold sT at z
      rcases z with z | z | z | z | z | z | z | z
      · omega
      · omega
      · omega
      · omega
      · omega
      · omega
      · omega
      · have := dIn_rngs (Or.inl rfl) z; omega
    · obtain ⟨k', m', hs⟩ := a6 x hx
      exact ⟨k', m', gSl_fr hs hF (fun b j z => sT_D (gD_slot nx x) z) hq2 (fun j _ z => by have := sT_no z; omega)⟩
    · rcases hD with rfl | hD
      · exact hK i hi8
      · rw [show dKp (N.1, M.2.1, N.2.2) D i = dKp M D i from hi _ _ (fun z => sT_D hD z (dIn_lib hi8 (Or.inr (Or.inl rfl))))]
        exact h5 D (Or.inr hD) i hi8
  exact gInv_l hw N.2.1
theorem gB_ex (h : gBf M) : ∃ B : Nat → Nat, ∀ j, j < 800 → B j < 256 ∧ gi M 1 j = cB (B j) ∧ (gi M 1 j).toInt8.toInt32 = gi M 1 j ∧ gi M 312 j = nI (B j) := by
  obtain ⟨q, b1, b2, b3, b4, b5⟩ := h
  have hx : ∀ j, ∃ b, j < 800 → b < 256 ∧ gi M 1 j = cB b ∧ (gi M 1 j).toInt8.toInt32 = gi M 1 j ∧ gi M 312 j = nI b := fun j => by
    by_cases hj : j < 800
    · obtain ⟨c1, c2⟩ := b4 j hj
      obtain ⟨b, d1, d2, d3⟩ := cB_of c2
      exact ⟨b, fun _ => ⟨d1, d2, c2, c1.trans d3⟩⟩
    · exact ⟨0, fun q => absurd q hj⟩
  obtain ⟨B, hB⟩ := Classical.axiomOfChoice hx
  exact ⟨B, hB⟩
end PLB
