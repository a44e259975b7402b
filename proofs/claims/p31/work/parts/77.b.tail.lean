/-! THE END OF A ROUND: what was before is kept -/
theorem aldo_ok {T : gT} {M : gM} {a k kd n : Nat} (hT : T[a]? = some (kd, n)) (hk : k < n) (hn : n < 2 ^ 31) : aldo T M a (nI k) = some (gr M a k) := by
  unfold aldo
  rw [alen_of hT, if_neg (nI_in hk hn), nI_clamp (Nat.lt_trans hk hn)]
theorem astro_ok {T : gT} {M : gM} {a k kd n : Nat} {o : Option Nat} (hT : T[a]? = some (kd, n)) (hk : k < n) (hn : n < 2 ^ 31) : astro T M a (nI k) o = some (sr M a k o) := by
  unfold astro
  rw [alen_of hT, if_neg (nI_in hk hn), nI_clamp (Nat.lt_trans hk hn)]
/-- the first t of the kept ones' places, from behind, hold what was before them -/
def shf (N : gM) (a7 t : Nat) : gM := (N.1, N.2.1, fun b j => if b = a7 ∧ 8 < j + t ∧ j ≤ 8 then N.2.2 a7 (j - 1) else N.2.2 b j)
theorem shf_gr {N : gM} {a7 t b j : Nat} : gr (shf N a7 t) b j = if b = a7 ∧ 8 < j + t ∧ j ≤ 8 then gr N a7 (j - 1) else gr N b j := rfl
theorem shf_0 {N : gM} {a7 : Nat} : shf N a7 0 = N := gM_ext (fun _ _ => rfl) (fun _ _ => rfl) (fun b j => by rw [shf_gr, if_neg (by omega)])
theorem shf_s {N : gM} {a7 t : Nat} (ht : t < 8) : sr (shf N a7 t) a7 (8 - t) (gr (shf N a7 t) a7 (7 - t)) = shf N a7 (t + 1) := gM_ext (fun _ _ => rfl) (fun _ _ => rfl) (fun b j => by
  rw [gr_sr, shf_gr, shf_gr, shf_gr]
  by_cases h : b = a7 ∧ j = 8 - t
  · rw [if_pos h, if_neg (by omega), if_pos (by omega), show j - 1 = 7 - t by omega]
  · rw [if_neg h]
    by_cases h2 : b = a7 ∧ 8 < j + t ∧ j ≤ 8
    · rw [if_pos h2, if_pos (by omega)]
    · rw [if_neg h2, if_neg (by omega)])
section PTL
variable {T T1 : gT} {M M1 N : gM} {rr a7 l A : Nat} {L R O : Nat → Nat} {nl nn : Nat} {k : Nat → Nat × Nat} {m dn nx sz B lc : Nat} {ld : Nat → Nat} {c b D p : Nat}
theorem t_shift {n : Nat} {f : Nat → Int32} {i2 i1 i8 i9 : Int32} {a10 : Nat} (h7 : T[a7]? = some (22, 9)) (hr : ∀ q, q < 9 → gr N a7 q = none ∨ ∃ b, gr N a7 q = some b ∧ T[b]? = some (16, 0)) : gloop (fun x : Int32 × gM => f_L_law_B1138 n f T x.2 i1 i2 0 rr l a7 i8 i9 a10 x.1) gFU ((8 : Int32), N) = some (shf N a7 8) := by
  refine gloop_at (fun t => (nI (8 - t), shf N a7 t)) 8 (by rw [shf_0]; rfl) (by decide) (fun t ht => ?_) ?_
  · dsimp only
    unfold f_L_law_B1138
    have e1 : nI (8 - t) - (1 : Int32) = nI (7 - t) := by
      rw [show 8 - t = 7 - t + 1 by omega, nI_pred]
    have e2 : nI (8 - t) + (-1 : Int32) = nI (8 - (t + 1)) := by
      rw [show 8 - (t + 1) = 7 - t by omega, ← e1, Int32.sub_eq_add_neg]
    have e3 : gr (shf N a7 t) a7 (7 - t) = gr N a7 (7 - t) := by rw [shf_gr, if_neg (by omega)]
    have hko : gko T (gr (shf N a7 t) a7 (7 - t)) 16 = some () := by
      rw [e3]
      rcases hr (7 - t) (by omega) with z | ⟨b, z1, z2⟩
      · rw [z]; rfl
      · rw [z1]; exact gko_some z2
    rw [if_neg (nI_nle (by omega) (by omega)), e1, aldo_ok h7 (by omega) (by decide), Option.bind_some, hko, Option.bind_some, astro_ok h7 (by omega) (by decide), Option.bind_some, e2, shf_s ht]
  · dsimp only
    unfold f_L_law_B1138
    rw [if_pos (by decide)]
theorem t_tail0 [gW0] {n : Nat} {f : Nat → Int32} {i2 i9 : Int32} (hX : FX rr a7 l L R O nl) (h : MS T M rr a7 l A L R O nl nn k m dn) (hT : T.length + 3824 ≤ 900000) : ∃ T' M' c s, f_L_law_1129 n f T M 1 i2 0 rr l a7 (nI dn) i9 p 0 = some (.inr (1, nI dn, i9 + 1, T', M'), c, s) ∧ MS T' M' rr a7 l A L R O nl nn k m dn ∧ T'.length ≤ T.length + 3824 ∧ c ≤ 3824 ∧ s ≤ 22522 := by
  unfold f_L_law_1129
  rw [if_pos rfl]
  exact t_agree hX h hT
theorem CU_7 [gW0] {x : Nat} {M9 : gM} (h0 : ∀ b j, gi M9 b j = gi M b j) (h1 : ∀ b j, b ≠ a7 → gr M9 b j = gr M b j) (h2 : ∀ q, q < 9 → gr M9 a7 q = none ∨ ∃ b, gr M9 a7 q = some b ∧ T[b]? = some (16, 0)) (hX : FX rr a7 l L R O nl) (h : CU T M rr a7 l A L R O nl nn k m dn nx sz B lc ld) : CU T M9 rr a7 l A L R O nl nn k m dn nx sz B lc ld ∧ ∀ D, D = 5 ∨ gD D → dSame M9 D M D := by
  obtain ⟨a1, a2, a3, a4, a5, a6, a7', a8, a9, a10, a11, a12⟩ := h
  have hw := hX.2.2.2.2.1
  have h311 := w0_ge
  obtain ⟨i1, i2⟩ := cInv_ce (T1 := T) (M1 := M9) (fun b hb x hx => ⟨hx, fun j => h0 b j, fun j => h1 b j (by omega)⟩) a1
  have hd := i2 37 (Or.inr (Or.inl rfl))
  exact ⟨⟨i1, a2, LK_same a1.1.2.1 hd (LK_ke (fun b hb x hx => ⟨hx, fun j => h0 b j, fun j => h1 b j hb.2.2.2⟩) a3), a4, (dNl_same hd).trans a5, (dNn_same hd).trans a6, a7', a8, a9, a10, a11, h2⟩, i2⟩
theorem t_tail1 [gW0] {n : Nat} {f : Nat → Int32} {i2 i9 : Int32} (hX : FX rr a7 l L R O nl) (h : CU T M rr a7 l A L R O nl nn k m (dn + 1) nx sz B lc ld) (hp : KP T M rr a7 l L O nl nn k m p (gSlot nx 0)) (hps : T[p]? = some (16, 0)) (hq : ∀ q, q < dn → q < 7 → ∃ b, gr M a7 q = some b ∧ KP T M rr a7 l L O nl nn k m b (gSlot nx (q + 1))) (hT : T.length + 3824 ≤ 900000) : ∃ T' M' c s, f_L_law_1129 n f T M 1 i2 0 rr l a7 (nI dn) i9 p 1 = some (.inr (1, nI (dn + 1), i9 + 1, T', M'), c, s) ∧ MS T' M' rr a7 l A L R O nl nn k m (dn + 1) ∧ T'.length ≤ T.length + 3824 ∧ c ≤ 3824 ∧ s ≤ 22522 := by
  have h7 := h.2.2.2.2.2.2.2.2.2.1
  have hr := h.2.2.2.2.2.2.2.2.2.2.2
  unfold f_L_law_1129
  rw [if_neg (by decide), t_shift h7 hr, Option.bind_some, show astro T (shf M a7 8) a7 (0 : Int32) (some p) = some (sr (shf M a7 8) a7 0 (some p)) from astro_ok (k := 0) h7 (by decide) (by decide), Option.bind_some, nI_1]
  have hg0 : gr (sr (shf M a7 8) a7 0 (some p)) a7 0 = some p := by rw [gr_sr, if_pos ⟨rfl, rfl⟩]
  have hgs : ∀ q, q < 8 → gr (sr (shf M a7 8) a7 0 (some p)) a7 (q + 1) = gr M a7 q := fun q hq => by
    rw [gr_sr, if_neg (by omega), shf_gr, if_pos (by omega), Nat.add_sub_cancel]
  have hgo : ∀ b j, b ≠ a7 → gr (sr (shf M a7 8) a7 0 (some p)) b j = gr M b j := fun b j hb => by
    rw [gr_sr, if_neg (by omega), shf_gr, if_neg (by omega)]
  obtain ⟨h9, hds⟩ := CU_7 (x := 0) (M := M) (M9 := sr (shf M a7 8) a7 0 (some p)) (fun _ _ => rfl) hgo (fun q hq => by
    cases q with
    | zero => exact Or.inr ⟨p, hg0, hps⟩
    | succ q =>
      rw [hgs q (by omega)]
      exact hr q (by omega)) hX h
  have hke : gKe (Pb rr a7 l L O nl) T M T (sr (shf M a7 8) a7 0 (some p)) := fun b hb x hx => ⟨hx, fun j => rfl, fun j => hgo b j hb.1.2.2.2⟩
  have hsl := h.1.2.2.1.2.2.2.2.2
  refine t_agree hX ⟨nx, sz, B, lc, ld, h9, fun q hqd hq8 => ?_⟩ hT
  have hsq := hsl q (by have := h.2.1; omega) hqd
  cases q with
  | zero => exact ⟨p, hg0, KP_mv hsq.1 hke (hds _ (Or.inr (gD_slot nx 0))) hp⟩
  | succ q =>
    obtain ⟨b, b1, b2⟩ := hq q (by omega) (by omega)
    exact ⟨b, (hgs q (by omega)).trans b1, KP_mv hsq.1 hke (hds _ (Or.inr (gD_slot nx (q + 1)))) b2⟩
end PTL
