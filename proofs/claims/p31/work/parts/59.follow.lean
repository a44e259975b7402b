/-! THE WAY OF A CALL: both sides -/
/-- the way from library c and name n with f steps left; V: where it has been; its result and its length -/
def vGo (W : Nat → Nat) (M : gM) (D : Nat) : Nat → (Nat → Bool) → Nat → Nat → Nat → Int32 × Nat
  | 0, _, _, _, l => (-2, l)
  | f + 1, V, c, n, l => if V (12 * c + n) = true then (-2, l) else if vBd W M D c n = -1 then (-1, l) else if ¬ dOf M D (vBd W M D c n).toNatClampNeg n < 0 then (dOf M D (vBd W M D c n).toNatClampNeg n, l + 1) else vGo W M D f (fun x => if x = 12 * c + n then true else V x) (vBd W M D c n).toNatClampNeg ((-2 : Int32) - dOf M D (vBd W M D c n).toNatClampNeg n).toNatClampNeg (l + 1)
def vCal (W : Nat → Nat) (M : gM) (D c n : Nat) : Int32 × Nat := vGo W M D 96 (fun _ => false) c n 0
theorem cntN_up {V : Nat → Bool} {x : Nat} (hV : V x = false) : ∀ n, cntN (fun y => if y = x then true else V y) n = cntN V n + if x < n then 1 else 0
  | 0 => rfl
  | n + 1 => by
    show cntN _ n + _ = cntN V n + _ + _
    rw [cntN_up hV n]
    by_cases e : n = x
    · subst e
      simp [hV]
    · simp only [e, if_false]
      by_cases h : x < n
      · rw [if_pos h, if_pos (show x < n + 1 by omega)]
        omega
      · rw [if_neg h, if_neg (show ¬ x < n + 1 by omega)]
        omega
theorem cntN_full {V : Nat → Bool} : ∀ {n : Nat}, cntN V n = n → ∀ k, k < n → V k = true
  | 0, _, k, hk => by omega
  | n + 1, h, k, hk => by
    have h1 := cntN_le V n
    unfold cntN at h
    by_cases hn : V n = true
    · by_cases e : k = n
      · rw [e]
        exact hn
      · rw [if_pos hn] at h
        exact cntN_full (n := n) (by omega) k (by omega)
    · rw [if_neg hn] at h
      omega
theorem fw_sub : ∀ k, k < 12 → (-2 : Int32) - (-2 - nI k) = nI k ∧ (-2 - nI k : Int32) < 0 ∧ (-2 - nI k : Int32) ≤ -2 := by decide +kernel
section PFO
variable {T : gT} {M M0 : gM} {k : Nat → Nat × Nat} {m : Nat} {W : Nat → Nat} {D i n : Nat}
theorem vBd_ok (hV : gVal T M D) (hi : i < dNl M D) (hb : vBd W M D i n ≠ -1) : ∃ b, b < dNl M D ∧ vBd W M D i n = nI b ∧ vCd M D b n := by
  have h8 := hV.2.1
  unfold vBd at hb ⊢
  split at hb
  · exact absurd rfl hb
  next h1 =>
    rw [if_neg h1]
    split at hb
    next h2 =>
      rw [if_pos h2]
      exact vVt_ok hV hi h2.2.1
    next h2 =>
      rw [if_neg h2]
      unfold vWin at hb ⊢
      cases hw : vBest W M D n (dNl M D) with
      | none =>
        rw [hw] at hb
        exact absurd rfl hb
      | some b =>
        obtain ⟨q1, q2⟩ := vBest_lt hw
        exact ⟨b, q1, rfl, q2⟩
/-- the definition to which a call goes -/
theorem vOf_ok (hV : gVal T M D) {b : Nat} (hb : b < dNl M D) (hn : n < 12) (hc : vCd M D b n) : (∃ v, v ≤ 9999 ∧ dOf M D b n = nI v) ∨ ∃ q, q < dNn M D ∧ dOf M D b n = -2 - nI q := by
  rcases (hV.2.2.2.2.2 b hb).2.2.2.2.2 n hn with h | ⟨-, h⟩
  · exact absurd (Or.inr h) hc
  · exact h
theorem p_fill (hT : T[75]? = some (11, 96)) : ∃ N, f_J7_fill_53178 T M 75 0 = some N ∧ fr (fun b _ => b = 75) M N ∧ ∀ x, x < 96 → gi N 75 x = 0 := by
  unfold f_J7_fill_53178
  rw [alen_of hT, show Int32.ofNat 96 = nI 96 from rfl]
  have hL : ∃ N, gloop (fun x => f_J7_fill_53178_B5 T x.2 75 0 x.1 (nI 96)) gFU ((0 : Int32), M) = some N ∧ (fr (fun b _ => b = 75) M N ∧ ∀ x, x < 96 → gi N 75 x = 0) := by
    refine gloop_ex (P := fun t y => y.1 = nI t ∧ t ≤ 96 ∧ fr (fun b _ => b = 75) M y.2 ∧ ∀ x, x < t → gi y.2 75 x = 0) (fu := gFU) 96 (by decide) ⟨rfl, Nat.zero_le _, fr_refl, fun j hj => absurd hj (Nat.not_lt_zero j)⟩ (fun t y _ hP => ?_)
    obtain ⟨y1, N⟩ := y
    obtain ⟨rfl, ht, hF, hz⟩ := hP
    dsimp only at hF hz
    show (∃ e, f_J7_fill_53178_B5 T N 75 0 (nI t) (nI 96) = some (.inl e) ∧ _) ∨ _
    unfold f_J7_fill_53178_B5
    by_cases e : t = 96
    · subst e
      rw [if_pos (nI_le (Nat.le_refl _) (by decide))]
      exact Or.inl ⟨N, rfl, hF, hz⟩
    · rw [if_neg (nI_ge (by omega) (by decide)), ast_ok hT (by omega) (by decide), Option.bind_some, nI_1]
      have hlt : t < 96 := by omega
      refine Or.inr ⟨hlt, (nI (t + 1), si N 75 t 0), rfl, rfl, hlt, fr_si hF rfl, fun x hx => ?_⟩
      show gi (si N 75 t 0) 75 x = 0
      rw [gi_si]
      by_cases ex : x = t
      · rw [if_pos ⟨rfl, ex⟩]
      · rw [if_neg (fun q => ex q.2)]
        exact hz x (by omega)
  obtain ⟨N, c1, c2⟩ := hL
  rw [c1, Option.bind_some]
  exact ⟨N, rfl, c2⟩
theorem p_goC [gW0] (h : gCls T M k m) (hB : ∀ n, n < dNn M 37 → ∀ i, i < dNl M 37 → gi M 73 (12 * i + n) = vBd W M 37 i n) : ∀ (f t : Nat) (V : Nat → Bool) (c n l fu : Nat) (N : gM), f + t = 96 → f < fu → c < dNl M 37 → n < dNn M 37 → fr (fun b _ => b = 74 ∨ b = 75) M N → (∀ x, x < 96 → gi N 75 x = if V x then 1 else 0) → gi N 74 1 = -2 → gi N 74 2 = nI l → ∃ N', gloop (fun x => f_X4_follow_B29 T x.2.2.2 74 37 66 x.1 x.2.1 x.2.2.1) fu (nI c, nI n, nI t, N) = some N' ∧ fr (fun b _ => b = 74 ∨ b = 75) M N' ∧ gi N' 74 1 = (vGo W M 37 f V c n l).1 ∧ gi N' 74 2 = nI (vGo W M 37 f V c n l).2
  | f, t, V, c, n, l, 0, N, _, hfu, _, _, _, _, _, _ => by omega
  | f, t, V, c, n, l, fu + 1, N, hft, hfu, hc, hn, hF, hv, h1, h2 => by
    have h8 := h.2.1.2.1
    have h12 := h.2.1.2.2.1
    obtain ⟨hN, hd⟩ := gCls_fr h hF (fun b j q => Or.inl (by omega))
    unfold gloop
    dsimp only
    unfold f_X4_follow_B29
    cases f with
    | zero =>
      rw [show t = 96 by omega, if_pos (show (96 : Int32) ≤ nI 96 from nI_le (Nat.le_refl 96) (by decide))]
      exact ⟨N, rfl, hF, h1, h2⟩
    | succ f =>
      have hcl : 12 * c + n < 96 := by omega
      rw [if_neg (show ¬ (96 : Int32) ≤ nI t from nI_ge (b := 96) (by omega) (by decide)), p_cell, Option.bind_some, r_74_0 hN.1, Option.bind_some, ald_ok (s_75 hN.1) hcl (by decide), Option.bind_some, hv _ hcl]
      by_cases hV : V (12 * c + n) = true
      · rw [if_pos hV, if_neg (by decide)]
        have e : vGo W M 37 (f + 1) V c n l = (-2, l) := if_pos hV
        rw [e]
        exact ⟨N, rfl, hF, h1, h2⟩
      · have hXN : gFx T (si N 75 (12 * c + n) 1) := gFx_gr hN.1 (fun _ _ => rfl)
        have e0 : gi (si N 75 (12 * c + n) 1) 73 (12 * c + n) = vBd W M 37 c n := by
          rw [gi_si, if_neg (by omega), hF.2.2 73 _ (fun q => by omega)]
          exact hB n hn c hc
        rw [if_neg hV, if_pos rfl, Option.bind_some, ast_ok (s_75 hN.1) hcl (by decide), Option.bind_some, r_66_6 hXN, Option.bind_some, ald_ok (s_73 hN.1) hcl (by decide), Option.bind_some, e0]
        have f1 : fr (fun b _ => b = 74 ∨ b = 75) M (si N 75 (12 * c + n) 1) := fr_si hF (Or.inr rfl)
        have g2 : gi (si N 75 (12 * c + n) 1) 74 2 = nI l := by rw [gi_si, if_neg (by omega)]; exact h2
        by_cases hno : vBd W M 37 c n = -1
        · rw [if_neg (fun q => q hno)]
          have e : vGo W M 37 (f + 1) V c n l = (-1, l) := by
            show (if V (12 * c + n) = true then _ else _) = _
            rw [if_neg hV, if_pos hno]
          rw [e]
          exact ⟨_, rfl, fr_si f1 (Or.inl rfl), by rw [gi_si, if_pos ⟨rfl, rfl⟩], by rw [gi_si, if_neg (by omega)]; exact g2⟩
        · obtain ⟨b, hb, e1, e2⟩ := vBd_ok h.2.1 hc hno
          rw [if_pos hno, g2, nI_1]
          have f2 : fr (fun b _ => b = 74 ∨ b = 75) M (si (si N 75 (12 * c + n) 1) 74 2 (nI (l + 1))) := fr_si f1 (Or.inl rfl)
          obtain ⟨hN2, hd2⟩ := gCls_fr h f2 (fun b j q => Or.inl (by omega))
          have hL2 := hN2.2.1.1.2.2.2 b (by omega)
          have ecl : (vBd W M 37 c n).toNatClampNeg = b := by rw [e1]; exact nI_clamp (by omega)
          rw [p_row1 hN2.2.1.1, Option.bind_some, e1, p_row2 hN2.2.1.1 (by omega), Option.bind_some, ldr_ok hL2.2.2.1 hL2.1.2.1, Option.bind_some, ald_ok hL2.1.2.1 (show n < 12 by omega) (by decide), Option.bind_some, show gi (si (si N 75 (12 * c + n) 1) 74 2 (nI (l + 1))) (37 + 6 + 3 * b) n = dOf M 37 b n from hd2.off (by omega) (by omega)]
          rcases vOf_ok h.2.1 hb (show n < 12 by omega) e2 with ⟨v, hv9, ev⟩ | ⟨q, hq, ev⟩
          · have e : vGo W M 37 (f + 1) V c n l = (nI v, l + 1) := by
              show (if V (12 * c + n) = true then _ else _) = _
              rw [if_neg hV, if_neg hno, ecl, ev, if_pos (nI_pos (by omega))]
            rw [ev, if_neg (by rw [Int32.le_iff_toInt_le, nI_toInt (by omega), show (-2 : Int32).toInt = -2 from rfl]; omega), e]
            exact ⟨_, rfl, fr_si f2 (Or.inl rfl), by rw [gi_si, if_pos ⟨rfl, rfl⟩], by rw [gi_si, if_neg (by omega), gi_si, if_pos ⟨rfl, rfl⟩]⟩
          · obtain ⟨w1, w2, w3⟩ := fw_sub q (by omega)
            have e : vGo W M 37 (f + 1) V c n l = vGo W M 37 f (fun x => if x = 12 * c + n then true else V x) b q (l + 1) := by
              show (if V (12 * c + n) = true then _ else _) = _
              rw [if_neg hV, if_neg hno, ecl, ev, if_neg (fun z => z w2), w1, nI_clamp (by omega)]
            rw [ev, if_pos w3, w1, nI_1, e]
            refine p_goC h hB f (t + 1) _ b q (l + 1) fu _ (by omega) (by omega) hb hq f2 (fun x hx => ?_) (by rw [gi_si, if_neg (by omega), gi_si, if_neg (by omega)]; exact h1) (by rw [gi_si, if_pos ⟨rfl, rfl⟩])
            rw [gi_si, if_neg (by omega), gi_si]
            by_cases ex : x = 12 * c + n
            · rw [if_pos ⟨rfl, ex⟩, if_pos ex]
              rfl
            · rw [if_neg (fun z => ex z.2), if_neg ex]
              exact hv x hx
theorem p_folC [gW0] (h : gCls T M k m) (hB : ∀ n, n < dNn M 37 → ∀ i, i < dNl M 37 → gi M 73 (12 * i + n) = vBd W M 37 i n) (hi : i < dNl M 37) (hn : n < dNn M 37) : ∃ N, f_X4_follow T M 74 37 66 (nI i) (nI n) = some N ∧ fr (fun b _ => b = 74 ∨ b = 75) M N ∧ gi N 74 1 = (vCal W M 37 i n).1 ∧ gi N 74 2 = nI (vCal W M 37 i n).2 := by
  unfold f_X4_follow
  obtain ⟨N, c1, c2, c3⟩ := p_fill (M := M) (s_75 h.1)
  rw [r_74_0 h.1, Option.bind_some, c1, Option.bind_some]
  obtain ⟨N', d1, d2, d3, d4⟩ := p_goC (W := W) h hB 96 0 (fun _ => false) i n 0 gFU (si (si N 74 1 (-2)) 74 2 0) rfl (by decide) hi hn (fr_si (fr_si (fr_mono c2 (fun b j q => Or.inr q)) (Or.inl rfl)) (Or.inl rfl)) (fun x hx => by
    rw [gi_si, if_neg (by omega), gi_si, if_neg (by omega), c3 x hx]
    rfl) (by rw [gi_si, if_neg (by omega), gi_si, if_pos ⟨rfl, rfl⟩]) (by rw [gi_si, if_pos ⟨rfl, rfl⟩]; rfl)
  have d1' : gloop (fun x => f_X4_follow_B29 T x.2.2.2 74 37 66 x.1 x.2.1 x.2.2.1) gFU (nI i, nI n, (0 : Int32), si (si N 74 1 (-2)) 74 2 0) = some N' := d1
  rw [d1', Option.bind_some]
  exact ⟨N', rfl, d2, d3, d4⟩
end PFO
