/-! THE WAY OF A CALL: the reference -/
theorem nI_or (a b : Nat) : nI a ||| nI b = nI (a ||| b) := by
  apply Int32.toBitVec_inj.1
  show BitVec.ofNat 32 a ||| BitVec.ofNat 32 b = BitVec.ofNat 32 (a ||| b)
  apply BitVec.eq_of_getLsbD_eq
  intro i hi
  simp only [BitVec.getLsbD_or, BitVec.getLsbD_ofNat, hi, decide_true, Bool.true_and, Nat.testBit_or]
theorem nI_and (a b : Nat) : nI a &&& nI b = nI (a &&& b) := by
  apply Int32.toBitVec_inj.1
  show BitVec.ofNat 32 a &&& BitVec.ofNat 32 b = BitVec.ofNat 32 (a &&& b)
  apply BitVec.eq_of_getLsbD_eq
  intro i hi
  simp only [BitVec.getLsbD_and, BitVec.getLsbD_ofNat, hi, decide_true, Bool.true_and, Nat.testBit_and]
theorem nI_sml : ∀ n, n < 32 → ((nI n &&& 31).toBitVec.smod 32).toNat = n := by decide +kernel
theorem nI_bit {r n : Nat} (hr : r < 4096) (hn : n < 12) : ((nI r >>> (nI n &&& 31)) &&& (1 : Int32)) = 1 ↔ r.testBit n = true := by
  rw [pk_shrN (by omega) _ n (nI_sml n (by omega)), show (1 : Int32) = nI 1 from rfl, nI_and, Nat.and_one_is_mod, nI_eq (by omega) (by omega), Nat.testBit_eq_decide_div_mod_eq, decide_eq_true_eq]
theorem nI_setb {r n : Nat} (hr : r < 4096) (hn : n < 12) : nI r ||| ((1 : Int32) <<< (nI n &&& 31)) = nI (r ||| 2 ^ n) ∧ r ||| 2 ^ n < 4096 := by
  have h2 : 2 ^ n < 2 ^ 12 := Nat.pow_lt_pow_right (by decide) hn
  refine ⟨?_, Nat.or_lt_two_pow (n := 12) hr h2⟩
  rw [show (1 : Int32) = nI 1 from rfl, pk_shlN _ n (nI_sml n (by omega)) (by omega), nI_or, Nat.one_mul]
def c96 (V : Nat → Bool) : Nat := cntN V 96
theorem c96_full {V : Nat → Bool} (h : c96 V = 96) {x : Nat} (hx : x < 96) : V x = true := cntN_full h x hx
theorem c96_up {V : Nat → Bool} {x : Nat} (hV : V x = false) (hx : x < 96) : c96 (fun y => if y = x then true else V y) = c96 V + 1 := by
  unfold c96
  rw [cntN_up hV 96, if_pos hx]
theorem c96_0 : c96 (fun _ => false) = 0 := by
  have hz : ∀ n, cntN (fun _ => false) n = 0 := fun n => by
    induction n with
    | zero => rfl
    | succ n ih => unfold cntN; rw [ih]; rfl
  exact hz 96
section PFM
variable {T : gT} {M M0 : gM} {D : Nat} {k : Nat → Nat × Nat} {m : Nat} {W : Nat → Nat} {i n : Nat}
theorem p_goM (h : gRel T M D k m) (hB : ∀ n, n < dNn M D → ∀ i, i < dNl M D → gi M (340 + i) n = vBd W M D i n) : ∀ (fu f t : Nat) (V : Nat → Bool) (R : Nat → Nat) (c n l : Nat) (N : gM), f + t = 96 → f < fu → c < dNl M D → n < dNn M D → fr (fun b j => b = 357 ∨ (b = 311 ∧ j = 26)) M N → (∀ x, x < 8 → R x < 4096 ∧ gi N 357 x = nI (R x) ∧ ∀ y, y < 12 → V (12 * x + y) = (R x).testBit y) → c96 V = t → gi N 311 26 = nI l → ∃ N', gloop (fun x => f_X9_follow_B31 T x.2.2 311 x.1 x.2.1) fu (nI c, nI n, N) = some ((vGo W M D f V c n l).1, N') ∧ fr (fun b j => b = 357 ∨ (b = 311 ∧ j = 26)) M N' ∧ gi N' 311 26 = nI (vGo W M D f V c n l).2 := by
  intro fu
  induction fu with
  | zero =>
    intro f t V R c n l N _ hfu
    omega
  | succ fu ih =>
    intro f t V R c n l N hft hfu hc hn hF hv hcn h2
    have h8 := h.2.1.2.1
    have h12 := h.2.1.2.2.1
    obtain ⟨hN, hd⟩ := gRel_fr h hF (fun b j q => Or.inl (by omega))
    have hcl : 12 * c + n < 96 := by omega
    obtain ⟨r1, r2, r3⟩ := hv c (by omega)
    have r4 := r3 n (by omega)
    unfold gloop
    dsimp only
    unfold f_X9_follow_B31
    rw [r_311_25 hN.1, Option.bind_some, ald_ok (s_357 hN.1) (by omega) (by decide), Option.bind_some, r2]
    by_cases hV : V (12 * c + n) = true
    · rw [if_neg (fun q => q ((nI_bit r1 (by omega)).mpr (r4.symm.trans hV)))]
      have e : vGo W M D f V c n l = (-2, l) := by
        cases f with
        | zero => rfl
        | succ f => exact if_pos hV
      rw [e]
      exact ⟨N, rfl, hF, h2⟩
    · cases f with
      | zero => exact absurd (c96_full (show c96 V = 96 by omega) hcl) hV
      | succ f =>
        obtain ⟨b1, b2⟩ := nI_setb (n := n) r1 (by omega)
        rw [if_pos (fun q => hV (r4.trans ((nI_bit r1 (by omega)).mp q))), Option.bind_some, ald_ok (s_357 hN.1) (by omega) (by decide), Option.bind_some, r2, b1, ast_ok (s_357 hN.1) (by omega) (by decide), Option.bind_some]
        have f1 : fr (fun b j => b = 357 ∨ (b = 311 ∧ j = 26)) M (si N 357 c (nI (R c ||| 2 ^ n))) := fr_si hF (Or.inl rfl)
        obtain ⟨hN1, hd1⟩ := gRel_fr h f1 (fun b j q => Or.inl (by omega))
        have e0 : gi (si N 357 c (nI (R c ||| 2 ^ n))) (340 + c) n = vBd W M D c n := by
          rw [gi_si, if_neg (by omega), hF.2.2 (340 + c) _ (fun q => by omega)]
          exact hB n hn c hc
        have g2 : gi (si N 357 c (nI (R c ||| 2 ^ n))) 311 26 = nI l := by rw [gi_si, if_neg (by omega)]; exact h2
        rw [r_311_23 hN1.1, Option.bind_some, w_bin hN1.1 (by omega), Option.bind_some, ald_ok (s_bin hN1.1 (by omega)) (by omega) (by decide), Option.bind_some, e0]
        by_cases hno : vBd W M D c n = -1
        · rw [if_neg (fun q => q hno)]
          have e : vGo W M D (f + 1) V c n l = (-1, l) := by
            show (if V (12 * c + n) = true then _ else _) = _
            rw [if_neg hV, if_pos hno]
          rw [e]
          exact ⟨_, rfl, f1, g2⟩
        · obtain ⟨b, hb, e1, e2⟩ := vBd_ok h.2.1 hc hno
          rw [if_pos hno, g2, nI_1, e1]
          have f2 : fr (fun b j => b = 357 ∨ (b = 311 ∧ j = 26)) M (si (si N 357 c (nI (R c ||| 2 ^ n))) 311 26 (nI (l + 1))) := fr_si f1 (Or.inr ⟨rfl, rfl⟩)
          obtain ⟨hN2, hd2⟩ := gRel_fr h f2 (fun b j q => Or.inl (by omega))
          have ecl : (vBd W M D c n).toNatClampNeg = b := by rw [e1]; exact nI_clamp (by omega)
          rw [p_mdat (gMo_Fx hN2.1), Option.bind_some, p_at, Option.bind_some, show (12 : Int32) = nI 12 from rfl, nI_add, nI_add, p_mald (gMo_Fx hN2.1) (by omega), Option.bind_some, (hN2.2.2.1.2.2.2 b (by rw [dNl_same hd2]; exact hb)).2.2.2.2.1 n (by omega), hd2.off (by omega) (by omega)]
          rcases vOf_ok h.2.1 hb (show n < 12 by omega) e2 with ⟨v, hv9, ev⟩ | ⟨q, hq, ev⟩
          · have e : vGo W M D (f + 1) V c n l = (nI v, l + 1) := by
              show (if V (12 * c + n) = true then _ else _) = _
              rw [if_neg hV, if_neg hno, ecl, ev, if_pos (nI_pos (by omega))]
            rw [ev, if_neg (nI_pos (by omega)), e]
            exact ⟨_, rfl, f2, by rw [gi_si, if_pos ⟨rfl, rfl⟩]⟩
          · obtain ⟨w1, w2, w3⟩ := fw_sub q (by omega)
            have e : vGo W M D (f + 1) V c n l = vGo W M D f (fun x => if x = 12 * c + n then true else V x) b q (l + 1) := by
              show (if V (12 * c + n) = true then _ else _) = _
              rw [if_neg hV, if_neg hno, ecl, ev, if_neg (fun z => z w2), w1, nI_clamp (by omega)]
            rw [ev, if_pos w2, w1, e]
            refine ih f (t + 1) _ (fun x => if x = c then R c ||| 2 ^ n else R x) b q (l + 1) _ (by omega) (by omega) hb hq f2 (fun x hx => ?_) ?_ (by rw [gi_si, if_pos ⟨rfl, rfl⟩])
            · obtain ⟨a1, a2, a3⟩ := hv x hx
              by_cases ex : x = c
              · rw [if_pos ex]
                refine ⟨b2, ?_, fun y hy => ?_⟩
                · rw [gi_si, if_neg (by omega), gi_si, if_pos ⟨rfl, ex⟩]
                · rw [Nat.testBit_or, Nat.testBit_two_pow]
                  by_cases ey : y = n
                  · rw [if_pos (by omega), decide_eq_true ey.symm, Bool.or_true]
                  · rw [if_neg (by omega), decide_eq_false (fun z => ey z.symm), Bool.or_false, a3 y hy, ex]
              · rw [if_neg ex]
                refine ⟨a1, ?_, fun y hy => ?_⟩
                · rw [gi_si, if_neg (by omega), gi_si, if_neg (fun z => ex z.2)]
                  exact a2
                · rw [if_neg (by omega)]
                  exact a3 y hy
            · rw [c96_up (by simpa using hV) hcl]
              omega
theorem p_folM (h : gRel T M D k m) (hB : ∀ n, n < dNn M D → ∀ i, i < dNl M D → gi M (340 + i) n = vBd W M D i n) (hi : i < dNl M D) (hn : n < dNn M D) : ∃ N, f_X9_follow T M 311 (nI i) (nI n) = some ((vCal W M D i n).1, N) ∧ fr (fun b j => b = 357 ∨ (b = 311 ∧ j = 26)) M N ∧ gi N 311 26 = nI (vCal W M D i n).2 := by
  unfold f_X9_follow
  have hL : ∃ N, gloop (fun x => f_X9_follow_B7 T x.2 311 (nI i) (nI n) x.1) gFU ((0 : Int32), si M 311 26 0) = some N ∧ (fr (fun b j => b = 357 ∨ (b = 311 ∧ j = 26)) M N ∧ gi N 311 26 = 0 ∧ ∀ x, x < 8 → gi N 357 x = 0) := by
    refine gloop_ex (P := fun t y => y.1 = nI t ∧ t ≤ 8 ∧ fr (fun b j => b = 357 ∨ (b = 311 ∧ j = 26)) M y.2 ∧ gi y.2 311 26 = 0 ∧ ∀ x, x < t → gi y.2 357 x = 0) (fu := gFU) 8 (by decide) ⟨rfl, Nat.zero_le _, fr_si fr_refl (Or.inr ⟨rfl, rfl⟩), by rw [gi_si, if_pos ⟨rfl, rfl⟩], fun j hj => absurd hj (Nat.not_lt_zero j)⟩ (fun t y _ hP => ?_)
    obtain ⟨y1, N⟩ := y
    obtain ⟨rfl, ht, hF, h0, hz⟩ := hP
    dsimp only at hF h0 hz
    have hXN : gFx T N := gFx_fr h.1 hF
    show (∃ e, f_X9_follow_B7 T N 311 (nI i) (nI n) (nI t) = some (.inl e) ∧ _) ∨ _
    unfold f_X9_follow_B7
    by_cases e : t = 8
    · subst e
      rw [if_pos (show (8 : Int32) ≤ nI 8 from nI_le (Nat.le_refl _) (by decide))]
      exact Or.inl ⟨N, rfl, hF, h0, hz⟩
    · rw [if_neg (show ¬ (8 : Int32) ≤ nI t from nI_ge (b := 8) (by omega) (by decide)), r_311_25 hXN, Option.bind_some, ast_ok (s_357 hXN) (by omega) (by decide), Option.bind_some, nI_1]
      have hlt : t < 8 := by omega
      refine Or.inr ⟨hlt, (nI (t + 1), si N 357 t 0), rfl, rfl, hlt, fr_si hF (Or.inl rfl), by rw [gi_si, if_neg (by omega)]; exact h0, fun x hx => ?_⟩
      show gi (si N 357 t 0) 357 x = 0
      rw [gi_si]
      by_cases ex : x = t
      · rw [if_pos ⟨rfl, ex⟩]
      · rw [if_neg (fun q => ex q.2)]
        exact hz x (by omega)
  obtain ⟨N, c1, c2, c3, c4⟩ := hL
  obtain ⟨N', d1, d2, d3⟩ := p_goM (W := W) h hB gFU 96 0 (fun _ => false) (fun _ => 0) i n 0 N rfl (by decide) hi hn c2 (fun x hx => ⟨by omega, c4 x hx, fun y _ => (Nat.zero_testBit y).symm⟩) c96_0 c3
  rw [c1, Option.bind_some, d1, Option.bind_some]
  exact ⟨N', rfl, d2, d3⟩
end PFM
