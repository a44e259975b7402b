/-! WEIGHTS of a known text -/
theorem gloop_one {α β : Type} {A : α → Option (β ⊕ α)} {a : α} {e : β} (h : A a = some (.inl e)) (k : Nat) : gloop A (k + 1) a = some e := by
  unfold gloop
  rw [h]
theorem gloop_two {α β : Type} {A : α → Option (β ⊕ α)} {a a' : α} (h : A a = some (.inr a')) (k : Nat) : gloop A (k + 1) a = gloop A k a' := by
  show (match A a with | none => none | some (.inl e) => some e | some (.inr a') => gloop A k a') = _
  rw [h]
theorem sgn40 : sgn 40 := by unfold sgn isL isD; omega
theorem sgn41 : sgn 41 := by unfold sgn isL isD; omega
theorem sgn42 : sgn 42 := by unfold sgn isL isD; omega
theorem sgn43 : sgn 43 := by unfold sgn isL isD; omega
theorem sgn45 : sgn 45 := by unfold sgn isL isD; omega
theorem sgn47 : sgn 47 := by unfold sgn isL isD; omega
/-- the text bd of rank o on the level lv -/
def pr (lv o : Nat) (bd : List Nat) : List Nat := if o < lv then gStrs.getD 32 [] ++ bd ++ gStrs.getD 33 [] else bd
def opS (c : Nat) : List Nat := gStrs.getD (26 + c) []
/-- the text of the node whose code is k s .. k (t - 1); rank 3: a number or a quantity, 2: * and /, 1: + and - -/
def NX (k : Nat → Nat × Nat) : Nat → Nat → Nat → Nat → List Nat → Prop
  | 0, _, _, _, _ => False
  | d + 1, s, t, o, bd => (t = s + 1 ∧ o = 3 ∧ (((k s).1 = 0 ∧ (k s).2 ≤ 9999 ∧ bd = dg (k s).2) ∨ ((k s).1 = 1 ∧ (k s).2 < 4 ∧ bd = gStrs.getD (9 + (k s).2) []))) ∨ ∃ u v o1 b1 o2 b2, t = v + 1 ∧ 2 ≤ (k v).1 ∧ (k v).1 ≤ 5 ∧ o = (if (k v).1 < 4 then 1 else 2) ∧ NX k d s u o1 b1 ∧ NX k d u v o2 b2 ∧ bd = pr o o1 b1 ++ opS (k v).1 ++ pr (o + 1) o2 b2
theorem NX_lt {k : Nat → Nat × Nat} : ∀ {d s t o : Nat} {bd : List Nat}, NX k d s t o bd → s < t ∧ 1 ≤ o ∧ o ≤ 3
  | 0, _, _, _, _ => fun h => h.elim
  | d + 1, s, t, o, bd => fun h => by
    rcases h with ⟨h1, h2, -⟩ | ⟨u, v, o1, b1, o2, b2, h1, h2, h3, h4, h5, h6, -⟩
    · omega
    · have a1 := NX_lt h5
      have a2 := NX_lt h6
      split at h4 <;> omega
/-- behind q comes a sign -/
def NS (B : Nat → Nat) (n q : Nat) (C : Nat → Prop) : Prop := ∃ k1 c, (∀ j, j < k1 → B (q + j) = 32) ∧ B (q + k1) = c ∧ sgn c ∧ c ≠ 32 ∧ q + k1 < n ∧ C c
theorem NS_w {B : Nat → Nat} {n q : Nat} {C C' : Nat → Prop} (h : NS B n q C) (hC : ∀ c, C c → C' c) : NS B n q C' := by
  obtain ⟨k1, c, h1, h2, h3, h4, h5, h6⟩ := h
  exact ⟨k1, c, h1, h2, h3, h4, h5, hC c h6⟩
theorem NS_no {B : Nat → Nat} {n q : Nat} {C : Nat → Prop} (h : NS B n q C) : ¬ isL (B q) ∧ ¬ isD (B q) ∧ q < n := by
  obtain ⟨k1, c, h1, h2, h3, h4, h5, h6⟩ := h
  by_cases e : k1 = 0
  · subst e
    rw [Nat.add_zero] at h2
    rw [h2]
    exact ⟨h3.2.1, h3.2.2, by omega⟩
  · have := h1 0 (by omega)
    rw [Nat.add_zero] at this
    rw [this]
    exact ⟨by decide, by decide, by omega⟩
section PWX
variable {T : gT} {M M' N V M1 : gM} {B : Nat → Nat} {n p s e q i nl nn a b m t k0 k1 rf dp sg c c' d o : Nat} {k : Nat → Nat × Nat} {l bd : List Nat} {rec : gRecT_X5_readSum} {x : Int32} {Q W : gM → Prop}
theorem sg_is (h : aT T M B n p) (hk : ∀ j, j < k0 → B (p + j) = 32) (hc : sgn c') (h32 : c' ≠ 32) (hb : B (p + k0) = c') (hn : p + k0 < n) : ∃ e, cT M B n (p + k0) e ∧ e = p + k0 + 1 ∧ ∀ c, sgn c → f_X6_isSign T M 3 (nI c) = some (if c' = c then 1 else 0) := by
  obtain ⟨e, hT⟩ := aT_at h hk (by rw [hb]; exact h32) hn
  refine ⟨e, hT, (c_isSign (T := T) (d := Classical.propDecidable _) hc hT).2 ⟨hn, hb⟩, fun c hc2 => ?_⟩
  have := (c_isSign (T := T) (d := Classical.propDecidable _) hc2 hT).1
  rw [this]
  by_cases e2 : c' = c
  · rw [if_pos e2, if_pos ⟨hn, hb.trans e2⟩]
  · rw [if_neg e2, if_neg (fun z => e2 (hb.symm.trans z.2))]
theorem sg_no (hT : cT M B n s e) (hs : isL (B s) ∨ isD (B s)) (hc : sgn c) : f_X6_isSign T M 3 (nI c) = some 0 := by
  have := (c_isSign (T := T) (d := Classical.propDecidable _) hc hT).1
  rw [this, if_neg (fun z => by
    rw [z.2] at hs
    exact hs.elim hc.2.1 hc.2.2)]
theorem c_code (hA : aT T M B n p) (hU : RU T M V nl nn a b k s) (hs : s < 800) (hx : x = wCls (k s)) : ∃ N, f_X5_addCode T M 2 x = some N ∧ aT T N B n p ∧ RU T N V nl nn a b k (s + 1) ∧ fz cS11 cLd M N ∧ ∀ s e, cT M B n s e → cT N B n s e := by
  obtain ⟨h1, h2, h3, h4, h5, h6, h7, h8, h9⟩ := hU
  have g3 : ∀ bb j, bb ≠ 36 → ¬ (bb = 2 ∧ j = 5) → gi (si (si M 36 s x) 2 5 (nI (s + 1))) bb j = gi M bb j := fun bb j q1 q2 => by rw [gi_si, if_neg q2, gi_si, if_neg (fun z => q1 z.1)]
  refine ⟨_, c_addCode hA.1 h8 hs, aT_eq hA (fun _ _ => rfl) (fun j => g3 3 j (by decide) (by omega)) (fun j => g3 4 j (by decide) (by omega)) rfl, ⟨gDat_gr h1 (fun _ _ => rfl), fun bb j hd => (g3 bb j (by have := d5_no hd; omega) (by have := d5_no hd; omega)).trans (h2 bb j hd), h3, h4, h5, h6, ⟨(g3 2 6 (by decide) (by omega)).trans h7.1, (g3 2 7 (by decide) (by omega)).trans h7.2⟩, by rw [gi_si, if_pos ⟨rfl, rfl⟩], fun y hy => ?_⟩, fz_si (fz_si fz_refl (Or.inr (Or.inr (Or.inr (Or.inl rfl))))) (Or.inl rfl), fun s e hT => cT_eq hT (fun j => g3 3 j (by decide) (by omega)) (fun j => g3 4 j (by decide) (by omega)) rfl⟩
  rw [gi_si, if_neg (by omega), gi_si]
  by_cases e : y = s
  · rw [if_pos ⟨rfl, e⟩, e]
    exact hx
  · rw [if_neg (fun z => e z.2)]
    exact h9 y (by omega)
/-- a factor, the beginning of a term, the beginning of a sum -/
def FQ (T : gT) (B : Nat → Nat) (n : Nat) (V : gM) (nl nn a : Nat) (k : Nat → Nat × Nat) (rf dp s t : Nat) (l : List Nat) : Prop := ∀ (M : gM) (p k0 : Nat), aT T M B n p → RU T M V nl nn a 1 k s → (∀ j, j < k0 → B (p + j) = 32) → bs B (p + k0) l → NS B n (p + k0 + l.length) (fun _ => True) → ∃ M', f_X5_readFactor (g_X5_readSum rf) T M 2 (nI dp) = some (1, M') ∧ aT T M' B n (p + k0 + l.length) ∧ RU T M' V nl nn a 1 k t ∧ fz cS11 cLd M M'
def TQ (T : gT) (B : Nat → Nat) (n : Nat) (V : gM) (nl nn a : Nat) (k : Nat → Nat × Nat) (rf dp s t : Nat) (l : List Nat) : Prop := ∀ (M : gM) (p k0 : Nat), aT T M B n p → RU T M V nl nn a 1 k s → (∀ j, j < k0 → B (p + j) = 32) → bs B (p + k0) l → NS B n (p + k0 + l.length) (fun _ => True) → ∃ i M', i ≤ t ∧ f_X5_readTerm (g_X5_readSum rf) T M 2 (nI dp) = ((gloop (fun x => f_X5_readTerm_B12 (g_X5_readSum rf) T x.2 2 (nI dp) x.1) (gFU - i) (nI i, M')).bind fun x18 => some x18) ∧ aT T M' B n (p + k0 + l.length) ∧ RU T M' V nl nn a 1 k t ∧ fz cS11 cLd M M'
def UQ (T : gT) (B : Nat → Nat) (n : Nat) (V : gM) (nl nn a : Nat) (k : Nat → Nat × Nat) (rf dp s t : Nat) (l : List Nat) : Prop := ∀ (M : gM) (p k0 : Nat), aT T M B n p → RU T M V nl nn a 1 k s → (∀ j, j < k0 → B (p + j) = 32) → bs B (p + k0) l → NS B n (p + k0 + l.length) (fun c => c ≠ 42 ∧ c ≠ 47) → ∃ i M', i ≤ t ∧ f_X5_readSum (g_X5_readSum rf) T M 2 (nI dp) = ((gloop (fun x => f_X5_readSum_B12 (g_X5_readSum rf) T x.2 2 (nI dp) x.1) (gFU - i) (nI i, M')).bind fun x18 => some x18) ∧ aT T M' B n (p + k0 + l.length) ∧ RU T M' V nl nn a 1 k t ∧ fz cS11 cLd M M'
theorem FP_leaf (h : ((k s).1 = 0 ∧ (k s).2 ≤ 9999 ∧ bd = dg (k s).2) ∨ ((k s).1 = 1 ∧ (k s).2 < 4 ∧ bd = gStrs.getD (9 + (k s).2) [])) (hs : s < 100) : FQ T B n V nl nn a k rf dp s (s + 1) bd := by
  intro M p k0 hA hU hk hb hN
  obtain ⟨n1, n2, n3⟩ := NS_no hN
  rcases h with ⟨h1, h2, rfl⟩ | ⟨h1, h2, rfl⟩
  · obtain ⟨⟨e, hT⟩, z2, M2, d1, d2, d3, d4⟩ := s_num (hi := 9999) (v := (k s).2) h2 h2 (by decide) hA hk hb n2 n3
    have hU2 := RU_0 hU d4
    obtain ⟨N, c1, c2, c3, c4, -⟩ := c_code (x := nI (k s).2) d3 hU2 (by omega) (by unfold wCls; rw [if_pos h1])
    refine ⟨N, ?_, c2, c3, fz_trans (fz0_11 d4) c4⟩
    unfold f_X5_readFactor
    rw [r_2_0 hA.1, Option.bind_some, show f_X6_isSign T M 3 (40 : Int32) = some 0 from sg_no hT (Or.inr (dg_first h2 hb)) sgn40, Option.bind_some, if_pos rfl, Option.bind_some, z2, if_neg (fun z => z rfl), show (9999 : Int32) = nI 9999 from rfl, d1, Option.bind_some]
    dsimp only
    rw [if_pos (by decide), d2, c1, Option.bind_some]
  · have hw := str_lw (i := 9 + (k s).2) (by omega)
    have hL := w_first hw hb
    obtain ⟨e, hT⟩ := aT_at hA hk (isL_32 hL) (by omega)
    obtain ⟨z1, z2, z3⟩ := cT_w hT hw hb n1 n3
    subst z1
    have wY := (w_isY (T := T) (i := 9 + (k s).2) (by omega) hT hb n1 n3).1
    have wN : ∀ j, j < 13 → j ≠ 9 + (k s).2 → f_X6_isWord T M 3 j = some 0 := fun j hj hne => w_isN hj hT hw hb n1 n3 (str_ne _ (by omega) j hj (fun z => hne z.symm))
    have hq : ∃ x, f_X5_quantityCode T M 2 = some x ∧ x = wCls (k s) ∧ x ≠ 0 := by
      refine ⟨-1 - nI (k s).2, ?_, by unfold wCls; rw [if_neg (by omega), if_pos h1], ?_⟩
      · unfold f_X5_quantityCode
        rcases (show (k s).2 = 0 ∨ (k s).2 = 1 ∨ (k s).2 = 2 ∨ (k s).2 = 3 by omega) with hz | hz | hz | hz
        · rw [hz] at wY
          rw [r_2_0 hA.1, Option.bind_some, wY, Option.bind_some, if_neg (by decide), hz]
          rfl
        · rw [hz] at wY
          rw [r_2_0 hA.1, Option.bind_some, wN 9 (by decide) (by omega), Option.bind_some, if_pos rfl, Option.bind_some, wY, Option.bind_some, if_neg (by decide), hz]
          rfl
        · rw [hz] at wY
          rw [r_2_0 hA.1, Option.bind_some, wN 9 (by decide) (by omega), Option.bind_some, if_pos rfl, Option.bind_some, wN 10 (by decide) (by omega), Option.bind_some, if_pos rfl, Option.bind_some, wY, Option.bind_some, if_neg (by decide), hz]
          rfl
        · rw [hz] at wY
          rw [r_2_0 hA.1, Option.bind_some, wN 9 (by decide) (by omega), Option.bind_some, if_pos rfl, Option.bind_some, wN 10 (by decide) (by omega), Option.bind_some, if_pos rfl, Option.bind_some, wN 11 (by decide) (by omega), Option.bind_some, if_pos rfl, Option.bind_some, wY, Option.bind_some, if_neg (by decide), hz]
          rfl
      · rcases (show (k s).2 = 0 ∨ (k s).2 = 1 ∨ (k s).2 = 2 ∨ (k s).2 = 3 by omega) with hz | hz | hz | hz <;> rw [hz] <;> decide
    obtain ⟨x, x1, x2, x3⟩ := hq
    obtain ⟨N, c1, c2, c3, c4, c5⟩ := c_code hA hU (by omega) x2
    obtain ⟨M2, v1, v2, v3⟩ := s_adv c2.1 (c5 _ _ hT)
    refine ⟨M2, ?_, v2, RU_t c3 v3, fz_trans c4 (fz_11 v3)⟩
    unfold f_X5_readFactor
    rw [r_2_0 hA.1, Option.bind_some, show f_X6_isSign T M 3 (40 : Int32) = some 0 from sg_no hT (Or.inl hL) sgn40, Option.bind_some, if_pos rfl, Option.bind_some, z2, if_pos (by decide), x1, Option.bind_some, if_pos x3, c1, Option.bind_some, r_2_0 c2.1, Option.bind_some, v1, Option.bind_some]
/-- one more round of a term -/
theorem tm_iter (hi : i ≤ 700) (hA : aT T M1 B n q) (hk : ∀ j, j < k1 → B (q + j) = 32) (hb : B (q + k1) = sg) (hn : q + k1 < n) (hsg : (sg = 42 ∧ x = -7) ∨ (sg = 47 ∧ x = -8)) (hsub : ∀ M2, aT T M2 B n (q + k1 + 1) → fz tS tL M1 M2 → ∃ M3, f_X5_readFactor rec T M2 2 (nI dp) = some (1, M3) ∧ Q M3) (hcode : ∀ M3, Q M3 → ∃ N, f_X5_addCode T M3 2 x = some N ∧ W N) : ∃ N, f_X5_readTerm_B12 rec T M1 2 (nI dp) (nI i) = some (.inr (nI (i + 1), N)) ∧ W N := by
  have hsn : sgn sg ∧ sg ≠ 32 := by
    rcases hsg with ⟨rfl, -⟩ | ⟨rfl, -⟩
    · exact ⟨sgn42, by decide⟩
    · exact ⟨sgn47, by decide⟩
  obtain ⟨e, hT, he, hs⟩ := sg_is hA hk hsn.1 hsn.2 hb hn
  subst he
  obtain ⟨M2, c1, c2, c3⟩ := s_adv hA.1 hT
  obtain ⟨M3, d1, d2⟩ := hsub M2 c2 c3
  obtain ⟨N, e1, e2⟩ := hcode M3 d2
  have h62 : f_X5_readTerm_62 rec T M1 2 (nI dp) (nI i) x = some (.inr (nI (i + 1), N)) := by
    unfold f_X5_readTerm_62
    rw [r_2_0 hA.1, Option.bind_some, c1, Option.bind_some, d1, Option.bind_some]
    dsimp only
    rw [if_pos (by decide), e1, Option.bind_some, nI_1]
  have s1 := hs 42 sgn42
  have s2 := hs 47 sgn47
  refine ⟨N, ?_, e2⟩
  unfold f_X5_readTerm_B12 f_X5_readTerm_43
  rw [if_neg (show ¬ (800 : Int32) ≤ nI i from nI_ge (b := 800) (by omega) (by decide)), r_2_0 hA.1, Option.bind_some, show f_X6_isSign T M1 3 (42 : Int32) = _ from s1, Option.bind_some]
  rcases hsg with ⟨rfl, rfl⟩ | ⟨rfl, rfl⟩
  · rw [if_pos rfl] at s1
    have z1 : f_X6_isSign T M1 3 (42 : Int32) = some 1 := s1
    rw [if_pos rfl, if_pos (by decide), Option.bind_some, z1, Option.bind_some, if_neg (by decide)]
    exact h62
  · rw [if_neg (by decide)] at s1
    rw [if_pos rfl] at s2
    have z1 : f_X6_isSign T M1 3 (42 : Int32) = some 0 := s1
    have z2 : f_X6_isSign T M1 3 (47 : Int32) = some 1 := s2
    rw [if_neg (by decide), Option.bind_some, z2, Option.bind_some, if_neg (by decide), Option.bind_some, z1, Option.bind_some, if_pos rfl]
    exact h62
theorem tm_done (hi : i ≤ 700) (hA : aT T M1 B n q) (hN : NS B n q (fun c => c ≠ 42 ∧ c ≠ 47)) : gloop (fun x => f_X5_readTerm_B12 rec T x.2 2 (nI dp) x.1) (gFU - i) (nI i, M1) = some (1, M1) := by
  obtain ⟨k1, c, h1, h2, h3, h4, h5, h6, h7⟩ := hN
  obtain ⟨e, hT, he, hs⟩ := sg_is hA h1 h3 h4 h2 h5
  have s1 := hs 42 sgn42
  have s2 := hs 47 sgn47
  rw [if_neg h6] at s1
  rw [if_neg h7] at s2
  have hF : gFU = 3000 := rfl
  rw [show gFU - i = (gFU - i - 1) + 1 by omega]
  refine gloop_one (A := fun x => f_X5_readTerm_B12 rec T x.2 2 (nI dp) x.1) (a := (nI i, M1)) ?_ _
  show f_X5_readTerm_B12 rec T M1 2 (nI dp) (nI i) = _
  unfold f_X5_readTerm_B12
  rw [if_neg (show ¬ (800 : Int32) ≤ nI i from nI_ge (b := 800) (by omega) (by decide)), r_2_0 hA.1, Option.bind_some, show f_X6_isSign T M1 3 (42 : Int32) = _ from s1, Option.bind_some, if_neg (fun z => z rfl), Option.bind_some, show f_X6_isSign T M1 3 (47 : Int32) = _ from s2, Option.bind_some, if_pos rfl]
/-- one more round of a sum -/
theorem sm_iter (hi : i ≤ 700) (hA : aT T M1 B n q) (hk : ∀ j, j < k1 → B (q + j) = 32) (hb : B (q + k1) = sg) (hn : q + k1 < n) (hsg : (sg = 43 ∧ x = -5) ∨ (sg = 45 ∧ x = -6)) (hsub : ∀ M2, aT T M2 B n (q + k1 + 1) → fz tS tL M1 M2 → ∃ M3, f_X5_readTerm rec T M2 2 (nI dp) = some (1, M3) ∧ Q M3) (hcode : ∀ M3, Q M3 → ∃ N, f_X5_addCode T M3 2 x = some N ∧ W N) : ∃ N, f_X5_readSum_B12 rec T M1 2 (nI dp) (nI i) = some (.inr (nI (i + 1), N)) ∧ W N := by
  have hsn : sgn sg ∧ sg ≠ 32 := by
    rcases hsg with ⟨rfl, -⟩ | ⟨rfl, -⟩
    · exact ⟨sgn43, by decide⟩
    · exact ⟨sgn45, by decide⟩
  obtain ⟨e, hT, he, hs⟩ := sg_is hA hk hsn.1 hsn.2 hb hn
  subst he
  obtain ⟨M2, c1, c2, c3⟩ := s_adv hA.1 hT
  obtain ⟨M3, d1, d2⟩ := hsub M2 c2 c3
  obtain ⟨N, e1, e2⟩ := hcode M3 d2
  have h62 : f_X5_readSum_62 rec T M1 2 (nI dp) (nI i) x = some (.inr (nI (i + 1), N)) := by
    unfold f_X5_readSum_62
    rw [r_2_0 hA.1, Option.bind_some, c1, Option.bind_some, d1, Option.bind_some]
    dsimp only
    rw [if_pos (by decide), e1, Option.bind_some, nI_1]
  have s1 := hs 43 sgn43
  have s2 := hs 45 sgn45
  refine ⟨N, ?_, e2⟩
  unfold f_X5_readSum_B12 f_X5_readSum_43
  rw [if_neg (show ¬ (800 : Int32) ≤ nI i from nI_ge (b := 800) (by omega) (by decide)), r_2_0 hA.1, Option.bind_some, show f_X6_isSign T M1 3 (43 : Int32) = _ from s1, Option.bind_some]
  rcases hsg with ⟨rfl, rfl⟩ | ⟨rfl, rfl⟩
  · rw [if_pos rfl] at s1
    have z1 : f_X6_isSign T M1 3 (43 : Int32) = some 1 := s1
    rw [if_pos rfl, if_pos (by decide), Option.bind_some, z1, Option.bind_some, if_neg (by decide)]
    exact h62
  · rw [if_neg (by decide)] at s1
    rw [if_pos rfl] at s2
    have z1 : f_X6_isSign T M1 3 (43 : Int32) = some 0 := s1
    have z2 : f_X6_isSign T M1 3 (45 : Int32) = some 1 := s2
    rw [if_neg (by decide), Option.bind_some, z2, Option.bind_some, if_neg (by decide), Option.bind_some, z1, Option.bind_some, if_pos rfl]
    exact h62
theorem sm_done (hi : i ≤ 700) (hA : aT T M1 B n q) (hN : NS B n q (fun c => c ≠ 43 ∧ c ≠ 45)) : gloop (fun x => f_X5_readSum_B12 rec T x.2 2 (nI dp) x.1) (gFU - i) (nI i, M1) = some (1, M1) := by
  obtain ⟨k1, c, h1, h2, h3, h4, h5, h6, h7⟩ := hN
  obtain ⟨e, hT, he, hs⟩ := sg_is hA h1 h3 h4 h2 h5
  have s1 := hs 43 sgn43
  have s2 := hs 45 sgn45
  rw [if_neg h6] at s1
  rw [if_neg h7] at s2
  have hF : gFU = 3000 := rfl
  rw [show gFU - i = (gFU - i - 1) + 1 by omega]
  refine gloop_one (A := fun x => f_X5_readSum_B12 rec T x.2 2 (nI dp) x.1) (a := (nI i, M1)) ?_ _
  show f_X5_readSum_B12 rec T M1 2 (nI dp) (nI i) = _
  unfold f_X5_readSum_B12
  rw [if_neg (show ¬ (800 : Int32) ≤ nI i from nI_ge (b := 800) (by omega) (by decide)), r_2_0 hA.1, Option.bind_some, show f_X6_isSign T M1 3 (43 : Int32) = _ from s1, Option.bind_some, if_neg (fun z => z rfl), Option.bind_some, show f_X6_isSign T M1 3 (45 : Int32) = _ from s2, Option.bind_some, if_pos rfl]
/-- from a factor to a term, from a term to a sum -/
theorem TP_of (ht : t ≤ 100) (h : FQ T B n V nl nn a k rf dp s t l) : TQ T B n V nl nn a k rf dp s t l := by
  intro M p k0 hA hU hk hb hN
  obtain ⟨M', h1, h2, h3, h4⟩ := h M p k0 hA hU hk hb hN
  refine ⟨0, M', Nat.zero_le _, ?_, h2, h3, h4⟩
  unfold f_X5_readTerm
  rw [h1, Option.bind_some]
  dsimp only
  rw [if_pos (by decide)]
  rfl
theorem TP_all (ht : t ≤ 100) (h : TQ T B n V nl nn a k rf dp s t l) (hA : aT T M B n p) (hU : RU T M V nl nn a 1 k s) (hk : ∀ j, j < k0 → B (p + j) = 32) (hb : bs B (p + k0) l) (hN : NS B n (p + k0 + l.length) (fun c => c ≠ 42 ∧ c ≠ 47)) : ∃ M', f_X5_readTerm (g_X5_readSum rf) T M 2 (nI dp) = some (1, M') ∧ aT T M' B n (p + k0 + l.length) ∧ RU T M' V nl nn a 1 k t ∧ fz cS11 cLd M M' := by
  obtain ⟨i, M', hi, h1, h2, h3, h4⟩ := h M p k0 hA hU hk hb (NS_w hN (fun _ _ => trivial))
  refine ⟨M', ?_, h2, h3, h4⟩
  rw [h1, tm_done (by omega) h2 hN, Option.bind_some]
theorem UP_of (ht : t ≤ 100) (h : TQ T B n V nl nn a k rf dp s t l) : UQ T B n V nl nn a k rf dp s t l := by
  intro M p k0 hA hU hk hb hN
  obtain ⟨M', h1, h2, h3, h4⟩ := TP_all ht h hA hU hk hb hN
  refine ⟨0, M', Nat.zero_le _, ?_, h2, h3, h4⟩
  unfold f_X5_readSum
  rw [h1, Option.bind_some]
  dsimp only
  rw [if_pos (by decide)]
  rfl
theorem UP_all (ht : t ≤ 100) (h : UQ T B n V nl nn a k rf dp s t l) (hA : aT T M B n p) (hU : RU T M V nl nn a 1 k s) (hk : ∀ j, j < k0 → B (p + j) = 32) (hb : bs B (p + k0) l) (hN : NS B n (p + k0 + l.length) (fun c => (c ≠ 42 ∧ c ≠ 47) ∧ c ≠ 43 ∧ c ≠ 45)) : ∃ M', f_X5_readSum (g_X5_readSum rf) T M 2 (nI dp) = some (1, M') ∧ aT T M' B n (p + k0 + l.length) ∧ RU T M' V nl nn a 1 k t ∧ fz cS11 cLd M M' := by
  obtain ⟨i, M', hi, h1, h2, h3, h4⟩ := h M p k0 hA hU hk hb (NS_w hN (fun _ q => q.1))
  refine ⟨M', ?_, h2, h3, h4⟩
  rw [h1, sm_done (by omega) h2 (NS_w hN (fun _ q => q.2)), Option.bind_some]
/-- a sum in parentheses is a factor -/
theorem FP_par (ht : t ≤ 100) (hdp : dp < 4) (h : UQ T B n V nl nn a k rf (dp + 1) s t l) : FQ T B n V nl nn a k (rf + 1) dp s t (gStrs.getD 32 [] ++ l ++ gStrs.getD 33 []) := by
  intro M p k0 hA hU hk hb hN
  rw [show gStrs.getD 32 [] = [40] by decide +kernel, show gStrs.getD 33 [] = [41] by decide +kernel] at hb hN ⊢
  have hlen : p + k0 + ([40] ++ l ++ [41]).length = p + k0 + 1 + l.length + 1 := by
    simp only [List.length_append, List.length_cons, List.length_nil]
    omega
  rw [hlen] at hN ⊢
  rw [bs_app, bs_app] at hb
  obtain ⟨⟨b1, b2⟩, b3⟩ := hb
  simp only [List.length_append, List.length_cons, List.length_nil, Nat.zero_add] at b2 b3
  rw [show p + k0 + (1 + l.length) = p + k0 + 1 + l.length by omega] at b3
  have b1 := bs1 b1
  have b3 := bs1 b3
  have hn := (NS_no hN).2.2
  obtain ⟨e, hT, he, hs⟩ := sg_is hA hk sgn40 (by decide) b1 (by omega)
  subst he
  have s1 := hs 40 sgn40
  rw [if_pos rfl] at s1
  obtain ⟨M1, c1, c2, c3⟩ := s_adv hA.1 hT
  obtain ⟨M2, d1, d2, d3, d4⟩ := UP_all (k0 := 0) ht h c2 (RU_t hU c3) sp0 b2 ⟨0, 41, sp0, b3, sgn41, by decide, by omega, by decide⟩
  rw [Nat.add_zero] at d2
  obtain ⟨M3, e1, e2, e3⟩ := s_sign (c := 41) (k := 0) sgn41 d2 sp0 (by decide) b3 (by omega)
  refine ⟨M3, ?_, e2, RU_t d3 e3, fz_trans (fz_trans (fz_11 c3) d4) (fz_11 e3)⟩
  unfold f_X5_readFactor
  rw [r_2_0 hA.1, Option.bind_some, show f_X6_isSign T M 3 (40 : Int32) = some 1 from s1, Option.bind_some, if_neg (by decide), if_pos (show nI dp < (4 : Int32) from nI_lt (b := 4) hdp (by decide)), Option.bind_some, c1, Option.bind_some, nI_1, show g_X5_readSum (rf + 1) T M1 2 (nI (dp + 1)) = some (1, M2) from d1, Option.bind_some]
  dsimp only
  rw [if_neg (by decide), show f_X5_readSign T M2 2 (41 : Int32) = some (1, M3) from e1, Option.bind_some]
  dsimp only
  rw [if_neg (by decide)]
/-- the signs of the operations -/
def opF (c : Nat) : Nat × Nat × Nat := if c = 2 then (0, 43, 0) else if c = 3 then (1, 45, 1) else if c = 4 then (0, 42, 1) else (0, 47, 0)
theorem op_ok (h1 : 2 ≤ c) (h2 : c ≤ 5) (hb : bs B q (opS c)) : (∀ j, j < (opF c).1 → B (q + j) = 32) ∧ B (q + (opF c).1) = (opF c).2.1 ∧ (∀ j, j < (opF c).2.2 → B (q + (opF c).1 + 1 + j) = 32) ∧ (opS c).length = (opF c).1 + 1 + (opF c).2.2 := by
  rcases (show c = 2 ∨ c = 3 ∨ c = 4 ∨ c = 5 by omega) with rfl | rfl | rfl | rfl
  · exact ⟨fun j hj => absurd hj (Nat.not_lt_zero j), hb 0 (by decide +kernel), fun j hj => absurd hj (Nat.not_lt_zero j), by decide +kernel⟩
  · exact ⟨fun j hj => by
      rw [show j = 0 from by have : j < 1 := hj; omega]
      exact hb 0 (by decide +kernel), hb 1 (by decide +kernel), fun j hj => by
      rw [show j = 0 from by have : j < 1 := hj; omega]
      exact hb 2 (by decide +kernel), by decide +kernel⟩
  · exact ⟨fun j hj => absurd hj (Nat.not_lt_zero j), hb 0 (by decide +kernel), fun j hj => by
      rw [show j = 0 from by have : j < 1 := hj; omega]
      exact hb 1 (by decide +kernel), by decide +kernel⟩
  · exact ⟨fun j hj => absurd hj (Nat.not_lt_zero j), hb 0 (by decide +kernel), fun j hj => absurd hj (Nat.not_lt_zero j), by decide +kernel⟩
theorem op_sg (h1 : 2 ≤ c) (h2 : c ≤ 5) : sgn (opF c).2.1 ∧ (opF c).2.1 ≠ 32 := by
  rcases (show c = 2 ∨ c = 3 ∨ c = 4 ∨ c = 5 by omega) with rfl | rfl | rfl | rfl
  · exact ⟨sgn43, by decide⟩
  · exact ⟨sgn45, by decide⟩
  · exact ⟨sgn42, by decide⟩
  · exact ⟨sgn47, by decide⟩
/-- an operation's text in three -/
theorem op_at {l1 l2 : List Nat} (h1 : 2 ≤ c) (h2 : c ≤ 5) (hb : bs B q (l1 ++ opS c ++ l2)) (hn : q + (l1 ++ opS c ++ l2).length < n) : bs B q l1 ∧ NS B n (q + l1.length) (fun z => z = (opF c).2.1) ∧ (∀ j, j < (opF c).1 → B (q + l1.length + j) = 32) ∧ B (q + l1.length + (opF c).1) = (opF c).2.1 ∧ q + l1.length + (opF c).1 < n ∧ (∀ j, j < (opF c).2.2 → B (q + l1.length + (opF c).1 + 1 + j) = 32) ∧ bs B (q + l1.length + (opF c).1 + 1 + (opF c).2.2) l2 ∧ q + (l1 ++ opS c ++ l2).length = q + l1.length + (opF c).1 + 1 + (opF c).2.2 + l2.length := by
  rw [bs_app, bs_app] at hb
  obtain ⟨⟨b1, b2⟩, b3⟩ := hb
  obtain ⟨a1, a2, a3, a4⟩ := op_ok h1 h2 b2
  obtain ⟨s1, s2⟩ := op_sg h1 h2
  rw [List.length_append, a4] at b3
  have hl : (l1 ++ opS c ++ l2).length = l1.length + ((opF c).1 + 1 + (opF c).2.2) + l2.length := by rw [List.length_append, List.length_append, a4]
  rw [hl] at hn ⊢
  exact ⟨b1, ⟨(opF c).1, (opF c).2.1, a1, a2, s1, s2, by omega, rfl⟩, a1, a2, by omega, a3, by rw [show q + l1.length + (opF c).1 + 1 + (opF c).2.2 = q + (l1.length + ((opF c).1 + 1 + (opF c).2.2)) by omega]; exact b3, by omega⟩
theorem TP_op {u v : Nat} {l1 l2 : List Nat} (ht : v ≤ 99) (hc : (k v).1 = 4 ∨ (k v).1 = 5) (h1 : TQ T B n V nl nn a k rf dp s u l1) (h2 : FQ T B n V nl nn a k rf dp u v l2) (huv : u < v) : TQ T B n V nl nn a k rf dp s (v + 1) (l1 ++ opS (k v).1 ++ l2) := by
  intro M p k0 hA hU hk hb hN
  obtain ⟨o1, o2, o3, o4, o5, o6, o7, o8⟩ := op_at (by omega) (by omega) hb (NS_no hN).2.2
  rw [o8] at hN ⊢
  obtain ⟨i, M1, hi, c1, c2, c3, c4⟩ := h1 M p k0 hA hU hk o1 (NS_w o2 (fun _ _ => trivial))
  obtain ⟨N, d1, d2, d3, d4⟩ := tm_iter (i := i) (rec := g_X5_readSum rf) (dp := dp) (x := wCls (k v)) (Q := fun M3 => aT T M3 B n (p + k0 + l1.length + (opF (k v).1).1 + 1 + (opF (k v).1).2.2 + l2.length) ∧ RU T M3 V nl nn a 1 k v ∧ fz cS11 cLd M1 M3) (W := fun N => aT T N B n (p + k0 + l1.length + (opF (k v).1).1 + 1 + (opF (k v).1).2.2 + l2.length) ∧ RU T N V nl nn a 1 k (v + 1) ∧ fz cS11 cLd M1 N) (by omega) c2 o3 o4 o5 (by
    rcases hc with hc | hc
    · exact Or.inl ⟨by rw [hc]; rfl, by unfold wCls; rw [hc, if_neg (by decide), if_neg (by decide)]; decide⟩
    · exact Or.inr ⟨by rw [hc]; rfl, by unfold wCls; rw [hc, if_neg (by decide), if_neg (by decide)]; decide⟩) (fun M2 q1 q2 => by
    obtain ⟨M3, f1, f2, f3, f4⟩ := h2 M2 _ _ q1 (RU_t c3 q2) o6 o7 hN
    exact ⟨M3, f1, f2, f3, fz_trans (fz_11 q2) f4⟩) (fun M3 q => by
    obtain ⟨N, f1, f2, f3, f4, -⟩ := c_code q.1 q.2.1 (by omega) rfl
    exact ⟨N, f1, f2, f3, fz_trans q.2.2 f4⟩)
  have hF : gFU = 3000 := rfl
  refine ⟨i + 1, N, by omega, ?_, d2, d3, fz_trans c4 d4⟩
  rw [c1, show gFU - i = (gFU - (i + 1)) + 1 by omega, gloop_two (A := fun x => f_X5_readTerm_B12 (g_X5_readSum rf) T x.2 2 (nI dp) x.1) (a := (nI i, M1)) d1]
theorem UP_op {u v : Nat} {l1 l2 : List Nat} (ht : v ≤ 99) (hc : (k v).1 = 2 ∨ (k v).1 = 3) (h1 : UQ T B n V nl nn a k rf dp s u l1) (h2 : TQ T B n V nl nn a k rf dp u v l2) (huv : u < v) : UQ T B n V nl nn a k rf dp s (v + 1) (l1 ++ opS (k v).1 ++ l2) := by
  intro M p k0 hA hU hk hb hN
  obtain ⟨o1, o2, o3, o4, o5, o6, o7, o8⟩ := op_at (by omega) (by omega) hb (NS_no hN).2.2
  rw [o8] at hN ⊢
  obtain ⟨i, M1, hi, c1, c2, c3, c4⟩ := h1 M p k0 hA hU hk o1 (NS_w o2 (fun z hz => by
    rw [hz]
    rcases hc with hc | hc <;> rw [hc] <;> decide))
  obtain ⟨N, d1, d2, d3, d4⟩ := sm_iter (i := i) (rec := g_X5_readSum rf) (dp := dp) (x := wCls (k v)) (Q := fun M3 => aT T M3 B n (p + k0 + l1.length + (opF (k v).1).1 + 1 + (opF (k v).1).2.2 + l2.length) ∧ RU T M3 V nl nn a 1 k v ∧ fz cS11 cLd M1 M3) (W := fun N => aT T N B n (p + k0 + l1.length + (opF (k v).1).1 + 1 + (opF (k v).1).2.2 + l2.length) ∧ RU T N V nl nn a 1 k (v + 1) ∧ fz cS11 cLd M1 N) (by omega) c2 o3 o4 o5 (by
    rcases hc with hc | hc
    · exact Or.inl ⟨by rw [hc]; rfl, by unfold wCls; rw [hc, if_neg (by decide), if_neg (by decide)]; decide⟩
    · exact Or.inr ⟨by rw [hc]; rfl, by unfold wCls; rw [hc, if_neg (by decide), if_neg (by decide)]; decide⟩) (fun M2 q1 q2 => by
    obtain ⟨M3, f1, f2, f3, f4⟩ := TP_all (by omega) h2 q1 (RU_t c3 q2) o6 o7 hN
    exact ⟨M3, f1, f2, f3, fz_trans (fz_11 q2) f4⟩) (fun M3 q => by
    obtain ⟨N, f1, f2, f3, f4, -⟩ := c_code q.1 q.2.1 (by omega) rfl
    exact ⟨N, f1, f2, f3, fz_trans q.2.2 f4⟩)
  have hF : gFU = 3000 := rfl
  refine ⟨i + 1, N, by omega, ?_, d2, d3, fz_trans c4 d4⟩
  rw [c1, show gFU - i = (gFU - (i + 1)) + 1 by omega, gloop_two (A := fun x => f_X5_readSum_B12 (g_X5_readSum rf) T x.2 2 (nI dp) x.1) (a := (nI i, M1)) d1]
/-- every node's text is read as its code -/
theorem wx : ∀ (d rf dp s t o : Nat) (bd : List Nat), NX k d s t o bd → t ≤ 100 → d ≤ rf → dp + d ≤ 5 → FQ T B n V nl nn a k rf dp s t (pr 3 o bd) ∧ TQ T B n V nl nn a k rf dp s t (pr 2 o bd) ∧ UQ T B n V nl nn a k rf dp s t (pr 1 o bd)
  | 0, _, _, _, _, _, _ => fun h => h.elim
  | d + 1, rf, dp, s, t, o, bd => fun h ht hd hp => by
    have hlt := NX_lt h
    obtain ⟨rf, rfl⟩ : ∃ q, rf = q + 1 := ⟨rf - 1, by omega⟩
    rcases h with ⟨h1, rfl, h3⟩ | ⟨u, v, o1, b1, o2, b2, rfl, h2, h3, h4, h5, h6, rfl⟩
    · subst h1
      have hf : FQ T B n V nl nn a k (rf + 1) dp s (s + 1) bd := FP_leaf h3 (by omega)
      have htp := TP_of ht hf
      exact ⟨hf, htp, UP_of ht htp⟩
    · have hl5 := NX_lt h5
      have hl6 := NX_lt h6
      have hd1 : 1 ≤ d := by
        cases d with
        | zero => exact h5.elim
        | succ d => omega
      by_cases hc : (k v).1 < 4
      · rw [if_pos hc] at h4
        subst h4
        have su : ∀ rf' dp', d ≤ rf' → dp' + d ≤ 5 → UQ T B n V nl nn a k rf' dp' s (v + 1) (pr 1 o1 b1 ++ opS (k v).1 ++ pr 2 o2 b2) := fun rf' dp' q1 q2 => UP_op (by omega) (by omega) (wx d rf' dp' s u o1 b1 h5 (by omega) q1 q2).2.2 (wx d rf' dp' u v o2 b2 h6 (by omega) q1 q2).2.1 (by omega)
        have hf := FP_par ht (by omega) (su rf (dp + 1) (by omega) (by omega))
        exact ⟨hf, TP_of ht hf, su (rf + 1) dp (by omega) (by omega)⟩
      · rw [if_neg hc] at h4
        subst h4
        have tu : ∀ rf' dp', d ≤ rf' → dp' + d ≤ 5 → TQ T B n V nl nn a k rf' dp' s (v + 1) (pr 2 o1 b1 ++ opS (k v).1 ++ pr 3 o2 b2) := fun rf' dp' q1 q2 => TP_op (by omega) (by omega) (wx d rf' dp' s u o1 b1 h5 (by omega) q1 q2).2.1 (wx d rf' dp' u v o2 b2 h6 (by omega) q1 q2).1 (by omega)
        have ht2 := tu (rf + 1) dp (by omega) (by omega)
        exact ⟨FP_par ht (by omega) (UP_of ht (tu rf (dp + 1) (by omega) (by omega))), ht2, UP_of ht ht2⟩
/-! A WEIGHT -/
theorem SS_weight {k9 : Nat → Nat × Nat} {m9 : Nat} (hx : NX k 3 0 t o bd) (ht : t ≤ 100) : SS V nl nn a 0 k9 m9 (gStrs.getD 27 [] ++ bd ++ gStrs.getD 17 []) V nl nn a 1 k t := by
  intro T M B n p hR hb hn
  obtain ⟨hA, hU⟩ := hR
  have g1 : (gStrs.getD 6 []).length = 6 := by decide +kernel
  have gl1 : gSl 6 = 6 := g1
  rw [show gStrs.getD 27 [] = gStrs.getD 6 [] ++ [32] by decide +kernel, show gStrs.getD 17 [] = [59] by decide +kernel] at hb hn ⊢
  have hlen : p + (gStrs.getD 6 [] ++ [32] ++ bd ++ [59]).length = p + 6 + 1 + bd.length + 1 := by
    simp only [List.length_append, g1, List.length_cons, List.length_nil]
    omega
  rw [hlen] at hn ⊢
  rw [bs_app, bs_app, bs_app] at hb
  obtain ⟨⟨⟨b1, b2⟩, b3⟩, b4⟩ := hb
  simp only [List.length_append, g1, List.length_cons, List.length_nil, Nat.zero_add] at b2 b3 b4
  rw [← Nat.add_assoc] at b3
  rw [← Nat.add_assoc, ← Nat.add_assoc] at b4
  have b2 := bs1 b2
  have b4 := bs1 b4
  obtain ⟨hw1, hl, w1, wn⟩ := d_kw (i := 6) (by decide) hA b1 (by rw [gl1]; exact b2) (by rw [gl1]; omega)
  rw [gl1] at hw1
  have hX6 : gFx T (si (si M 2 7 1) 2 5 0) := gFx_gr hA.1 (fun _ _ => rfl)
  obtain ⟨M1, c1, c2, c3⟩ := s_adv hX6 (cT_2 (j := 5) (x := 0) (cT_2 (j := 7) (x := 1) hw1))
  have hU0 : RU T (si (si M 2 7 1) 2 5 0) V nl nn a 1 k 0 := by
    obtain ⟨h1, h2, h3, h4, h5, h6, h7, h8, h9⟩ := hU
    have q2 : ∀ b j, b ≠ 2 → gi (si (si M 2 7 1) 2 5 0) b j = gi M b j := fun b j hb => by rw [gi_si, if_neg (fun q => hb q.1), gi_si, if_neg (fun q => hb q.1)]
    exact ⟨gDat_gr h1 (fun _ _ => rfl), fun b j hd => (q2 b j (by have := d5_no hd; omega)).trans (h2 b j hd), h3, h4, h5, h6, ⟨by rw [gi_si, if_neg (by omega), gi_si, if_neg (by omega)]; exact h7.1, by rw [gi_si, if_neg (by omega), gi_si, if_pos ⟨rfl, rfl⟩]; rfl⟩, by rw [gi_si, if_pos ⟨rfl, rfl⟩]; rfl, fun t ht => absurd ht (Nat.not_lt_zero t)⟩
  have hU1 := RU_t hU0 c3
  obtain ⟨M2, d1, d2, d3, d4⟩ := UP_all (k0 := 1) (rf := 9) (dp := 0) (l := bd) ht (by
    have := (wx (T := T) (B := B) (n := n) (V := V) (nl := nl) (nn := nn) (a := a) 3 9 0 0 t o bd hx ht (by omega) (by omega)).2.2
    have ho := (NX_lt hx).2.1
    unfold pr at this
    rw [if_neg (by omega)] at this
    exact this) c2 hU1 (sp1 b2) b3 ⟨0, 59, sp0, b4, sgn59, by decide, by omega, by decide⟩
  obtain ⟨M', f1, f2, f3⟩ := s_semi d2 b4 (by omega)
  refine ⟨by omega, hl, M2, M', ?_, f1, RT_of f2 (RU_t d3 f3), fz_trans (fz_trans (fz_trans (fz_si (fz_si fz_refl (Or.inl rfl)) (Or.inl rfl)) (fz_11 c3)) d4) (fz_11 f3)⟩
  unfold f_X5_readStatement f_X5_readStatement_92 f_X5_readWeight f_X5_readSum_c
  rw [r_2_0 hA.1, Option.bind_some, wn 1 (by decide) (by decide), Option.bind_some, if_pos rfl, Option.bind_some, wn 2 (by decide) (by decide), Option.bind_some, if_pos rfl, Option.bind_some, wn 3 (by decide) (by decide), Option.bind_some, if_pos rfl, Option.bind_some, wn 4 (by decide) (by decide), Option.bind_some, if_pos rfl, Option.bind_some, wn 5 (by decide) (by decide), Option.bind_some, if_pos rfl, Option.bind_some, w1, Option.bind_some, if_neg (by decide), hU.2.2.2.2.2.2.1.2, if_neg (show ¬ ¬ (nI 0 = (0 : Int32)) from fun z => z rfl), r_2_0 hX6, Option.bind_some, c1, Option.bind_some, show g_X5_readSum 10 T M1 2 (0 : Int32) = some (1, M2) from d1, Option.bind_some, chk_ok (Or.inr rfl), Option.bind_some, Option.bind_some, chk_ok (Or.inr rfl), Option.bind_some]
end PWX
