/-! RANDOM NODES -/
/-- a node of the law with its code and its text -/
def NT (P : Nat → Prop) (T : gT) (M : gM) (k : Nat → Nat × Nat) : Nat → Nat → Nat → Nat → Nat → List Nat → Prop
  | 0, _, _, _, _, _ => False
  | d + 1, e, s, t, o, bd => P e ∧ T[e]? = some (17, 0) ∧ ((t = s + 1 ∧ o = 3 ∧ gi M e 0 = nI (k s).1 ∧ gi M e 1 = nI (k s).2 ∧ (((k s).1 = 0 ∧ (k s).2 ≤ 9999 ∧ bd = dg (k s).2) ∨ ((k s).1 = 1 ∧ (k s).2 < 4 ∧ bd = gStrs.getD (9 + (k s).2) []))) ∨ ∃ f g u v o1 b1 o2 b2, t = v + 1 ∧ 2 ≤ (k v).1 ∧ (k v).1 ≤ 5 ∧ gi M e 0 = nI (k v).1 ∧ gr M e 2 = some f ∧ gr M e 3 = some g ∧ o = (if (k v).1 < 4 then 1 else 2) ∧ NT P T M k d f s u o1 b1 ∧ NT P T M k d g u v o2 b2 ∧ bd = pr o o1 b1 ++ opS (k v).1 ++ pr (o + 1) o2 b2)
section PNT
variable {P P' : Nat → Prop} {T T1 : gT} {M M1 N : gM} {k k' : Nat → Nat × Nat} {a c x y n : Nat}
theorem NT_lt : ∀ {d e s t o : Nat} {bd : List Nat}, NT P T M k d e s t o bd → s < t
  | 0, _, _, _, _, _ => fun h => h.elim
  | d + 1, e, s, t, o, bd => fun h => by
    rcases h.2.2 with ⟨h1, -⟩ | ⟨f, g, u, v, o1, b1, o2, b2, h1, h2, h3, h4, h5, h6, h7, h8, h9, -⟩
    · omega
    · have a1 := NT_lt h8
      have a2 := NT_lt h9
      omega
theorem NT_ke (hK : gKe P T M T1 M1) : ∀ {d e s t o : Nat} {bd : List Nat}, NT P T M k d e s t o bd → NT P T1 M1 k d e s t o bd
  | 0, _, _, _, _, _ => fun h => h.elim
  | d + 1, e, s, t, o, bd => fun ⟨hp, hs, h⟩ => by
    obtain ⟨k1, k2, k3⟩ := hK e hp _ hs
    refine ⟨hp, k1, ?_⟩
    rcases h with ⟨h1, h2, h3, h4, h5⟩ | ⟨f, g, u, v, o1, b1, o2, b2, h1, h2, h3, h4, h5, h6, h7, h8, h9, h10⟩
    · exact Or.inl ⟨h1, h2, (k2 0).trans h3, (k2 1).trans h4, h5⟩
    · exact Or.inr ⟨f, g, u, v, o1, b1, o2, b2, h1, h2, h3, (k2 0).trans h4, (k3 2).trans h5, (k3 3).trans h6, h7, NT_ke hK h8, NT_ke hK h9, h10⟩
theorem NT_P (hP : ∀ b, P b → P' b) : ∀ {d e s t o : Nat} {bd : List Nat}, NT P T M k d e s t o bd → NT P' T M k d e s t o bd
  | 0, _, _, _, _, _ => fun h => h.elim
  | d + 1, e, s, t, o, bd => fun ⟨hp, hs, h⟩ => ⟨hP e hp, hs, by
    rcases h with h | ⟨f, g, u, v, o1, b1, o2, b2, h1, h2, h3, h4, h5, h6, h7, h8, h9, h10⟩
    · exact Or.inl h
    · exact Or.inr ⟨f, g, u, v, o1, b1, o2, b2, h1, h2, h3, h4, h5, h6, h7, NT_P hP h8, NT_P hP h9, h10⟩⟩
theorem NT_kx : ∀ {d e s t o : Nat} {bd : List Nat}, (∀ i, s ≤ i → i < t → k' i = k i) → NT P T M k d e s t o bd → NT P T M k' d e s t o bd
  | 0, _, _, _, _, _ => fun _ h => h.elim
  | d + 1, e, s, t, o, bd => fun hk ⟨hp, hs, h⟩ => ⟨hp, hs, by
    rcases h with ⟨h1, h2, h3, h4, h5⟩ | ⟨f, g, u, v, o1, b1, o2, b2, h1, h2, h3, h4, h5, h6, h7, h8, h9, h10⟩
    · have e1 := hk s (Nat.le_refl _) (by omega)
      refine Or.inl ⟨h1, h2, ?_, ?_, ?_⟩
      · rw [e1]; exact h3
      · rw [e1]; exact h4
      · rw [e1]; exact h5
    · have l1 := NT_lt h8
      have l2 := NT_lt h9
      have e1 := hk v (by omega) (by omega)
      refine Or.inr ⟨f, g, u, v, o1, b1, o2, b2, h1, ?_, ?_, ?_, h5, h6, ?_, NT_kx (fun i q1 q2 => hk i q1 (by omega)) h8, NT_kx (fun i q1 q2 => hk i (by omega) (by omega)) h9, ?_⟩
      · rw [e1]; exact h2
      · rw [e1]; exact h3
      · rw [e1]; exact h4
      · rw [e1]; exact h7
      · rw [e1]; exact h10⟩
theorem NT_ND : ∀ {d e s t o : Nat} {bd : List Nat}, NT P T M k d e s t o bd → gND P T M k d e s t
  | 0, _, _, _, _, _ => fun h => h.elim
  | d + 1, e, s, t, o, bd => fun ⟨hp, hs, h⟩ => ⟨hp, hs, by
    rcases h with ⟨h1, h2, h3, h4, h5⟩ | ⟨f, g, u, v, o1, b1, o2, b2, h1, h2, h3, h4, h5, h6, h7, h8, h9, h10⟩
    · exact Or.inl ⟨h1, by omega, h3, h4⟩
    · exact Or.inr ⟨f, g, u, v, h1, h2, h3, h4, h5, h6, NT_ND h8, NT_ND h9⟩⟩
theorem NT_NX : ∀ {d e s t o : Nat} {bd : List Nat}, NT P T M k d e s t o bd → NX k d s t o bd
  | 0, _, _, _, _, _ => fun h => h.elim
  | d + 1, e, s, t, o, bd => fun ⟨hp, hs, h⟩ => by
    rcases h with ⟨h1, h2, h3, h4, h5⟩ | ⟨f, g, u, v, o1, b1, o2, b2, h1, h2, h3, h4, h5, h6, h7, h8, h9, h10⟩
    · exact Or.inl ⟨h1, h2, h5⟩
    · exact Or.inr ⟨u, v, o1, b1, o2, b2, h1, h2, h3, h7, NT_NX h8, NT_NX h9, h10⟩
/-- heights of its code -/
theorem NX_ok : ∀ {d s t o : Nat} {bd : List Nat}, NX k d s t o bd → wH k s + d ≤ 11 → wH k t = wH k s + 1 ∧ ∀ i, s ≤ i → i < t → wG k i
  | 0, _, _, _, _ => fun h => h.elim
  | d + 1, s, t, o, bd => fun h hd => by
    rcases h with ⟨h1, h2, h3⟩ | ⟨u, v, o1, b1, o2, b2, h1, h2, h3, h4, h5, h6, h7⟩
    · subst h1
      refine ⟨?_, fun i q1 q2 => ?_⟩
      · show (if (k s).1 < 2 then wH k s + 1 else wH k s - 1) = _
        rw [if_pos (by omega)]
      · rw [show i = s by omega]
        unfold wG
        rcases h3 with h3 | h3
        · exact Or.inl ⟨h3.1, h3.2.1, by omega⟩
        · exact Or.inr (Or.inl ⟨h3.1, h3.2.1, by omega⟩)
    · have l5 := (NX_lt h5).1
      have l6 := (NX_lt h6).1
      obtain ⟨a1, a2⟩ := NX_ok h5 (by omega)
      have hd6 : 1 ≤ d := by
        cases d with
        | zero => exact h5.elim
        | succ d => omega
      obtain ⟨c1, c2⟩ := NX_ok h6 (by omega)
      subst h1
      refine ⟨?_, fun i q1 q2 => ?_⟩
      · show (if (k v).1 < 2 then wH k v + 1 else wH k v - 1) = _
        rw [if_neg (by omega)]
        omega
      · by_cases e1 : i < u
        · exact a2 i q1 e1
        · by_cases e2 : i < v
          · exact c2 i (by omega) e2
          · rw [show i = v by omega]
            unfold wG
            exact Or.inr (Or.inr ⟨h2, h3, by omega⟩)
theorem gTo_rr {z w : Int32} (h : gTo T (si M 312 0 z) T1 M1 c) (hl : 312 < T.length) : gTo T (si M 312 0 w) T1 (si M1 312 0 w) c := ⟨h.1, fun b hb => by
  obtain ⟨p1, p2, p3⟩ := h.2.1 b hb
  refine ⟨fun j => ?_, p2, p3⟩
  rw [gi_si, gi_si]
  by_cases e : b = 312 ∧ j = 0
  · rw [if_pos e, if_pos e]
  · rw [if_neg e, if_neg e, p1 j, gi_si, if_neg e], h.2.2⟩
theorem gTo_r2 {T2 : gT} {M2 : gM} {z w : Int32} {d : Nat} (h : gTo T (si M 312 0 z) T1 M1 c) (hl : 312 < T.length) (h2 : gTo T1 (si M1 312 0 w) T2 M2 d) : gTo T (si M 312 0 w) T2 M2 (c + d) := gTo_tr (gTo_rr h hl) h2
theorem gTo_rs {z w : Int32} (h : gTo T (si M 312 0 z) T1 M1 c) (hl : 312 < T.length) (hw : N = si M1 312 0 w) : gTo T (si M 312 0 w) T1 N c := by
  rw [hw]
  exact gTo_rr h hl
/-- the node's kind and number -/
theorem nd_pre {rec : gRecT_X11_random} {dp : Nat} (hd : dp ≤ 2) (hl : 313 ≤ T.length) (hT : T.length + 1 ≤ 900000) : ∃ v w N z, v < 6 ∧ (dp = 0 → v < 2) ∧ (v = 0 → w ≤ 9999) ∧ (v ≠ 0 → w < 4) ∧ f_X11_random rec T M 312 (nI dp) = cadd 1 4 (f_X11_random_67 rec (T ++ [(17, 0)]) N 312 (nI dp) T.length T.length (nI w)) ∧ gTo T (si M 312 0 z) (T ++ [(17, 0)]) N 1 ∧ gi N T.length 0 = nI v := by
  have g1 : gTo T M (T ++ [(17, 0)]) (zr M T.length) 1 := gTo_new
  have n1 := gnew_ok (T := T) (M := M) (sh := (17, 0)) (by omega)
  have g1r : ∀ z, gTo T (si M 312 0 z) (T ++ [(17, 0)]) (si (zr M T.length) 312 0 z) 1 := fun z => ⟨g1.1, fun b hb => by
    obtain ⟨p1, p2, p3⟩ := g1.2.1 b hb
    refine ⟨fun j => ?_, p2, p3⟩
    rw [gi_si, gi_si]
    by_cases e : b = 312 ∧ j = 0
    · rw [if_pos e, if_pos e]
    · rw [if_neg e, if_neg e, p1 j], g1.2.2⟩
  generalize zr M T.length = M1 at n1 g1 g1r
  generalize hTT : T ++ [((17 : Nat), (0 : Nat))] = T1 at n1 g1 g1r ⊢
  -- the kind
  have hkind : ∃ v z, v < 6 ∧ (dp = 0 → v < 2) ∧ f_X11_random rec T M 312 (nI dp) = cadd 1 4 (f_X11_random_27 rec T1 (si M1 312 0 z) 312 (nI dp) T.length T.length (nI v)) := by
    unfold f_X11_random f_X11_init
    rw [n1, Option.bind_some]
    dsimp only
    rw [Option.bind_some]
    by_cases h0 : dp = 0
    · obtain ⟨v, x, h1, h2⟩ := below_ok (T := T1) (M := M1) (rr := 312) (b := 2) (by decide) (by decide)
      refine ⟨v, x, by omega, fun _ => h1, ?_⟩
      rw [if_neg (show ¬ ¬ nI dp = 0 from fun z => z (by rw [h0]; rfl)), show f_X12_below T1 M1 312 (2 : Int32) = _ from h2, Option.bind_some]
    · obtain ⟨v, x, h1, h2⟩ := below_ok (T := T1) (M := M1) (rr := 312) (b := 6) (by decide) (by decide)
      refine ⟨v, x, h1, fun z => absurd z h0, ?_⟩
      rw [if_pos (show ¬ nI dp = 0 from fun z => h0 ((nI_eq (b := 0) (by omega) (by decide)).mp z)), show f_X12_below T1 M1 312 (6 : Int32) = _ from h2, Option.bind_some]
  obtain ⟨v, z, hv6, hv2, he⟩ := hkind
  have G2 := gTo_si (a := T.length) (k := 0) (x := nI v) (g1r z) (Nat.le_refl _)
  have hk : gi (si (si M1 312 0 z) T.length 0 (nI v)) T.length 0 = nI v := by rw [gi_si, if_pos ⟨rfl, rfl⟩]
  by_cases hv0 : v = 0
  · obtain ⟨u, x2, h1, h2⟩ := below_ok (T := T1) (M := si (si M1 312 0 z) T.length 0 (nI v)) (rr := 312) (b := 8) (by decide) (by decide)
    have G3 := gTo_rr (w := x2) G2 (by omega)
    have k3 : gi (si (si (si M1 312 0 z) T.length 0 (nI v)) 312 0 x2) T.length 0 = nI v := by rw [gi_si, if_neg (by omega)]; exact hk
    by_cases hu : u = 0
    · obtain ⟨w, x3, h3, h4⟩ := below_ok (T := T1) (M := si (si (si M1 312 0 z) T.length 0 (nI v)) 312 0 x2) (rr := 312) (b := 10000) (by decide) (by decide)
      refine ⟨v, w, _, x3, hv6, hv2, fun _ => by omega, fun q => absurd hv0 q, ?_, gTo_rr (w := x3) G3 (by omega), by rw [gi_si, if_neg (by omega)]; exact k3⟩
      rw [he]
      congr 1
      unfold f_X11_random_27 f_X11_random_56
      rw [hk, if_neg (show ¬ ¬ nI v = 0 from fun q => q (by rw [hv0]; rfl)), show f_X12_below T1 _ 312 (8 : Int32) = _ from h2, Option.bind_some]
      dsimp only
      rw [if_neg (show ¬ ¬ nI u = 0 from fun q => q (by rw [hu]; rfl)), show f_X12_below T1 _ 312 (10000 : Int32) = _ from h4, Option.bind_some]
    · obtain ⟨w, x3, h3, h4⟩ := below_ok (T := T1) (M := si (si (si M1 312 0 z) T.length 0 (nI v)) 312 0 x2) (rr := 312) (b := 9) (by decide) (by decide)
      refine ⟨v, w, _, x3, hv6, hv2, fun _ => by omega, fun q => absurd hv0 q, ?_, gTo_rr (w := x3) G3 (by omega), by rw [gi_si, if_neg (by omega)]; exact k3⟩
      rw [he]
      congr 1
      unfold f_X11_random_27 f_X11_random_56
      rw [hk, if_neg (show ¬ ¬ nI v = 0 from fun q => q (by rw [hv0]; rfl)), show f_X12_below T1 _ 312 (8 : Int32) = _ from h2, Option.bind_some]
      dsimp only
      rw [if_pos (show ¬ nI u = 0 from fun q => hu ((nI_eq (b := 0) (by omega) (by decide)).mp q)), show f_X12_below T1 _ 312 (9 : Int32) = _ from h4, Option.bind_some]
  · obtain ⟨w, x2, h1, h2⟩ := below_ok (T := T1) (M := si (si M1 312 0 z) T.length 0 (nI v)) (rr := 312) (b := 4) (by decide) (by decide)
    refine ⟨v, w, _, x2, hv6, hv2, fun q => absurd q hv0, fun _ => h1, ?_, gTo_rr (w := x2) G2 (by omega), by rw [gi_si, if_neg (by omega)]; exact hk⟩
    rw [he]
    congr 1
    unfold f_X11_random_27
    rw [hk, if_pos (show ¬ nI v = 0 from fun q => hv0 ((nI_eq (b := 0) (by omega) (by decide)).mp q)), show f_X12_below T1 _ 312 (4 : Int32) = _ from h2, Option.bind_some]
theorem nd_rand : ∀ (dp n : Nat) (T : gT) (M : gM) (s : Nat), dp < n → dp ≤ 2 → 313 ≤ T.length → T.length + 2 ^ (dp + 1) ≤ 900000 → ∃ T' M' c sl z k t o bd, g_X11_random n T M 312 (nI dp) = some ((T.length, T', M'), c, sl) ∧ gTo T (si M 312 0 z) T' M' c ∧ c + 1 ≤ 2 ^ (dp + 1) ∧ sl ≤ 4 * c ∧ NT (fun b => T.length ≤ b) T' M' k (dp + 1) T.length s t o bd ∧ t ≤ s + c ∧ bd.length + 7 ≤ 14 * 2 ^ dp := by
  intro dp
  induction dp with
  | zero =>
    intro n T M s hn hd hl hT
    obtain ⟨n, rfl⟩ : ∃ q, n = q + 1 := ⟨n - 1, by omega⟩
    obtain ⟨v, w, N, z, h1, h2, h3, h4, h5, h6, h7⟩ := nd_pre (rec := g_X11_random n) (M := M) (dp := 0) hd hl (by omega)
    have hv := h2 rfl
    have s1 : (T ++ [((17 : Nat), (0 : Nat))])[T.length]? = some (17, 0) := sh_new
    have ek : gi (si N T.length 1 (nI w)) T.length 0 = nI v := by rw [gi_si, if_neg (by omega)]; exact h7
    refine ⟨_, _, 1 + 0, 4 + 0, z, fun _ => (v, w), s + 1, 3, if v = 0 then dg w else gStrs.getD (9 + w) [], ?_, gTo_si (a := T.length) (k := 1) (x := nI w) h6 (Nat.le_refl _), by decide, by decide, ⟨Nat.le_refl _, s1, Or.inl ⟨rfl, rfl, ek, by rw [gi_si, if_pos ⟨rfl, rfl⟩], ?_⟩⟩, Nat.le_refl _, ?_⟩
    · show f_X11_random (g_X11_random n) T M 312 (nI 0) = _
      rw [h5]
      unfold f_X11_random_67
      rw [ek, if_pos (show nI v ≤ (1 : Int32) from nI_le (b := 1) (by omega) (by decide)), cadd_some]
    · by_cases e : v = 0
      · exact Or.inl ⟨e, h3 e, if_pos e⟩
      · exact Or.inr ⟨by show v = 1; omega, h4 e, if_neg e⟩
    · by_cases e : v = 0
      · rw [if_pos e]
        have := (dg_ok (h3 e)).2
        omega
      · rw [if_neg e]
        have q : ∀ w, w < 4 → (gStrs.getD (9 + w) []).length ≤ 7 := by decide +kernel
        have := q w (h4 e)
        omega
  | succ dp ih =>
    intro n T M s hn hd hl hT
    obtain ⟨n, rfl⟩ : ∃ q, n = q + 1 := ⟨n - 1, by omega⟩
    have hpow : 2 ^ (dp + 1 + 1) = 2 ^ (dp + 1) + 2 ^ (dp + 1) := by rw [Nat.pow_succ]; omega
    have hpow2 : 2 ^ (dp + 1) = 2 ^ dp + 2 ^ dp := by rw [Nat.pow_succ]; omega
    have hp1 : 1 ≤ 2 ^ dp := Nat.one_le_two_pow
    obtain ⟨v, w, N, z, h1, h2, h3, h4, h5, h6, h7⟩ := nd_pre (rec := g_X11_random n) (M := M) (dp := dp + 1) hd hl (by omega)
    have s1 : (T ++ [((17 : Nat), (0 : Nat))])[T.length]? = some (17, 0) := sh_new
    have ek : gi (si N T.length 1 (nI w)) T.length 0 = nI v := by rw [gi_si, if_neg (by omega)]; exact h7
    have G1 := gTo_si (a := T.length) (k := 1) (x := nI w) h6 (Nat.le_refl _)
    have l1 : (T ++ [((17 : Nat), (0 : Nat))]).length = T.length + 1 := len_1
    have hgo : g_X11_random (n + 1) T M 312 (nI (dp + 1)) = cadd 1 4 (f_X11_random_67 (g_X11_random n) (T ++ [(17, 0)]) N 312 (nI (dp + 1)) T.length T.length (nI w)) := h5
    by_cases hv : v ≤ 1
    · refine ⟨_, _, 1 + 0, 4 + 0, z, fun _ => (v, w), s + 1, 3, if v = 0 then dg w else gStrs.getD (9 + w) [], ?_, G1, by omega, by decide, ⟨Nat.le_refl _, s1, Or.inl ⟨rfl, rfl, ek, by rw [gi_si, if_pos ⟨rfl, rfl⟩], ?_⟩⟩, Nat.le_refl _, ?_⟩
      · rw [hgo]
        unfold f_X11_random_67
        rw [ek, if_pos (show nI v ≤ (1 : Int32) from nI_le (b := 1) (by omega) (by decide)), cadd_some]
      · by_cases e : v = 0
        · exact Or.inl ⟨e, h3 e, if_pos e⟩
        · exact Or.inr ⟨by show v = 1; omega, h4 e, if_neg e⟩
      · by_cases e : v = 0
        · rw [if_pos e]
          have := (dg_ok (h3 e)).2
          omega
        · rw [if_neg e]
          have q : ∀ w, w < 4 → (gStrs.getD (9 + w) []).length ≤ 7 := by decide +kernel
          have := q w (h4 e)
          omega
    · generalize hTT : T ++ [((17 : Nat), (0 : Nat))] = T1 at s1 G1 l1 hgo
      generalize hNN : si N T.length 1 (nI w) = N1 at ek G1
      obtain ⟨T2, M2, c2, sl2, z2, k2, t2, o2, b2, d1, d2, d3, d4, d5, d6, d7⟩ := ih n T1 N1 s (by omega) (by omega) (by omega) (by omega)
      have s2 := gTo_sh d2 s1
      have l2 := d2.2.2
      have kd2 : gkd T2 T1.length 17 = some () := gkd_ok d5.2.1
      have hsr : ∀ {q : Option Nat}, gTo T1 (si N1 312 0 z2) T2 M2 c2 → True := fun _ => trivial
      have G2 : gTo T (si M 312 0 z2) T2 M2 (1 + c2) := gTo_r2 G1 (by omega) d2
      have G2' := gTo_sr (a := T.length) (k := 2) (x := some T1.length) G2 (Nat.le_refl _)
      obtain ⟨T3, M3, c3, sl3, z3, k3, t3, o3, b3, e1, e2, e3, e4, e5, e6, e7⟩ := ih n T2 (sr M2 T.length 2 (some T1.length)) t2 (by omega) (by omega) (by omega) (by omega)
      have s3 := gTo_sh e2 s2
      have l3 := e2.2.2
      have G3 : gTo T (si M 312 0 z3) T3 M3 (1 + c2 + c3) := gTo_r2 G2' (by omega) e2
      have G4 := gTo_sr (a := T.length) (k := 3) (x := some T2.length) G3 (Nat.le_refl _)
      have lt2 := NT_lt d5
      have lt3 := NT_lt e5
      -- the left tree stands
      have hK : gKe (fun b => T1.length ≤ b) T2 M2 T3 (sr M3 T.length 3 (some T2.length)) := fun b hb x hx => by
        have hbl := sh_lt hx
        refine ⟨gTo_sh e2 hx, fun j => ?_, fun j => ?_⟩
        · rw [gi_sr, gTo_gi e2 hx, gi_si, if_neg (by omega), gi_sr]
        · rw [gr_sr, if_neg (by omega), gTo_gr e2 hx]
          show gr (sr M2 T.length 2 (some T1.length)) b j = _
          rw [gr_sr, if_neg (by omega)]
      have hK3 : gKe (fun b => T2.length ≤ b) T3 M3 T3 (sr M3 T.length 3 (some T2.length)) := fun b hb x hx => ⟨hx, fun j => by rw [gi_sr], fun j => by rw [gr_sr, if_neg (by omega)]⟩
      have tl := NT_P (P' := fun b => T.length ≤ b) (fun b hb => by omega) (NT_ke hK d5)
      have tr := NT_P (P' := fun b => T.length ≤ b) (fun b hb => by omega) (NT_ke hK3 e5)
      have tl' := NT_kx (k' := fun i => if i < t2 then k2 i else if i < t3 then k3 i else (v, 0)) (fun i q1 q2 => if_pos q2) tl
      have tr' := NT_kx (k' := fun i => if i < t2 then k2 i else if i < t3 then k3 i else (v, 0)) (fun i q1 q2 => by rw [if_neg (by omega), if_pos q2]) tr
      have kv : (fun i => if i < t2 then k2 i else if i < t3 then k3 i else (v, 0)) t3 = (v, 0) := by
        show (if t3 < t2 then k2 t3 else if t3 < t3 then k3 t3 else (v, 0)) = (v, 0)
        rw [if_neg (by omega), if_neg (by omega)]
      have hke : gi (sr M3 T.length 3 (some T2.length)) T.length 0 = nI v := by
        rw [gi_sr, gTo_gi e2 s2, gi_si, if_neg (by omega), gi_sr, gTo_gi d2 s1, gi_si, if_neg (by omega)]
        exact ek
      refine ⟨T3, sr M3 T.length 3 (some T2.length), 1 + (c2 + (c3 + 0)), 4 + (sl2 + (sl3 + 0)), z3, fun i => if i < t2 then k2 i else if i < t3 then k3 i else (v, 0), t3 + 1, if v < 4 then 1 else 2, pr (if v < 4 then 1 else 2) o2 b2 ++ opS v ++ pr ((if v < 4 then 1 else 2) + 1) o3 b3, ?_, gTo_c G4 (by omega), by omega, by omega, ⟨Nat.le_refl _, s3, Or.inr ⟨T1.length, T2.length, t2, t3, o2, b2, o3, b3, rfl, by rw [kv]; show 2 ≤ v; omega, by rw [kv]; show v ≤ 5; omega, by rw [kv]; exact hke, ?_, by rw [gr_sr, if_pos ⟨rfl, rfl⟩], by rw [kv], tl', tr', by rw [kv]⟩⟩, by omega, ?_⟩
      · rw [hgo]
        unfold f_X11_random_67
        rw [hNN, ek, if_neg (show ¬ nI v ≤ (1 : Int32) from nI_ge (a := 1) (by omega) (by omega)), show nI (dp + 1) - (1 : Int32) = nI dp from (pk_sub (a := dp + 1) (b := 1) (by omega)).trans (by rw [Nat.add_sub_cancel]), d1, Option.bind_some]
        dsimp only
        rw [kd2, Option.bind_some, e1, Option.bind_some]
        dsimp only
        rw [gkd_ok e5.2.1, Option.bind_some]
        simp only [cadd_some]
      · rw [gr_sr, if_neg (by omega), gTo_gr e2 s2]
        show gr (sr M2 T.length 2 (some T1.length)) T.length 2 = _
        rw [gr_sr, if_pos ⟨rfl, rfl⟩]
      · have hop : ∀ v, v < 6 → (opS v).length ≤ 7 := by decide +kernel
        have hop3 : ∀ v, v < 6 → 2 ≤ v → (opS v).length ≤ 3 := by decide +kernel
        have hpr : ∀ lv o bd, (pr lv o bd).length ≤ bd.length + 2 := fun lv o bd => by
          unfold pr
          split
          · rw [List.length_append, List.length_append, show (gStrs.getD 32 []).length = 1 by decide +kernel, show (gStrs.getD 33 []).length = 1 by decide +kernel]
            omega
          · omega
        have q1 := hpr (if v < 4 then 1 else 2) o2 b2
        have q2 := hpr ((if v < 4 then 1 else 2) + 1) o3 b3
        have q3 := hop3 v h1 (by omega)
        rw [List.length_append, List.length_append]
        omega
end PNT
