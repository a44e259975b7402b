/-! BUILDERS: what is put behind what they hold -/
section PBB
variable {T T0 T1 : gT} {M M0 M1 N : gM} {s v a q i x c c0 k cap need n y : Nat} {l w : List Nat}
/-- what a builder's step leaves: base things stand, and all but the builder and its row -/
def bK (T : gT) (M : gM) (q a c : Nat) (T' : gT) (M' : gM) : Prop := T'.length = T.length + c ∧ (∀ (T0 : gT) (M0 : gM) (c0 : Nat), gTo T0 M0 T M c0 → T0.length = q → gTo T0 M0 T' M' (c0 + c))
theorem b_cap (hb : bT T M q a l cap) (hn : need ≤ 200) (hT : T.length + 1 ≤ 900000) (hq : q ≤ T.length) : ∃ T' M' c s cap', f_J5_ensureCapacityInternal_d00df T M a (nI need) = some ((T', M'), c, s) ∧ c ≤ 1 ∧ s ≤ 402 ∧ bT T' M' q a l cap' ∧ need ≤ cap' ∧ bK T M q a c T' M' ∧ ∀ b, b ≠ a → ∀ x, T[b]? = some x → T'[b]? = some x ∧ (∀ j, gi M' b j = gi M b j) ∧ ∀ j, gr M' b j = gr M b j := by
  obtain ⟨v, ⟨h0, h0'⟩, a1, a2, a3, a4, a5, ⟨a6, a6', a6''⟩, a7, a8⟩ := hb
  unfold f_J5_ensureCapacityInternal_d00df
  rw [ldr_ok a2 a3, Option.bind_some, alen_of a3, a4, show Int32.ofNat cap = nI cap from rfl, shr0]
  have hle : nI need - nI cap ≤ 0 ↔ need ≤ cap := by
    rw [Int32.le_iff_toInt_le, pk_sub_toInt (by omega) (by omega), show (0 : Int32).toInt = 0 from rfl]
    omega
  by_cases h : need ≤ cap
  · rw [if_pos (hle.mpr h)]
    exact ⟨T, M, 0, 0, cap, rfl, by omega, by omega, ⟨v, ⟨h0, h0'⟩, a1, a2, a3, a4, a5, ⟨a6, a6', a6''⟩, a7, a8⟩, h, ⟨rfl, fun _ _ _ g _ => g⟩, fun b _ x hx => ⟨hx, fun _ => rfl, fun _ => rfl⟩⟩
  · have lv := sh_lt a3
    have la := sh_lt a1
    have hnc : f_J5_newCapacity_0f7a4 T M a (nI need) = some (nI (cap + max (need - cap) (cap + 2))) := by
      unfold f_J5_newCapacity_0f7a4 f_J8_newLength_cabcc
      have e1 : nI cap + imax (nI need - nI cap) (nI cap + (2 : Int32)) = nI (cap + max (need - cap) (cap + 2)) := by
        rw [pk_sub (by omega), show (2 : Int32) = nI 2 from rfl, nI_add, imax_nI (by omega) (by omega), nI_add]
      rw [ldr_ok a2 a3, Option.bind_some, alen_of a3, a4, show Int32.ofNat cap = nI cap from rfl, shl0, shl0, e1, if_neg (show ¬ nI (cap + max (need - cap) (cap + 2)) ≤ 0 from nI_nle (by omega) (by omega)), if_neg (show ¬ (2147483639 : Int32) < nI (cap + max (need - cap) (cap + 2)) from nI_nlt (a := 2147483639) (by omega) (by decide)), Option.bind_some, if_pos (show ¬ nI (cap + max (need - cap) (cap + 2)) = (2147483647 : Int32) from fun z => by have := (nI_eq (b := 2147483647) (by omega) (by decide)).mp z; omega), shr0]
    generalize hcc : cap + max (need - cap) (cap + 2) = nc at hnc
    have hnc2 : need ≤ nc ∧ nc ≤ 402 ∧ cap < nc := by omega
    have g1 : gTo T M (T ++ [(10, nc)]) (zr M T.length) 1 := gTo_new
    have s1 : (T ++ [((10 : Nat), nc)])[T.length]? = some (10, nc) := sh_new
    have l1 : (T ++ [((10 : Nat), nc)]).length = T.length + 1 := len_1
    have z1 : ∀ j, gi (zr M T.length) T.length j = 0 := fun j => by rw [gi_zr, if_pos rfl]
    have n1 := gnewa_ok (T := T) (M := M) (kd := 10) (n := nc) (by omega) (by omega)
    generalize T ++ [((10 : Nat), nc)] = T2 at g1 s1 l1 n1
    generalize zr M T.length = M2 at g1 n1 z1
    have a3' := gTo_sh g1 a3
    have hcp : acpb T2 M2 v (0 : Int32) T.length (0 : Int32) (nI cap) = some (cpi M2 v 0 T.length 0 cap) := by
      unfold acpb
      rw [show (0 : Int32).toNatClampNeg = 0 from rfl, nI_clamp (show cap < 2 ^ 31 by omega), alen_of a3', alen_of s1, if_neg]
      rintro (z | z | z | z | z | z)
      · exact absurd z (by decide)
      · exact absurd z (by decide)
      · exact nI_pos (by omega) z
      · omega
      · omega
      · refine z (fun j hj => ?_)
        rw [Nat.zero_add, gTo_gi g1 a3]
        by_cases hjl : j < l.length
        · rw [(a8 j hjl).2]
          exact (ch_ok _ (a8 j hjl).1).2.2.2.1
        · rw [a7 j (by omega) hj]
          decide
    have hco : f_J7_copyOf_9075b T M v (nI nc) = some ((T.length, T2, cpi M2 v 0 T.length 0 cap), 1, nc) := by
      unfold f_J7_copyOf_9075b
      rw [alen_of a3, if_pos (show ¬ nI nc = Int32.ofNat cap from fun z => by have := (nI_eq (b := cap) (by omega) (by omega)).mp z; omega), n1, Option.bind_some]
      dsimp only
      rw [alen_of a3', show Int32.ofNat cap = nI cap from rfl, imin_nI (by omega) (by omega), Nat.min_eq_left (by omega), hcp, Option.bind_some, nI_clamp (by omega)]
      rfl
    rw [if_neg (fun z => h (hle.mp z)), Option.bind_some, hnc, Option.bind_some, shl0, hco, Option.bind_some]
    dsimp only
    rw [gkd_ok s1, Option.bind_some, cadd_some]
    have hk : ∀ b, b ≠ a → ∀ x, T[b]? = some x → T2[b]? = some x ∧ (∀ j, gi (sr (cpi M2 v 0 T.length 0 cap) a 0 (some T.length)) b j = gi M b j) ∧ ∀ j, gr (sr (cpi M2 v 0 T.length 0 cap) a 0 (some T.length)) b j = gr M b j := fun b hb x hx => by
      have lb := sh_lt hx
      refine ⟨gTo_sh g1 hx, fun j => ?_, fun j => ?_⟩
      · rw [gi_sr, gi_cpi, if_neg (by omega)]
        exact gTo_gi g1 hx j
      · rw [gr_sr, if_neg (by omega)]
        exact gTo_gr g1 hx j
    have hia : ∀ j, gi (sr (cpi M2 v 0 T.length 0 cap) a 0 (some T.length)) a j = gi M a j := fun j => by
      rw [gi_sr, gi_cpi, if_neg (by omega)]
      exact gTo_gi g1 a1 j
    refine ⟨T2, sr (cpi M2 v 0 T.length 0 cap) a 0 (some T.length), 1, nc + 0, nc, rfl, by omega, by omega, ⟨T.length, ⟨h0, hq⟩, gTo_sh g1 a1, by rw [gr_sr, if_pos ⟨rfl, rfl⟩], s1, (hia 1).trans a4, (hia 3).trans a5, by omega, fun j h1 h2 => ?_, fun j hj => ⟨(a8 j hj).1, ?_⟩⟩, by omega, ⟨l1, fun T0 M0 c0 g e => ?_⟩, hk⟩
    · rw [gi_sr, gi_cpi]
      by_cases hjc : j < cap
      · rw [if_pos ⟨rfl, by omega, by omega⟩, Nat.sub_zero, Nat.zero_add, gTo_gi g1 a3]
        exact a7 j h1 hjc
      · rw [if_neg (by omega)]
        exact z1 j
    · rw [gi_sr, gi_cpi, if_pos ⟨rfl, by omega, by omega⟩, Nat.sub_zero, Nat.zero_add, gTo_gi g1 a3]
      exact (a8 j hj).2
    · have G := gTo_tr g g1
      refine gTo_sr (a := a) (k := 0) (x := some T.length) ⟨G.1, fun b hb => ?_, G.2.2⟩ (by omega)
      obtain ⟨p1, p2, p3⟩ := G.2.1 b hb
      have := gExt_lt g.1
      exact ⟨fun j => by rw [gi_cpi, if_neg (by omega)]; exact p1 j, p2, p3⟩
/-- a write into the builder's row, and its count -/
theorem b_put (hb : bT T M q a l cap) (hl : l.length + w.length ≤ cap) (h2 : l.length + w.length ≤ 200) (hw : ∀ j, j < w.length → w.getD j 0 < 128) (hv : gr M a 0 = some v) (g1 : ∀ b j, gr N b j = gr M b j) (g2 : ∀ b j, gl N b j = gl M b j) (g3 : ∀ b j, ¬ (b = v ∧ l.length ≤ j ∧ j < l.length + w.length) → gi N b j = gi M b j) (g4 : ∀ j, j < w.length → gi N v (l.length + j) = nI (w.getD j 0)) : bT T (si N a 3 (nI (l.length + w.length))) q a (l ++ w) cap ∧ bK T M q a 0 T (si N a 3 (nI (l.length + w.length))) := by
  obtain ⟨v', ⟨h0, h0'⟩, a1, a2, a3, a4, a5, ⟨a6, a6', a6''⟩, a7, a8⟩ := hb
  cases a2.symm.trans hv
  have hne : v ≠ a := fun z => by
    rw [z] at a3
    cases a1.symm.trans a3
  have hlen : (l ++ w).length = l.length + w.length := List.length_append
  have gv : ∀ j, gi (si N a 3 (nI (l.length + w.length))) v j = gi N v j := fun j => by rw [gi_si, if_neg (fun z => hne z.1)]
  refine ⟨⟨v, ⟨h0, h0'⟩, a1, (g1 a 0).trans a2, a3, ?_, ?_, ⟨by omega, a6', by omega⟩, fun j h1 h3 => ?_, fun j hj => ?_⟩, rfl, fun T0 M0 c0 g e => ?_⟩
  · rw [gi_si, if_neg (by omega), g3 a 1 (fun z => hne z.1.symm)]
    exact a4
  · rw [gi_si, if_pos ⟨rfl, rfl⟩, hlen]
  · rw [gv, g3 v j (by omega)]
    exact a7 j (by omega) h3
  · by_cases hjl : j < l.length
    · rw [gd_l hjl, gv, g3 v j (by omega)]
      exact a8 j hjl
    · obtain ⟨i, rfl⟩ : ∃ i, j = l.length + i := ⟨j - l.length, by omega⟩
      rw [gd_r, gv, g4 i (by omega)]
      exact ⟨hw i (by omega), rfl⟩
  · refine gTo_si (a := a) (k := 3) ⟨g.1, fun b hb => ?_, g.2.2⟩ (by omega)
    obtain ⟨p1, p2, p3⟩ := g.2.1 b hb
    exact ⟨fun j => (g3 b j (by omega)).trans (p1 j), fun j => (g2 b j).trans (p2 j), fun j => (g1 b j).trans (p3 j)⟩
theorem bK_tr {c d : Nat} (h : bK T M q a c T0 M0) (k : bK T0 M0 q a d T1 M1) : bK T M q a (c + d) T1 M1 := ⟨by rw [k.1, h.1]; omega, fun T9 M9 c9 g e => gTo_c (k.2 T9 M9 _ (h.2 T9 M9 c9 g e) e) (by omega)⟩
theorem bT_kd (h : bT T M q a l cap) : gkd T a 20 = some () := by
  obtain ⟨v, h0, a1, -⟩ := h
  exact gkd_ok a1
/-- a string -/
theorem b_str (hb : bT T M q a l cap) (hs : sS T M s w) (hl : l.length + w.length ≤ 200) (hT : T.length + 1 ≤ 900000) (hq : q ≤ T.length) : ∃ T' M' c s' cap', f_J4_append_15ec4 T M a s = some ((a, T', M'), c, s') ∧ c ≤ 1 ∧ s' ≤ 402 ∧ bT T' M' q a (l ++ w) cap' ∧ bK T M q a c T' M' := by
  have e5 : gi M a 3 = nI l.length := by
    obtain ⟨v, h0, a1, a2, a3, a4, a5, -⟩ := hb
    exact a5
  have ha : T[a]? = some (20, 0) := by
    obtain ⟨v, h0, a1, -⟩ := hb
    exact a1
  obtain ⟨T1, M1, c, s1, cap1, c1, c2, c3, c4, c5, c6, c7⟩ := b_cap (need := l.length + w.length) hb hl hT hq
  have hs1 : sS T1 M1 s w := by
    refine sS_to hs (fun b hbb x hx => c7 b (fun z => ?_) x hx)
    rw [z] at hbb
    rcases hbb with hz | ⟨y, hy⟩
    · obtain ⟨-, ⟨v, d1, -⟩ | ⟨i, hi, hsi, -⟩⟩ := hs
      · rw [← hz] at d1
        cases d1.symm.trans ha
      · have h1 := sh_lt ha
        have h2 : gSB = 1000000 := rfl
        omega
    · cases hy.symm.trans ha
  have c4' := c4
  obtain ⟨v, h0, a1, a2, a3, a4, a5, a6, a7, a8⟩ := c4'
  obtain ⟨N, n1, n2, n3, n4, n5⟩ := sS_get (q := l.length) (by have := c6.1; omega) hs1 a3 c5 (by omega)
  obtain ⟨p1, p2⟩ := b_put (w := w) c4 c5 hl hs.1.2 a2 n2 n3 n4 n5
  have hv3 : gi N a 3 = nI l.length := by
    rw [n4 a 3 (fun z => by rw [← z.1] at a3; cases a1.symm.trans a3)]
    exact a5
  refine ⟨T1, _, c + (0 + 0), s1 + (0 + 0), cap1, ?_, by omega, by omega, p1, by have := bK_tr c6 p2; exact ⟨this.1, fun T9 M9 c9 g e => gTo_c (this.2 T9 M9 c9 g e) rfl⟩⟩
  unfold f_J4_append_15ec4 f_J5_append_cf1ce f_J5_putStringAt_47b60 f_J5_inflateIfNeededFor_a7421
  rw [sS_len (by omega) hs, Option.bind_some, e5, nI_add, c1, Option.bind_some]
  dsimp only
  rw [sS_cod (by have := c6.1; omega) hs1, Option.bind_some, a4, if_pos rfl, Option.bind_some, ldr_ok a2 a3, Option.bind_some, a5, n1, Option.bind_some, Option.bind_some, hv3, nI_add, cadd_some, Option.bind_some]
  dsimp only
  rw [gkd_ok a1, Option.bind_some, cadd_some]
/-- a letter -/
theorem b_chr (hb : bT T M q a l cap) (hx : x < 128) (hl : l.length + 1 ≤ 200) (hT : T.length + 1 ≤ 900000) (hq : q ≤ T.length) : ∃ T' M' c s' cap', f_J4_append_cf468 T M a (nI x) = some ((a, T', M'), c, s') ∧ c ≤ 1 ∧ s' ≤ 402 ∧ bT T' M' q a (l ++ [x]) cap' ∧ bK T M q a c T' M' := by
  have e5 : gi M a 3 = nI l.length := by
    obtain ⟨v, h0, a1, a2, a3, a4, a5, -⟩ := hb
    exact a5
  obtain ⟨T1, M1, c, s1, cap1, c1, c2, c3, c4, c5, c6, c7⟩ := b_cap (need := l.length + 1) hb hl hT hq
  have c4' := c4
  obtain ⟨v, h0, a1, a2, a3, a4, a5, a6, a7, a8⟩ := c4'
  obtain ⟨q1, q2, q3, q4, q5⟩ := ch_ok x hx
  have hne : v ≠ a := fun z => by rw [z] at a3; cases a1.symm.trans a3
  obtain ⟨p1, p2⟩ := b_put (w := [x]) (N := si M1 v l.length (nI x)) c4 c5 hl (fun j hj => by simp at hj; subst hj; exact hx) a2 (fun _ _ => rfl) (fun _ _ => rfl) (fun b j h => by rw [gi_si, if_neg (fun z => h ⟨z.1, by omega, by simp; omega⟩)]) (fun j hj => by
    simp at hj
    subst hj
    rw [gi_si, if_pos ⟨rfl, rfl⟩]
    rfl)
  have hsw : si (si M1 a 3 (nI (l.length + 1))) v l.length (nI x) = si (si M1 v l.length (nI x)) a 3 (nI (l.length + 1)) := by
    unfold si
    refine Prod.ext ?_ rfl
    funext b j
    show (if b = v ∧ j = l.length then nI x else if b = a ∧ j = 3 then nI (l.length + 1) else M1.1 b j) = (if b = a ∧ j = 3 then nI (l.length + 1) else if b = v ∧ j = l.length then nI x else M1.1 b j)
    by_cases h1 : b = v ∧ j = l.length
    · rw [if_pos h1, if_neg (fun z => hne (h1.1.symm.trans z.1)), if_pos h1]
    · rw [if_neg h1, if_neg h1]
  refine ⟨T1, _, c + (0 + 0), s1 + (0 + 0), cap1, ?_, by omega, by omega, p1, by have := bK_tr c6 p2; exact ⟨this.1, fun T9 M9 c9 g e => gTo_c (this.2 T9 M9 c9 g e) rfl⟩⟩
  unfold f_J4_append_cf468 f_J5_append_3fe6f f_J5_isLatin1_aae02 f_J5_isLatin1_aae02_18 f_J1_canEncode_fc78d f_J1_canEncode_fc78d_12
  rw [e5, nI_1, c1, Option.bind_some]
  dsimp only
  rw [a4, if_neg (fun z => z rfl), chk_ok (Or.inr rfl), Option.bind_some, Option.bind_some, if_neg (by decide), if_neg q5, Option.bind_some, if_neg (by decide), ldr_ok a2 a3, Option.bind_some, a5, nI_1, q3, ast_ok a3 (by omega) (by omega), Option.bind_some, cadd_some, Option.bind_some]
  dsimp only
  rw [gkd_ok a1, Option.bind_some, cadd_some, hsw]
  rfl
/-- a number -/
theorem b_num (hb : bT T M q a l cap) (hn : n ≤ 9999) (hl : l.length + (dg n).length ≤ 200) (hT : T.length + 1 ≤ 900000) (hq : q ≤ T.length) : ∃ T' M' c s' cap', f_J4_append_bf812 T M a (nI n) = some ((a, T', M'), c, s') ∧ c ≤ 1 ∧ s' ≤ 402 ∧ bT T' M' q a (l ++ dg n) cap' ∧ bK T M q a c T' M' := by
  have e5 : gi M a 3 = nI l.length := by
    obtain ⟨v, h0, a1, a2, a3, a4, a5, -⟩ := hb
    exact a5
  obtain ⟨T1, M1, c, s1, cap1, c1, c2, c3, c4, c5, c6, c7⟩ := b_cap (need := l.length + (dg n).length) hb hl hT hq
  have c4' := c4
  obtain ⟨v, h0, a1, a2, a3, a4, a5, a6, a7, a8⟩ := c4'
  obtain ⟨N, i, n1, n2, n3, n4, n5⟩ := gchars (T := T1) (M := M1) (p := l.length) hn a3 c5 (by omega)
  have hd := (dg_ok hn).1
  obtain ⟨p1, p2⟩ := b_put (w := dg n) c4 c5 hl (fun j hj => by have := hd.2 j hj; omega) a2 n2 n3 n4 n5
  refine ⟨T1, _, c + (0 + 0), s1 + (0 + 0), cap1, ?_, by omega, by omega, p1, by have := bK_tr c6 p2; exact ⟨this.1, fun T9 M9 c9 g e => gTo_c (this.2 T9 M9 c9 g e) rfl⟩⟩
  unfold f_J4_append_bf812 f_J5_append_c97b9 f_J5_isLatin1_aae02 f_J5_isLatin1_aae02_18 f_J5_append_c97b9_48
  rw [ssize hn, Option.bind_some, e5, nI_add, c1, Option.bind_some]
  dsimp only
  rw [a4, if_neg (fun z => z rfl), chk_ok (Or.inr rfl), Option.bind_some, Option.bind_some, if_neg (by decide), ldr_ok a2 a3, Option.bind_some, n1, Option.bind_some, cadd_some, Option.bind_some]
  dsimp only
  rw [gkd_ok a1, Option.bind_some, cadd_some]
/-- the string of it -/
theorem b_end (hb : bT T M q a l cap) (hT : T.length + 2 ≤ 900000) : ∃ T' M' s', f_J4_toString_0e30d T M a = some ((T.length, T', M'), 2, s') ∧ s' ≤ 204 ∧ gTo T M T' M' 2 ∧ sS T' M' T.length l := by
  obtain ⟨v, ⟨h0, h0'⟩, a1, a2, a3, a4, a5, ⟨a6, a6', a6''⟩, a7, a8⟩ := hb
  have g1 : gTo T M (T ++ [(19, 0)]) (zr M T.length) 1 := gTo_new
  have s1 : (T ++ [((19 : Nat), (0 : Nat))])[T.length]? = some (19, 0) := sh_new
  have l1 : (T ++ [((19 : Nat), (0 : Nat))]).length = T.length + 1 := len_1
  have n1 := gnew_ok (T := T) (M := M) (sh := (19, 0)) (by omega)
  unfold f_J4_toString_0e30d
  rw [n1, Option.bind_some]
  dsimp only
  generalize T ++ [((19 : Nat), (0 : Nat))] = T2 at g1 s1 l1 ⊢
  generalize zr M T.length = M2 at g1 ⊢
  have G1 := gTo_si (a := T.length) (k := 1) (x := 0) g1 (Nat.le_refl _)
  have b1 := gTo_sh G1 a1
  have b2 := gTo_gr g1 a1 0
  have b3 := gTo_sh G1 a3
  have b4 := gTo_gi g1 a1 1
  have b5 := gTo_gi g1 a1 3
  have lv := sh_lt a3
  have hrange : ∃ T3 M3, f_J7_copyOfRange_39247 T2 (si M2 T.length 1 0) v (0 : Int32) (nI l.length) = some ((T2.length, T3, M3), 1, l.length) ∧ gTo T2 (si M2 T.length 1 0) T3 M3 1 ∧ T3[T2.length]? = some (10, l.length) ∧ ∀ j, j < l.length → gi M3 T2.length j = nI (l.getD j 0) := by
    have hcont : ∀ j, j < l.length → gi (si M2 T.length 1 0) v j = nI (l.getD j 0) := fun j hj => (gTo_gi G1 a3 j).trans (a8 j hj).2
    unfold f_J7_copyOfRange_39247
    rw [if_neg (fun z => z rfl), alen_of b3]
    by_cases hfull : l.length = cap
    · rw [if_pos (show nI l.length = Int32.ofNat cap by rw [hfull]; rfl)]
      unfold gclone
      rw [alen_of b3, if_pos ⟨by omega, Or.inr (fun j hj => by rw [hcont j (by omega)]; exact (ch_ok _ (a8 j (by omega)).1).2.2.2.1)⟩, Option.bind_some, cadd_some]
      refine ⟨T2 ++ [(10, cap)], gcl (si M2 T.length 1 0) v T2.length, by rw [hfull]; first | done | rfl, ⟨gpush_ext, fun b hb => ⟨fun j => by rw [gi_gcl, if_neg (by omega)], fun j => by rw [gl_gcl, if_neg (by omega)], fun j => by rw [gr_gcl, if_neg (by omega)]⟩, len_1⟩, by rw [hfull]; exact sh_new, fun j hj => by rw [gi_gcl, if_pos rfl]; exact hcont j hj⟩
    · rw [if_neg (show ¬ nI l.length = Int32.ofNat cap from fun z => hfull ((nI_eq (b := cap) (by omega) (by omega)).mp z))]
      have g2 : gTo T2 (si M2 T.length 1 0) (T2 ++ [(10, l.length)]) (zr (si M2 T.length 1 0) T2.length) 1 := gTo_new
      have s2 : (T2 ++ [((10 : Nat), l.length)])[T2.length]? = some (10, l.length) := sh_new
      have b3' := gTo_sh g2 b3
      have z2 : (zr (si M2 T.length 1 0) T2.length) = (zr (si M2 T.length 1 0) T2.length) := rfl
      have lv2 := sh_lt b3
      have hz : ∀ j, gi (zr (si M2 T.length 1 0) T2.length) v j = gi (si M2 T.length 1 0) v j := fun j => by rw [gi_zr, if_neg (by omega)]
      have hcp : acpb (T2 ++ [(10, l.length)]) (zr (si M2 T.length 1 0) T2.length) v (0 : Int32) T2.length (0 : Int32) (nI l.length) = some (cpi (zr (si M2 T.length 1 0) T2.length) v 0 T2.length 0 l.length) := by
        unfold acpb
        rw [show (0 : Int32).toNatClampNeg = 0 from rfl, nI_clamp (show l.length < 2 ^ 31 by omega), alen_of b3', alen_of s2, if_neg]
        rintro (z | z | z | z | z | z)
        · exact absurd z (by decide)
        · exact absurd z (by decide)
        · exact nI_pos (by omega) z
        · omega
        · omega
        · exact z (fun j hj => by rw [Nat.zero_add, hz, hcont j hj]; exact (ch_ok _ (a8 j hj).1).2.2.2.1)
      unfold f_J7_copyOfRange_39247_10 f_J7_copyOfRangeByte_39247 f_J7_checkLength_df160
      rw [if_pos (show (0 : Int32) ≤ nI l.length from Int32.not_lt.mp (nI_pos (by omega))), Option.bind_some, show nI l.length - (0 : Int32) = nI l.length from Int32.sub_zero _, gnewa_ok (by omega) (by omega), Option.bind_some]
      dsimp only
      rw [alen_of b3', show Int32.ofNat cap - (0 : Int32) = nI cap from Int32.sub_zero _, imin_nI (by omega) (by omega), Nat.min_eq_right (by omega), hcp, Option.bind_some, cadd_some, Option.bind_some]
      dsimp only
      rw [gkd_ok s2, Option.bind_some, cadd_some, nI_clamp (by omega)]
      refine ⟨_, _, rfl, ⟨g2.1, fun b hb => ?_, g2.2.2⟩, s2, fun j hj => ?_⟩
      · obtain ⟨p1, p2, p3⟩ := g2.2.1 b hb
        exact ⟨fun j => by rw [gi_cpi, if_neg (by omega)]; exact p1 j, p2, p3⟩
      · rw [gi_cpi, if_pos ⟨rfl, by omega, by omega⟩, Nat.sub_zero, Nat.zero_add, hz]
        exact hcont j hj
  obtain ⟨T3, M3, r1, r2, r3, r4⟩ := hrange
  have s1' := gTo_sh r2 s1
  have G3 := gTo_tr G1 r2
  refine ⟨T3, sr M3 T.length 0 (some T2.length), 4 + (l.length + 0), ?_, by omega, gTo_sr (a := T.length) (k := 0) G3 (Nat.le_refl _), ⟨a6'', fun j hj => (a8 j hj).1⟩, Or.inl ⟨T2.length, s1', by rw [gr_sr, if_pos ⟨rfl, rfl⟩], r3, ?_, fun j hj => ?_⟩⟩
  · unfold f_J0_init_81219 f_J0_init_db425 f_J5_getValue_6d5f1 f_J4_length_8abf5 f_J5_length_8abf5 f_J5_isLatin1_aae02 f_J5_isLatin1_aae02_18
    rw [ldr_ok (b2.trans a2) (gTo_sh g1 a3), Option.bind_some, Option.bind_some, gkd_ok (gTo_sh g1 a3), Option.bind_some, Option.bind_some, b5, a5, b4, a4, if_neg (fun z => z rfl), chk_ok (Or.inr rfl), Option.bind_some, Option.bind_some, Option.bind_some, if_neg (by decide), r1, Option.bind_some]
    dsimp only
    rw [gkd_ok r3, Option.bind_some, cadd_some, Option.bind_some, cadd_some, Option.bind_some, cadd_some, cadd_some]
    first | done | rfl
  · rw [gi_sr, gTo_gi r2 s1, gi_si, if_pos ⟨rfl, rfl⟩]
  · rw [gi_sr]
    exact r4 j hj
end PBB
