/-! THE TEXT OF A NODE as the law makes it -/
section PTX
variable {P : Nat → Prop} {T T1 : gT} {M M1 N : gM} {k : Nat → Nat × Nat} {a c x y e s t o f g n d lv own : Nat} {bd l1 l2 : List Nat}
theorem pr_len : (pr lv o bd).length ≤ bd.length + 2 := by
  unfold pr
  split
  · rw [List.length_append, List.length_append, show (gStrs.getD 32 []).length = 1 by decide +kernel, show (gStrs.getD 33 []).length = 1 by decide +kernel]
    omega
  · omega
/-- a builder that stands in a later memory, base things as they were -/
theorem b_str2 {q cap : Nat} {l w : List Nat} {T0 : gT} {M0 : gM} {c0 : Nat} (G : gTo T0 M0 T M c0) (hq0 : T0.length = q) (hb : bT T M q a l cap) (hs : sS T M s w) (hl : l.length + w.length ≤ 200) (hT : T.length + 1 ≤ 900000) : ∃ T' M' c s' cap', f_J4_append_15ec4 T M a s = some ((a, T', M'), c, s') ∧ c ≤ 1 ∧ s' ≤ 402 ∧ bT T' M' q a (l ++ w) cap' ∧ gTo T0 M0 T' M' (c0 + c) := by
  have := G.2.2
  obtain ⟨T', M', c, s', cap', h1, h2, h3, h4, h5⟩ := b_str hb hs hl hT (by omega)
  exact ⟨T', M', c, s', cap', h1, h2, h3, h4, h5.2 T0 M0 c0 G hq0⟩
/-- the parentheses -/
theorem tx_par {st : Nat} (hs : sS T M st l1) (hl : l1.length ≤ 150) (hT : T.length + 7 ≤ 900000) : ∃ r T' M' c sl, ((gnew T M (20, 0)).bind fun x16 => cadd 1 4 <| (f_J4_init_da8c8 x16.2.1 x16.2.2 x16.1).bind fun x19 => cadd x19.2.1 x19.2.2 <| (f_J4_append_15ec4 x19.1.1 x19.1.2 x16.1 (gSB + 32)).bind fun x23 => cadd x23.2.1 x23.2.2 <| (gkd x23.1.2.1 x23.1.1 20).bind fun _ => (f_J4_append_15ec4 x23.1.2.1 x23.1.2.2 x23.1.1 st).bind fun x27 => cadd x27.2.1 x27.2.2 <| (gkd x27.1.2.1 x27.1.1 20).bind fun _ => (f_J4_append_15ec4 x27.1.2.1 x27.1.2.2 x27.1.1 (gSB + 33)).bind fun x31 => cadd x31.2.1 x31.2.2 <| (gkd x31.1.2.1 x31.1.1 20).bind fun _ => (f_J4_toString_0e30d x31.1.2.1 x31.1.2.2 x31.1.1).bind fun x35 => cadd x35.2.1 x35.2.2 <| (gks x35.1.2.1 x35.1.1).bind fun _ => some ((x35.1.1, x35.1.2.1, x35.1.2.2), 0, 0)) = some ((r, T', M'), c, sl) ∧ gTo T M T' M' c ∧ sS T' M' r (gStrs.getD 32 [] ++ l1 ++ gStrs.getD 33 []) ∧ c ≤ 7 ∧ sl ≤ 1430 := by
  have n32 : (gStrs.getD 32 []).length = 1 := by decide +kernel
  have n33 : (gStrs.getD 33 []).length = 1 := by decide +kernel
  obtain ⟨T1, M1, n1, n2, G1, b1⟩ := b_new (T := T) (M := M) (by omega)
  have l1' := G1.2.2
  obtain ⟨T2, M2, c2, s2, cap2, d1, d2, d3, d4, G2⟩ := b_str2 G1 rfl b1 (sS_c (T := T1) (M := M1) (i := 32) (by decide)) (by rw [List.length_nil, n32]; decide) (by omega)
  rw [List.nil_append] at d4
  have l2' := G2.2.2
  obtain ⟨T3, M3, c3, s3, cap3, e1, e2, e3, e4, G3⟩ := b_str2 G2 rfl d4 (sS_gTo hs G2) (by rw [n32]; omega) (by omega)
  have l3' := G3.2.2
  obtain ⟨T4, M4, c4, s4, cap4, f1, f2, f3, f4, G4⟩ := b_str2 G3 rfl e4 (sS_c (T := T3) (M := M3) (i := 33) (by decide)) (by rw [List.length_append, n32, n33]; omega) (by omega)
  have l4' := G4.2.2
  obtain ⟨T5, M5, s5, g1, g2, g3, g4⟩ := b_end f4 (by omega)
  refine ⟨T4.length, T5, M5, 1 + (1 + (c2 + (c3 + (c4 + (2 + 0))))), 4 + (16 + (s2 + (s3 + (s4 + (s5 + 0))))), ?_, gTo_c (gTo_tr G4 g3) (by omega), g4, by omega, by omega⟩
  rw [n1, Option.bind_some]
  dsimp only
  rw [n2, Option.bind_some]
  dsimp only
  rw [d1, Option.bind_some]
  dsimp only
  rw [bT_kd d4, Option.bind_some, e1, Option.bind_some]
  dsimp only
  rw [bT_kd e4, Option.bind_some, f1, Option.bind_some]
  dsimp only
  rw [bT_kd f4, Option.bind_some, g1, Option.bind_some]
  dsimp only
  rw [sS_ks g4, Option.bind_some]
  simp only [cadd_some]
theorem nd_text : ∀ (d n e s t o lv : Nat) (bd : List Nat) (T : gT) (M : gM), d ≤ n → lv ≤ 3 → NT P T M k d e s t o bd → bd.length ≤ 100 → T.length + 20 * 2 ^ d ≤ 900000 → ∃ st T' M' c sl, g_X11_text n T M e (nI lv) = some ((st, T', M'), c, sl) ∧ gTo T M T' M' c ∧ sS T' M' st (pr lv o bd) ∧ c + 14 ≤ 20 * 2 ^ d ∧ sl + 2870 ≤ 4000 * 2 ^ d
  | 0, _, _, _, _, _, _, _, _, _ => fun _ _ h => h.elim
  | d + 1, n, e, s, t, o, lv, bd, T, M => fun hn hlv h hb hT => by
    obtain ⟨n, rfl⟩ : ∃ q, n = q + 1 := ⟨n - 1, by omega⟩
    have hpow : 2 ^ (d + 1) = 2 ^ d + 2 ^ d := by rw [Nat.pow_succ]; omega
    have hp1 : 1 ≤ 2 ^ d := Nat.one_le_two_pow
    obtain ⟨hp, hs, h⟩ := h
    show ∃ st T' M' c sl, f_X11_text (g_X11_text n) T M e (nI lv) = some ((st, T', M'), c, sl) ∧ _
    rcases h with ⟨h1, h2, h3, h4, h5⟩ | ⟨f, g, u, v, o1, b1, o2, b2, h1, h2, h3, h4, h5, h6, h7, h8, h9, h10⟩
    · subst h2
      have hpr : pr lv 3 bd = bd := by unfold pr; rw [if_neg (by omega)]
      rw [hpr]
      rcases h5 with ⟨h5, h6, h7⟩ | ⟨h5, h6, h7⟩
      · have hdl := (dg_ok h6).2
        obtain ⟨T1, M1, n1, n2, G1, b1⟩ := b_new (T := T) (M := M) (by omega)
        have l1' := G1.2.2
        obtain ⟨T2, M2, c2, s2, cap2, d1, d2, d3, d4, G2⟩ := b_str2 G1 rfl b1 (sS_c (T := T1) (M := M1) (i := 20) (by decide)) (by rw [List.length_nil, show (gStrs.getD 20 []).length = 0 by decide +kernel]; decide) (by omega)
        rw [List.nil_append, show gStrs.getD 20 [] = [] by decide +kernel] at d4
        have l2' := G2.2.2
        obtain ⟨T3, M3, c3, s3, cap3, e1, e2, e3, e4, e5⟩ := b_num d4 h6 (by rw [List.length_nil]; omega) (by omega) (by omega)
        rw [List.nil_append] at e4
        have G3 := e5.2 T M _ G2 rfl
        have l3' := G3.2.2
        obtain ⟨T4, M4, s4, f1, f2, f3, f4⟩ := b_end e4 (by omega)
        have hnum : gi M2 e 1 = nI (k s).2 := (gTo_gi G2 hs 1).trans h4
        refine ⟨T3.length, T4, M4, 1 + (1 + (c2 + (c3 + (2 + 0)))), 4 + (16 + (s2 + (s3 + (s4 + 0)))), ?_, gTo_c (gTo_tr G3 f3) (by omega), by rw [h7]; exact f4, by omega, by omega⟩
        unfold f_X11_text
        rw [h3, if_neg (show ¬ ¬ nI (k s).1 = 0 from fun z => z (by rw [h5]; rfl)), n1, Option.bind_some]
        dsimp only
        rw [n2, Option.bind_some]
        dsimp only
        rw [d1, Option.bind_some]
        dsimp only
        rw [bT_kd d4, Option.bind_some, hnum, e1, Option.bind_some]
        dsimp only
        rw [bT_kd e4, Option.bind_some, f1, Option.bind_some]
        dsimp only
        rw [sS_ks f4, Option.bind_some]
        simp only [cadd_some]
      · refine ⟨gSB + 9 + (k s).2, T, M, 0, 0, ?_, gTo_refl, ?_, by omega, by omega⟩
        · unfold f_X11_text
          rw [h3, h4, if_pos (show ¬ nI (k s).1 = 0 from fun z => by have := (nI_eq (b := 0) (by omega) (by decide)).mp z; omega), if_neg (show ¬ ¬ nI (k s).1 = (1 : Int32) from fun z => z (by rw [h5]; rfl)), nI_clamp (by omega), chk_ok (fun z => z.elim (fun z => nI_pos (by omega) z) (fun z => by omega)), Option.bind_some]
        · rw [h7, Nat.add_assoc]
          exact sS_c (by omega)
    · -- an operation
      have hop : ∀ v, v < 6 → 2 ≤ v → (opS v).length ≤ 3 := by decide +kernel
      have hopl := hop (k v).1 (by omega) h2
      obtain ⟨own, hown⟩ : ∃ own, own = (if (k v).1 < 4 then 1 else 2) := ⟨_, rfl⟩
      have ho12 : own = 1 ∨ own = 2 := by rw [hown]; split <;> omega
      rw [← hown] at h7
      subst h7
      have hbl : bd.length = (pr o o1 b1).length + (opS (k v).1).length + (pr (o + 1) o2 b2).length := by rw [h10, List.length_append, List.length_append]
      have q1 : b1.length ≤ (pr o o1 b1).length := by
        unfold pr
        split
        · rw [List.length_append, List.length_append]; omega
        · omega
      have q2 : b2.length ≤ (pr (o + 1) o2 b2).length := by
        unfold pr
        split
        · rw [List.length_append, List.length_append]; omega
        · omega
      obtain ⟨T1, M1, n1, n2, G1, bb1⟩ := b_new (T := T) (M := M) (by omega)
      have l1' := G1.2.2
      obtain ⟨st2, T2, M2, c2, s2, r1, r2, r3, r4, r5⟩ := nd_text d n f s u o1 o b1 T1 M1 (by omega) (by omega) (NT_ke (gKe_To G1) h8) (by omega) (by omega)
      have G2 := gTo_tr G1 r2
      have l2' := G2.2.2
      obtain ⟨T3, M3, c3, s3, cap3, d1, d2, d3, d4, G3⟩ := b_str2 G2 rfl (bT_to bb1 r2) r3 (by rw [List.length_nil]; omega) (by omega)
      rw [List.nil_append] at d4
      have l3' := G3.2.2
      have hkM3 : gi M3 e 0 = nI (k v).1 := (gTo_gi G3 hs 0).trans h4
      obtain ⟨T4, M4, c4, s4, cap4, e1, e2, e3, e4, G4⟩ := b_str2 G3 rfl d4 (sS_c (T := T3) (M := M3) (i := 26 + (k v).1) (by omega)) (by show (pr o o1 b1).length + (opS (k v).1).length ≤ 200; omega) (by omega)
      have l4' := G4.2.2
      obtain ⟨st5, T5, M5, c5, s5, u1, u2, u3, u4, u5⟩ := nd_text d n g u v o2 (o + 1) b2 T4 M4 (by omega) (by omega) (NT_ke (gKe_To G4) h9) (by omega) (by omega)
      have G5 := gTo_tr G4 u2
      have l5' := G5.2.2
      obtain ⟨T6, M6, c6, s6, cap6, v1, v2, v3, v4, G6⟩ := b_str2 G5 rfl (bT_to e4 u2) u3 (by rw [List.length_append]; show (pr o o1 b1).length + (opS (k v).1).length + (pr (o + 1) o2 b2).length ≤ 200; omega) (by omega)
      have l6' := G6.2.2
      obtain ⟨T7, M7, s7, w1, w2, w3, w4⟩ := b_end v4 (by omega)
      have G7 := gTo_tr G6 w3
      have l7' := G7.2.2
      have w4' : sS T7 M7 T6.length bd := by rw [h10]; exact w4
      have hf := (NT_ke (gKe_To G1) h8)
      have hf1 : ldr T1 M1 e 2 17 = some f := by
        cases d with
        | zero => exact h8.elim
        | succ d => exact ldr_ok ((gTo_gr G1 hs 2).trans h5) (gTo_sh G1 h8.2.1)
      have hg1 : ldr T4 M4 e 3 17 = some g := by
        cases d with
        | zero => exact h9.elim
        | succ d => exact ldr_ok ((gTo_gr G4 hs 3).trans h6) (gTo_sh G4 h9.2.1)
      -- from the operation's sign on
      have h120 : ∃ r T' M' c sl, f_X11_text_120 (g_X11_text n) T3 M3 e (nI lv) (nI o) T.length (gSB + (26 + (k v).1)) = some ((r, T', M'), c, sl) ∧ gTo T M T' M' (2 + c2 + c3 + c) ∧ sS T' M' r (pr lv o bd) ∧ c ≤ c4 + c5 + c6 + 9 ∧ sl ≤ s4 + s5 + s6 + 1640 := by
        by_cases hle : lv ≤ o
        · have hpr : pr lv o bd = bd := by unfold pr; rw [if_neg (by omega)]
          refine ⟨T6.length, T7, M7, c4 + (c5 + (c6 + (2 + 0))), s4 + (s5 + (s6 + (s7 + 0))), ?_, gTo_c G7 (by omega), by rw [hpr]; exact w4', by omega, by omega⟩
          unfold f_X11_text_120 f_X11_text_173
          rw [e1, Option.bind_some]
          dsimp only
          rw [bT_kd e4, Option.bind_some, hg1, Option.bind_some, nI_1, u1, Option.bind_some]
          dsimp only
          rw [sS_ks u3, Option.bind_some, v1, Option.bind_some]
          dsimp only
          rw [bT_kd v4, Option.bind_some, w1, Option.bind_some]
          dsimp only
          rw [sS_ks w4, Option.bind_some, if_pos (nI_le hle (by omega))]
          simp only [cadd_some]
        · have hpr : pr lv o bd = gStrs.getD 32 [] ++ bd ++ gStrs.getD 33 [] := by unfold pr; rw [if_pos (by omega)]
          obtain ⟨r, T8, M8, c8, s8, y1, y2, y3, y4, y5⟩ := tx_par w4' (by omega) (by omega)
          refine ⟨r, T8, M8, c4 + (c5 + (c6 + (2 + c8))), s4 + (s5 + (s6 + (s7 + s8))), ?_, gTo_c (gTo_tr G7 y2) (by omega), by rw [hpr]; exact y3, by omega, by omega⟩
          unfold f_X11_text_120 f_X11_text_173
          rw [e1, Option.bind_some]
          dsimp only
          rw [bT_kd e4, Option.bind_some, hg1, Option.bind_some, nI_1, u1, Option.bind_some]
          dsimp only
          rw [sS_ks u3, Option.bind_some, v1, Option.bind_some]
          dsimp only
          rw [bT_kd v4, Option.bind_some, w1, Option.bind_some]
          dsimp only
          rw [sS_ks w4, Option.bind_some, if_neg (nI_ge (by omega) (by omega)), y1]
          simp only [cadd_some]
      obtain ⟨r, T8, M8, c8, s8, y1, y2, y3, y4, y5⟩ := h120
      refine ⟨r, T8, M8, 1 + (1 + (c2 + (c3 + c8))), 4 + (16 + (s2 + (s3 + s8))), ?_, gTo_c y2 (by omega), y3, by omega, by omega⟩
      have h60 : f_X11_text_60 (g_X11_text n) T M e (nI lv) (nI o) = some ((r, T8, M8), 1 + (1 + (c2 + (c3 + c8))), 4 + (16 + (s2 + (s3 + s8)))) := by
        unfold f_X11_text_60
        rw [n1, Option.bind_some]
        dsimp only
        rw [n2, Option.bind_some]
        dsimp only
        rw [hf1, Option.bind_some, r1, Option.bind_some]
        dsimp only
        rw [sS_ks r3, Option.bind_some, d1, Option.bind_some]
        dsimp only
        rw [bT_kd d4, Option.bind_some, hkM3]
        rcases (show (k v).1 = 2 ∨ (k v).1 = 3 ∨ (k v).1 = 4 ∨ (k v).1 = 5 by omega) with z | z | z | z
        · rw [z] at y1 ⊢
          rw [if_neg (show ¬ ¬ nI 2 = (2 : Int32) from fun q => q rfl), show gSB + 28 = gSB + (26 + 2) from rfl, y1]
          simp only [cadd_some]
        · rw [z] at y1 ⊢
          rw [if_pos (show ¬ nI 3 = (2 : Int32) by decide), if_neg (show ¬ ¬ nI 3 = (3 : Int32) from fun q => q rfl), show gSB + 29 = gSB + (26 + 3) from rfl, y1]
          simp only [cadd_some]
        · rw [z] at y1 ⊢
          rw [if_pos (show ¬ nI 4 = (2 : Int32) by decide), if_pos (show ¬ nI 4 = (3 : Int32) by decide), if_neg (show ¬ ¬ nI 4 = (4 : Int32) from fun q => q rfl), show gSB + 30 = gSB + (26 + 4) from rfl, y1]
          simp only [cadd_some]
        · rw [z] at y1 ⊢
          rw [if_pos (show ¬ nI 5 = (2 : Int32) by decide), if_pos (show ¬ nI 5 = (3 : Int32) by decide), if_pos (show ¬ nI 5 = (4 : Int32) by decide), show gSB + 31 = gSB + (26 + 5) from rfl, y1]
          simp only [cadd_some]
      unfold f_X11_text
      rw [h4, if_pos (show ¬ nI (k v).1 = 0 from fun z => by have := (nI_eq (b := 0) (by omega) (by decide)).mp z; omega), if_pos (show ¬ nI (k v).1 = (1 : Int32) from fun z => by have := (nI_eq (b := 1) (by omega) (by decide)).mp z; omega)]
      by_cases h44 : (k v).1 < 4
      · rw [if_pos h44] at hown
        rw [if_neg (show ¬ (4 : Int32) ≤ nI (k v).1 from nI_ge (b := 4) h44 (by decide))]
        rw [hown] at h60
        exact h60
      · rw [if_neg h44] at hown
        rw [if_pos (show (4 : Int32) ≤ nI (k v).1 from nI_le (a := 4) (by omega) (by omega))]
        rw [hown] at h60
        exact h60
end PTX
