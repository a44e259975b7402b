/-! THE RANDOM LINKER: its weight -/
section PWE
variable {P : Nat → Prop} {T T0 T1 T2 : gT} {M M0 M1 M2 N V V0 V' : gM} {c nx n i s b a j l A B nn nl m NL t r o v q f pm pn tb C S len sz dn bq D : Nat} {L R O : Nat → Nat} {tx w st bd : List Nat} {x y z i7 o1 : Int32} {kk k : Nat → Nat × Nat} {u : Option Nat}
theorem NT_le : ∀ {d d' e s t o : Nat} {bd : List Nat}, d ≤ d' → NT P T M k d e s t o bd → NT P T M k d' e s t o bd
  | 0, _, _, _, _, _, _ => fun _ h => h.elim
  | d + 1, 0, _, _, _, _, _ => fun hd _ => absurd hd (Nat.not_succ_le_zero d)
  | d + 1, d' + 1, e, s, t, o, bd => fun hd ⟨hp, hs, h⟩ => ⟨hp, hs, by
    rcases h with h | ⟨f, g, u, v, o1, b1, o2, b2, h1, h2, h3, h4, h5, h6, h7, h8, h9, h10⟩
    · exact Or.inl h
    · exact Or.inr ⟨f, g, u, v, o1, b1, o2, b2, h1, h2, h3, h4, h5, h6, h7, NT_le (Nat.le_of_succ_le_succ hd) h8, NT_le (Nat.le_of_succ_le_succ hd) h9, h10⟩⟩
theorem BS_rr [gW0] (hw : 900000 ≤ w0) (hT : T.length ≤ 900000) (h : BS M0 T M tx nx) : BS M0 T (si M 312 0 z) tx nx := BS_hi hw hT h (fun b hb hne j => by rw [gi_si, if_neg (by omega)]) (fun b hb j => rfl)
theorem gKe_rr : gKe P9 T M T (si M 312 0 z) := fun b hb y hy => ⟨hy, fun j => by rw [gi_si, if_neg (by unfold P9 at hb; omega)], fun j => rfl⟩
theorem b_682 [I : gW0] (hw : 900000 ≤ w0) (h : QS M0 V0 nx l A nn NL a 0 (fun _ => (1, 0)) 1 pm tb T M) (hNL : NL ≤ 5) (hnn : nn ≤ 4) (htb : tb ≤ 600) (hD0 : gDat T0 M0 5) (hV0 : ∀ b j, dIn 5 b j → b ≠ 5 → gi V0 b j = gi M0 b j) (v1 : gi V0 5 1 = 0) (v2 : gi V0 5 2 = 0) (v3 : gi V0 5 3 = 50) (hvk : ∀ i, i < 8 → dKp M0 5 i = 0 ∨ dKp M0 5 i = 1) (hT : T.length + 180 ≤ 900000) : ∃ T1 N c s, f_L_randomLinker_682 T M 0 311 312 l (nI NL) = some ((l, T1, N), c, s) ∧ c ≤ 156 ∧ s ≤ 29971 ∧ T1.length = T.length + c ∧ ∃ (J : gW0) (L R O : Nat → Nat) (kk : Nat → Nat × Nat) (m : Nat), @SL J T1 N 312 l A L R O NL nn kk m := by
  obtain ⟨u, N1, hu, c1, c2, c3⟩ := Q_low hw (by omega) h (bb := 2) (by decide) (by decide)
  unfold f_L_randomLinker_682
  rw [show f_X12_below T M 312 (2 : Int32) = _ from c1, Option.bind_some]
  dsimp only
  by_cases hu0 : u = 0
  case neg =>
    rw [if_pos (show ¬ nI u = 0 from fun z => hu0 ((nI_eq (b := 0) (by omega) (by decide)).mp z))]
    have hok : wOK (fun _ => (1, 0)) 1 := by
      obtain ⟨tx, B, L, R, O, V, h1, -⟩ := h
      exact h1.1.1.1.2.2.2.2.2.1
    obtain ⟨T1, N, d1, d2, J, L, R, O, d3⟩ := b_732 hw c2 hNL hnn (by omega) hD0 hV0 v1 v2 v3 hvk hok (by decide) (by omega)
    exact ⟨T1, N, 3, 813, d1, by decide, by decide, d2, J, L, R, O, _, _, d3⟩
  rw [if_neg (show ¬ ¬ nI u = 0 from fun z => z (by rw [hu0]; rfl))]
  obtain ⟨dp, N2, hdp, e1, e2, e3⟩ := Q_low hw (by omega) c2 (bb := 3) (by decide) (by decide)
  rw [show f_X12_below T N1 312 (3 : Int32) = _ from e1, Option.bind_some]
  dsimp only
  obtain ⟨tx, B, L, R, O, V, h1, h2, h3, h4, h5, h6⟩ := e2
  have hTl : 313 ≤ T.length := h1.2.2.1
  have p2 : 2 ^ (dp + 1) ≤ 8 := by
    have : dp = 0 ∨ dp = 1 ∨ dp = 2 := by omega
    rcases this with rfl | rfl | rfl <;> decide
  have p3 : 2 ^ dp ≤ 4 := by
    have : dp = 0 ∨ dp = 1 ∨ dp = 2 := by omega
    rcases this with rfl | rfl | rfl <;> decide
  obtain ⟨T', M', c, sl, z, k, t, o, bd, f1, f2, f3, f4, f5, f6, f7⟩ := nd_rand dp 6 T N2 0 (by omega) (by omega) hTl (by omega)
  rw [show f_X11_random_c T N2 312 (nI dp) = _ from f1, Option.bind_some]
  dsimp only
  have hlen := f2.2.2
  have f5n := NT_ND f5
  rw [gkd_ok f5n.2.1, Option.bind_some]
  have B1 : BS M0 T' M' tx nx := BS_to f2 (BS_rr hw (by omega) h1)
  have L1 : LK P9 T' M' l A B L R O NL (fun t => t) V 5 (fun _ => (1, 0)) 1 := LK_to f2 (LK_ke gKe_rr h3)
  have hl3 : 313 ≤ l := h3.1.1
  have hlT := sh_lt h3.1.2.1
  have f5' : NT P9 T' M' k 3 T.length 0 t o bd := NT_le (by omega) (NT_P (fun b hb => by unfold P9; omega) f5)
  have L2 := LK5_term L1 (NT_ND f5')
  have B2 : BS M0 T' (sr M' l 4 (some T.length)) tx nx := BS_sr hw (by omega) B1 hl3
  have f5r : NT (fun b => T.length ≤ b) T' (sr M' l 4 (some T.length)) k (dp + 1) T.length 0 t o bd := NT_ke (T := T') (T1 := T') (M := M') (M1 := sr M' l 4 (some T.length)) (fun b hb x hx => ⟨hx, fun j => rfl, fun j => by rw [gr_sr, if_neg (by omega)]⟩) f5
  have g27 : (gStrs.getD 27 []).length = 7 := by decide +kernel
  have g17 : (gStrs.getD 17 []).length = 1 := by decide +kernel
  obtain ⟨N3, k1, k2, k3⟩ := b_con (i := 27) hw (by omega) B2 (by decide) (by omega)
  have L3 := LK_ke k3 L2
  obtain ⟨-, -, k6⟩ := k3 l hl3 _ (gTo_sh f2 h3.1.2.1)
  have gl4 : gr N3 l 4 = some T.length := (k6 4).trans (by rw [gr_sr, if_pos ⟨rfl, rfl⟩])
  have f5w : NT P9 T' N3 k (dp + 1) T.length 0 t o bd := NT_ke k3 (NT_P (fun b hb => by unfold P9; omega) f5r)
  have hbl : bd.length ≤ 49 := by omega
  obtain ⟨st, T4, M4, c4, sl4, m1, m2, m3, m4, m5⟩ := nd_text (dp + 1) 6 T.length 0 t o 0 bd T' N3 (by omega) (by omega) f5w (by omega) (by omega)
  have hpr : pr 0 o bd = bd := if_neg (Nat.not_lt_zero o)
  rw [hpr] at m3
  have hlen4 := m2.2.2
  obtain ⟨N5, n1, n2, n3⟩ := b_wri hw (by omega) (BS_to m2 k2) m3 (by rw [List.length_append]; omega)
  obtain ⟨N6, y1, y2, y3⟩ := b_con (i := 17) hw (by omega) n2 (by decide) (by rw [List.length_append, List.length_append]; omega)
  have hst : tx ++ gStrs.getD 27 [] ++ bd ++ gStrs.getD 17 [] = tx ++ (gStrs.getD 27 [] ++ bd ++ gStrs.getD 17 []) := by simp only [List.append_assoc]
  rw [hst] at y2
  have hsl : (gStrs.getD 27 [] ++ bd ++ gStrs.getD 17 []).length = 7 + bd.length + 1 := by rw [List.length_append, List.length_append, g27, g17]
  have hNX := NT_NX f5'
  have L6 := LK_ke (gKe_tr (gKe_tr (gKe_To m2) n3) y3) L3
  have hQ : QS M0 V0 nx l A nn NL a 1 k t pm (tb + 57) T4 N6 := ⟨_, B, L, R, O, V, y2, RX_ext h2 (SS_weight hNX (by omega)) (by rw [hsl]; omega) (by rw [hsl]; omega), L6, h4, h5, by rw [List.length_append, hsl]; omega⟩
  have hok : wOK k t := by
    have h0 : wH k 0 = 0 := rfl
    obtain ⟨q1, q2⟩ := NX_ok hNX (by rw [h0]; decide)
    exact ⟨by omega, fun i hi => q2 i (Nat.zero_le i) hi⟩
  obtain ⟨T1, N, d1, d2, J, L', R', O', d3⟩ := b_732 hw hQ hNL hnn (by omega) hD0 hV0 v1 v2 v3 hvk hok (by omega) (by omega)
  have hk17 : T'[T.length]? = some (17, 0) := f5n.2.1
  rw [k1, Option.bind_some, gl4, show gko T' (some T.length) 17 = some () from gkd_ok hk17, Option.bind_some, gsm_some hk17, Option.bind_some, show f_X11_text_c T' N3 T.length (0 : Int32) = _ from m1, Option.bind_some]
  dsimp only
  rw [sS_ks m3, Option.bind_some, n1, Option.bind_some, y1, Option.bind_some, d1, cadd_some, cadd_some]
  have hs4 : sl4 ≤ 29130 := by
    have : 4000 * 2 ^ (dp + 1) ≤ 4000 * 8 := Nat.mul_le_mul_left _ p2
    omega
  have hc4 : c4 ≤ 146 := by
    have : 20 * 2 ^ (dp + 1) ≤ 20 * 8 := Nat.mul_le_mul_left _ p2
    omega
  have hs1 : sl ≤ 28 := by omega
  have hss : sl + (sl4 + 813) ≤ 29971 := Nat.le_trans (Nat.add_le_add hs1 (Nat.add_le_add_right hs4 813)) (by decide)
  exact ⟨T1, N, c + (c4 + 3), sl + (sl4 + 813), rfl, by omega, hss, by omega, J, L', R', O', _, _, d3⟩
end PWE
