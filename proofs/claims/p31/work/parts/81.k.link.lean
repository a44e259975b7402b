/-! THE RANDOM LINKER -/
section PLK2
variable {P : Nat → Prop} {T T0 T1 T2 : gT} {M M0 M1 M2 N V V0 V' : gM} {c nx n i s b a j l A B nn nl m NL t r o v q f pm pn tb C S len sz dn bq D : Nat} {L R O : Nat → Nat} {tx w st bd : List Nat} {x y z i7 o1 : Int32} {kk k : Nat → Nat × Nat} {u : Option Nat}
theorem VQ_share (h : VQ M0 V NL nn pm) : VQ M0 (si V 5 3 x) NL nn pm := by
  obtain ⟨h1, h2, h3, h4, h5⟩ := h
  have nv : ∀ {b j : Nat}, ¬ (b = 5 ∧ j = 3) → gi (si V 5 3 x) b j = gi V b j := fun hn => by rw [gi_si, if_neg hn]
  refine ⟨h1, (nv (by omega)).trans h2, (nv (by omega)).trans h3, fun i' hi' => ?_, fun i' hi' h8 => (nv (by omega)).trans (h5 i' hi' h8)⟩
  obtain ⟨⟨g1, g2, g3, g4, g5, g6⟩, r1, r2⟩ := h4 i' hi'
  have ek : dPk (si V 5 3 x) 5 i' = dPk V 5 i' := congrArg Int32.toNatClampNeg (nv (by omega))
  refine ⟨⟨?_, ?_, ?_, ⟨?_, by rw [ek]; exact g4.2⟩, fun k hk => ?_, fun n hn => ?_⟩, (nv (by omega)).trans r1, by rw [ek]; exact r2⟩
  · rw [show dTr (si V 5 3 x) 5 i' = dTr V 5 i' from nv (by omega)]; exact g1
  · rw [show dKp (si V 5 3 x) 5 i' = dKp V 5 i' from nv (by omega)]; exact g2
  · rw [show dRk (si V 5 3 x) 5 i' = dRk V 5 i' from nv (by omega)]; exact g3
  · rw [ek]; exact (nv (by omega)).trans g4.1
  · rw [ek] at hk
    rw [show dPr (si V 5 3 x) 5 i' k = dPr V 5 i' k from nv (by omega)]; exact g5 k hk
  · rw [show dOf (si V 5 3 x) 5 i' n = dOf V 5 i' n from nv (by omega)]; exact g6 n hn
theorem b_shareL [I : gW0] (hw : 900000 ≤ w0) (h : QS M0 V0 nx l A nn NL 0 0 (fun _ => (1, 0)) 1 pm tb T M) (hNL : NL ≤ 5) (hnn : nn ≤ 4) (htb : tb ≤ 590) (hD0 : gDat T0 M0 5) (hV0 : ∀ b j, dIn 5 b j → b ≠ 5 → gi V0 b j = gi M0 b j) (v1 : gi V0 5 1 = 0) (v2 : gi V0 5 2 = 0) (v3 : gi V0 5 3 = 50) (hvk : ∀ i, i < 8 → dKp M0 5 i = 0 ∨ dKp M0 5 i = 1) (hT : T.length + 180 ≤ 900000) : ∃ T1 N c s, ((f_X12_below T M 312 (2 : Int32)).bind fun x238 => if ¬ x238.1 = 0 then f_L_randomLinker_682 T x238.2 0 311 312 l (nI NL) else (f_X12_below T x238.2 312 (101 : Int32)).bind fun x240 => (f_L_write T (si x240.2 l 1 x240.1) 0 311 (gSB + 26)).bind fun x241 => (f_L_writeNumber T x241 0 311 (gi x241 l 1)).bind fun x242 => (f_L_write T x242 0 311 (gSB + 17)).bind fun x243 => f_L_randomLinker_682 T x243 0 311 312 l (nI NL)) = some ((l, T1, N), c, s) ∧ c ≤ 156 ∧ s ≤ 29971 ∧ T1.length = T.length + c ∧ ∃ (J : gW0) (L R O : Nat → Nat) (kk : Nat → Nat × Nat) (m : Nat), @SL J T1 N 312 l A L R O NL nn kk m := by
  obtain ⟨u, N1, hu, c1, c2, c3⟩ := Q_low hw (by omega) h (bb := 2) (by decide) (by decide)
  rw [show f_X12_below T M 312 (2 : Int32) = _ from c1, Option.bind_some]
  dsimp only
  by_cases hu0 : u = 0
  case neg =>
    rw [if_pos (show ¬ nI u = 0 from fun z => hu0 ((nI_eq (b := 0) (by omega) (by decide)).mp z))]
    exact b_682 hw c2 hNL hnn (by omega) hD0 hV0 v1 v2 v3 hvk hT
  rw [if_neg (show ¬ ¬ nI u = 0 from fun z => z (by rw [hu0]; rfl))]
  obtain ⟨v, N2, hv, e1, e2, e3⟩ := Q_low hw (by omega) c2 (bb := 101) (by decide) (by decide)
  rw [show f_X12_below T N1 312 (101 : Int32) = _ from e1, Option.bind_some]
  dsimp only
  obtain ⟨tx, B, L, R, O, V, h1, h2, h3, h4, h5, h6⟩ := e2
  have hl3 : 313 ≤ l := h3.1.1
  have B1 : BS M0 T (si N2 l 1 (nI v)) tx nx := BS_si hw (by omega) h1 hl3
  have L1 := LK5_share (x := nI v) h3
  have g26 : (gStrs.getD 26 []).length = 6 := by decide +kernel
  have g17 : (gStrs.getD 17 []).length = 1 := by decide +kernel
  have ld := (dg_ok (v := v) (by omega)).2
  obtain ⟨N3, k1, k2, k3⟩ := b_con (i := 26) hw (by omega) B1 (by decide) (by omega)
  have L2 := LK_ke k3 L1
  have gl1 : gi N3 l 1 = nI v := by
    rw [L2.1.2.2.2, gi_si, if_pos ⟨rfl, rfl⟩]
  obtain ⟨N4, m1, m2, m3⟩ := b_dig (n := v) hw k2 (by omega) (by rw [List.length_append]; omega)
  obtain ⟨N5, y1, y2, y3⟩ := b_con (i := 17) hw (by omega) m2 (by decide) (by rw [List.length_append, List.length_append]; omega)
  have hst : tx ++ gStrs.getD 26 [] ++ dg v ++ gStrs.getD 17 [] = tx ++ (gStrs.getD 26 [] ++ dg v ++ gStrs.getD 17 []) := by simp only [List.append_assoc]
  rw [hst] at y2
  have hsl : (gStrs.getD 26 [] ++ dg v ++ gStrs.getD 17 []).length = 6 + (dg v).length + 1 := by rw [List.length_append, List.length_append, g26, g17]
  have hdl : (dg v).length ≤ 3 := by
    unfold dg
    split
    · exact Nat.le_of_ble_eq_true rfl
    split
    · exact Nat.le_of_ble_eq_true rfl
    split
    · exact Nat.le_of_ble_eq_true rfl
    omega
  have hQ : QS M0 V0 nx l A nn NL 1 0 (fun _ => (1, 0)) 1 pm (tb + 10) T N5 := ⟨_, B, L, R, O, _, y2, RX_ext h2 (SS_share (by omega)) (by rw [hsl]; omega) (by rw [hsl]; omega), LK_ke (gKe_tr m3 y3) L2, h4, VQ_share h5, by rw [List.length_append, hsl]; omega⟩
  rw [k1, Option.bind_some, gl1, m1, Option.bind_some, y1, Option.bind_some]
  exact b_682 hw hQ hNL hnn (by omega) hD0 hV0 v1 v2 v3 hvk hT
theorem b_link [I : gW0] (hw : 900000 ≤ w0) (h : BS M T M [] nx) (hT : T.length + 700 ≤ 900000) : ∃ T1 N c s l A NL nn, f_L_randomLinker T M 0 311 312 (4 : Int32) (5 : Int32) = some ((l, T1, N), c, s) ∧ c ≤ 469 ∧ s ≤ 81812 ∧ T1.length = T.length + c ∧ ∃ (J : gW0) (L R O : Nat → Nat) (kk : Nat → Nat × Nat) (m : Nat), @SL J T1 N 312 l A L R O NL nn kk m := by
  have hTl : 313 ≤ T.length := h.2.2.1
  have hD0 : gDat T M 5 := h.1.1.2.2.2.2.1 5 (Or.inl rfl)
  have hvk : ∀ i, i < 8 → dKp M 5 i = 0 ∨ dKp M 5 i = 1 := h.1.1.2.2.2.1 5 (Or.inl rfl)
  -- the new linker
  have g1 : gTo T M (T ++ [(16, 0)]) (zr M T.length) 1 := gTo_new
  have s1 : (T ++ [((16 : Nat), (0 : Nat))])[T.length]? = some (16, 0) := sh_new
  have l1 : (T ++ [((16 : Nat), (0 : Nat))]).length = T.length + 1 := len_1
  have n1 := gnew_ok (T := T) (M := M) (sh := (16, 0)) (by omega)
  have z1 : gr (zr M T.length) T.length 4 = none := by rw [gr_zr, if_pos rfl]
  generalize hTT : T ++ [((16 : Nat), (0 : Nat))] = Ta at g1 s1 l1 n1
  generalize hMM : zr M T.length = Ma at g1 n1 z1
  have B1 := BS_to g1 h
  have B2 : BS M Ta (si Ma T.length 1 50) [] nx := BS_si hw (by omega) B1 hTl
  have e2 : gi (si Ma T.length 1 50) T.length 1 = 50 := by rw [gi_si, if_pos ⟨rfl, rfl⟩]
  have z2 : gr (si Ma T.length 1 50) T.length 4 = none := z1
  generalize hMb : si Ma T.length 1 50 = Mb at B2 e2 z2
  have g3 : gTo Ta Mb (Ta ++ [(21, 0)]) (zr Mb Ta.length) 1 := gTo_new
  have l3 : (Ta ++ [((21 : Nat), (0 : Nat))]).length = Ta.length + 1 := len_1
  have n3 := gnew_ok (T := Ta) (M := Mb) (sh := (21, 0)) (by omega)
  have s1' := gTo_sh g3 s1
  have e3 := (gTo_gi g3 s1 1).trans e2
  have z3 := (gTo_gr g3 s1 4).trans z2
  generalize hTb : Ta ++ [((21 : Nat), (0 : Nat))] = Tb at g3 l3 n3 s1'
  generalize hMc : zr Mb Ta.length = Mc at g3 n3 e3 z3
  have B4 : BS M Tb (sr Mc T.length 2 (some Ta.length)) [] nx := BS_sr hw (by omega) (BS_to g3 B2) hTl
  have e4 : gi (sr Mc T.length 2 (some Ta.length)) T.length 1 = 50 := e3
  have z4 : gr (sr Mc T.length 2 (some Ta.length)) T.length 4 = none := by rw [gr_sr, if_neg (by omega)]; exact z3
  generalize hMd : sr Mc T.length 2 (some Ta.length) = Md at B4 e4 z4
  have g5 : gTo Tb Md (Tb ++ [(11, 0)]) (zr Md Tb.length) 1 := gTo_new
  have s5 : (Tb ++ [((11 : Nat), (0 : Nat))])[Tb.length]? = some (11, 0) := sh_new
  have l5 : (Tb ++ [((11 : Nat), (0 : Nat))]).length = Tb.length + 1 := len_1
  have n5 := gnew_ok (T := Tb) (M := Md) (sh := (11, 0)) (by omega)
  have s1'' := gTo_sh g5 s1'
  have e5 := (gTo_gi g5 s1' 1).trans e4
  have z5 := (gTo_gr g5 s1' 4).trans z4
  generalize hTc : Tb ++ [((11 : Nat), (0 : Nat))] = Tc at g5 s5 l5 n5 s1''
  generalize hMe : zr Md Tb.length = Me at g5 n5 e5 z5
  have B6 : BS M Tc (sr Me T.length 3 (some Tb.length)) [] nx := BS_sr hw (by omega) (BS_to g5 B4) hTl
  have e6 : gi (sr Me T.length 3 (some Tb.length)) T.length 1 = 50 := e5
  have z6 : gr (sr Me T.length 3 (some Tb.length)) T.length 4 = none := by rw [gr_sr, if_neg (by omega)]; exact z5
  have r6 : gr (sr Me T.length 3 (some Tb.length)) T.length 3 = some Tb.length := by rw [gr_sr, if_pos ⟨rfl, rfl⟩]
  have n6 : f_X10_init Ta Ma T.length = some ((Tc, sr Me T.length 3 (some Tb.length)), 1 + (1 + 0), 0 + (0 + 0)) := by
    unfold f_X10_init
    rw [hMb, n3, Option.bind_some]
    dsimp only
    rw [hMd, n5, Option.bind_some, cadd_some, cadd_some]
  generalize hMf : sr Me T.length 3 (some Tb.length) = Mf at B6 e6 z6 r6 n6
  -- names
  obtain ⟨nn, x, hnn, b1, b2, b3⟩ := b_low hw (by omega) B6 (b := 5) (by decide) (by decide)
  have B7 : BS M Tc (si (si Mf 312 0 x) T.length 0 (nI nn)) [] nx := BS_si hw (by omega) b2 hTl
  obtain ⟨-, q2, q3⟩ := b3 T.length hTl _ s1''
  obtain ⟨N1, c1, c2, c3⟩ := b_con (i := 13) hw (by omega) B7 (by decide) (by decide +kernel)
  rw [List.nil_append] at c2
  have F1 : LF Tc (si (si Mf 312 0 x) T.length 0 (nI nn)) T.length Tb.length nn := ⟨⟨hTl, s1'', by rw [gi_si, if_pos ⟨rfl, rfl⟩], by rw [gi_si, if_neg (by omega), q2]; exact e6, (q3 4).trans z6⟩, by omega, (q3 3).trans r6, s5⟩
  have F2 := LF_ke c3 F1
  obtain ⟨V0, hV0⟩ : ∃ V0, V0 = si (si (si M 5 1 0) 5 2 0) 5 3 50 := ⟨_, rfl⟩
  have v1 : gi V0 5 1 = 0 := by rw [hV0, gi_si, if_neg (by omega), gi_si, if_neg (by omega), gi_si, if_pos ⟨rfl, rfl⟩]
  have v2 : gi V0 5 2 = 0 := by rw [hV0, gi_si, if_neg (by omega), gi_si, if_pos ⟨rfl, rfl⟩]
  have v3 : gi V0 5 3 = 50 := by rw [hV0, gi_si, if_pos ⟨rfl, rfl⟩]
  have v5 : ∀ b j, b ≠ 5 → gi V0 b j = gi M b j := fun b j hb => by rw [hV0, gi_si, if_neg (fun z => hb z.1), gi_si, if_neg (fun z => hb z.1), gi_si, if_neg (fun z => hb z.1)]
  have vr : ∀ b j, gr V0 b j = gr M b j := fun b j => by rw [hV0]; rfl
  have g13 : (gStrs.getD 13 []).length = 5 := by decide +kernel
  obtain ⟨⟨Td, Mg⟩, cn, sn, d1, tx1, V1, d2, d3, d4, d5, d6, d7, d8, d9⟩ := n_loop (i4 := 5) (nn := nn) (V := V0) (V0 := V0) (kk := fun _ => (1, 0)) (m := 1) hw c2 F2 (by omega) ⟨⟨[], (List.append_nil _).symm⟩, Rd_0⟩ ⟨vr, v1, v2, v3, v5⟩ g13 (by omega)
  dsimp only at d2 d3 d9
  -- libraries
  obtain ⟨NL, x2, hNL, f1, f2, f3⟩ := b_low hw (by omega) d2 (b := 6) (by decide) (by decide)
  have F3 := LF_ke f3 d3
  have g7 : gTo Td (si Mg 312 0 x2) (Td ++ [(21, NL)]) (zr (si Mg 312 0 x2) Td.length) 1 := gTo_new
  have s7 : (Td ++ [((21 : Nat), NL)])[Td.length]? = some (21, NL) := sh_new
  have l7 : (Td ++ [((21 : Nat), NL)]).length = Td.length + 1 := len_1
  have n7 := gnewa_ok (T := Td) (M := si Mg 312 0 x2) (kd := 21) (n := NL) (by omega) (by omega)
  have B8 := BS_to g7 f2
  have F4 := LF_ke (gKe_To g7) F3
  generalize hTe : Td ++ [((21 : Nat), NL)] = Te at g7 s7 l7 n7 B8 F4
  generalize hMh : zr (si Mg 312 0 x2) Td.length = Mh at g7 n7 B8 F4
  have B9 : BS M Te (sr Mh T.length 2 (some Td.length)) tx1 nx := BS_sr hw (by omega) B8 hTl
  have hLB : LB Te (sr Mh T.length 2 (some Td.length)) T.length Td.length Tb.length nn NL 0 (fun _ => 0) (fun _ => 0) (fun _ => 0) V1 := ⟨⟨F4.1.1, F4.1.2.1, F4.1.2.2.1, F4.1.2.2.2.1, by rw [gr_sr, if_neg (by omega)]; exact F4.1.2.2.2.2⟩, ⟨show 313 ≤ Td.length by omega, by rw [gr_sr, if_pos ⟨rfl, rfl⟩], s7⟩, ⟨F4.2.1, by rw [gr_sr, if_neg (by omega)]; exact F4.2.2.1, F4.2.2.2, fun j hj => absurd hj (Nat.not_lt_zero j)⟩, fun i hi => absurd hi (Nat.not_lt_zero i)⟩
  have hVL : VL M V1 nn 0 := ⟨d5.1, d5.2.1, d5.2.2.1, d5.2.2.2.1, fun i hi => absurd hi (Nat.not_lt_zero i), fun i _ h8 => d5.2.2.2.2 _ _ (by omega)⟩
  obtain ⟨⟨Tf, Mi⟩, cl, sl, k1, tx2, V2, B2', L2, R2, O2, k2, k3, k4, k5, k6, k7, k8, k9⟩ := l_loop hw B9 hLB (by omega) (by omega) d4 hVL d6 (by omega)
  dsimp only at k2 k3 k9
  obtain ⟨j1, j2, j3⟩ := LB_LK k3 k5 (by omega) (by omega)
  have Q1 : QS M V0 nx T.length Td.length nn NL 0 0 (fun _ => (1, 0)) 1 0 162 Tf Mi := ⟨tx2, B2', L2, R2, O2, V2, k2, k4, j1, j2, j3, k6⟩
  -- offers
  obtain ⟨vo, N3, hvo, m1, m2, m3⟩ := Q_low hw (by omega) Q1 (bb := 9) (by decide) (by decide)
  obtain ⟨⟨Tg, Mj⟩, co, so, o1, o2, o3, o4, o5⟩ := o_loop (v := vo) hw m2 (by omega) (by omega) (by omega) (by decide) (by omega)
  dsimp only at o2 o5
  -- preferences
  obtain ⟨vp, N4, hvp, p1, p2, p3⟩ := Q_low hw (by omega) o2 (bb := 8) (by decide) (by decide)
  obtain ⟨⟨Th, Mk⟩, cp, sp, t1, t2, t3, t4, t5⟩ := p_loop (v := vp) hw p2 (by omega) (by omega) (by omega) (by decide) (by omega)
  dsimp only at t2 t5
  obtain ⟨T1, N, ce, se, w1, w2, w3, w4, w5⟩ := b_shareL (T0 := T) hw t2 (by omega) (by omega) (by decide) hD0 (fun b j _ hb => v5 b j hb) v1 v2 v3 hvk (by omega)
  refine ⟨T1, N, 1 + (1 + (1 + 0) + (cn + (1 + (cl + (co + (cp + ce)))))), 5 + (0 + (0 + 0) + (sn + (NL + (sl + (so + (sp + se)))))), T.length, Td.length, NL, nn, ?_, by omega, ?_, by omega, w5⟩
  · unfold f_L_randomLinker
    rw [n1, Option.bind_some]
    dsimp only
    rw [n6, Option.bind_some]
    dsimp only
    rw [show f_X12_below Tc Mf 312 ((4 : Int32) + 1) = _ from b1, Option.bind_some]
    dsimp only
    rw [c1, Option.bind_some, d1, Option.bind_some]
    dsimp only
    rw [show f_X12_below Td Mg 312 ((5 : Int32) + 1) = _ from f1, Option.bind_some]
    dsimp only
    rw [n7, Option.bind_some]
    dsimp only
    rw [k1, Option.bind_some]
    dsimp only
    rw [show f_X12_below Tf Mi 312 (9 : Int32) = _ from m1, Option.bind_some]
    dsimp only
    rw [o1, Option.bind_some]
    dsimp only
    rw [show f_X12_below Tg Mj 312 (8 : Int32) = _ from p1, Option.bind_some]
    dsimp only
    rw [t1, Option.bind_some]
    dsimp only
    rw [w1, nI_clamp (by omega)]
    simp only [cadd_some]
  · have hN5 : NL ≤ 5 := by omega
    exact Nat.le_trans (Nat.add_le_add_left (Nat.add_le_add_left (Nat.add_le_add d8 (Nat.add_le_add hN5 (Nat.add_le_add k8 (Nat.add_le_add o4 (Nat.add_le_add t4 w3))))) _) _) (by decide)
end PLK2
