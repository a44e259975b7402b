/-! THE RANDOM LINKER: all its libraries -/
section PLL
variable {T T1 T2 : gT} {M M0 M1 M2 N V V0 V' : gM} {c nx k n i s b a j l A B nn nl m NL t r o v kp bb : Nat} {L R O : Nat → Nat} {tx w st : List Nat} {x y z : Int32} {kk : Nat → Nat × Nat} {u : Option Nat}
theorem LB_si (h : LB T M l A B nn NL t L R O V) (ha : T[a]? = some (9, 0)) (hord : ∀ j, j < t → O j < a) : LB T (si M a j x) l A B nn NL t L R O V := by
  have k1 : ∀ {b kd p : Nat}, T[b]? = some (kd, p) → kd ≠ 9 → ∀ n, gi (si M a j x) b n = gi M b n := fun hb hk n => by rw [gi_si, if_neg (fun z => kne hb ha hk z.1)]
  obtain ⟨⟨p1, p2, p3, p4, p5⟩, ⟨q1, q2, q3⟩, ⟨u1, u2, u3, u4⟩, hls⟩ := h
  refine ⟨⟨p1, p2, (k1 p2 (by decide) 0).trans p3, (k1 p2 (by decide) 1).trans p4, p5⟩, ⟨q1, q2, q3⟩, ⟨u1, u2, u3, fun j hj => (k1 u3 (by decide) j).trans (u4 j hj)⟩, fun i hi => ?_⟩
  obtain ⟨w1, ⟨⟨x1, x2, x3, x4⟩, ⟨y1, y2, y3⟩, ⟨z1, z2, z3, z4⟩, o1, o2⟩, w3, w4⟩ := hls i hi
  have nea : L i ≠ a := by have := hord i hi; omega
  exact ⟨w1, ⟨⟨x1, x2, by rw [gi_si, if_neg (fun z => nea z.1)]; exact x3, by rw [gi_si, if_neg (fun z => nea z.1)]; exact x4⟩, ⟨y1, y2, y3⟩, ⟨z1, z2, z3, fun n hn => (k1 z3 (by decide) n).trans (z4 n hn)⟩, o1, o2⟩, w3, w4⟩
theorem LB_sr (h : LB T M l A B nn NL t L R O V) (ha : T[a]? = some (9, 0)) (hord : ∀ j, j < t → O j < a) : LB T (sr M a j u) l A B nn NL t L R O V := by
  have k1 : ∀ {b kd p : Nat}, T[b]? = some (kd, p) → kd ≠ 9 → ∀ n, gr (sr M a j u) b n = gr M b n := fun hb hk n => by rw [gr_sr, if_neg (fun z => kne hb ha hk z.1)]
  obtain ⟨⟨p1, p2, p3, p4, p5⟩, ⟨q1, q2, q3⟩, ⟨u1, u2, u3, u4⟩, hls⟩ := h
  refine ⟨⟨p1, p2, p3, p4, (k1 p2 (by decide) 4).trans p5⟩, ⟨q1, (k1 p2 (by decide) 2).trans q2, q3⟩, ⟨u1, (k1 p2 (by decide) 3).trans u2, u3, u4⟩, fun i hi => ?_⟩
  obtain ⟨w1, ⟨⟨x1, x2, x3, x4⟩, ⟨y1, y2, y3⟩, ⟨z1, z2, z3, z4⟩, o1, o2⟩, w3, w4⟩ := hls i hi
  have nea : L i ≠ a := by have := hord i hi; omega
  exact ⟨(k1 q3 (by decide) i).trans w1, ⟨⟨x1, x2, x3, x4⟩, ⟨y1, by rw [gr_sr, if_neg (fun z => nea z.1)]; exact y2, y3⟩, ⟨z1, by rw [gr_sr, if_neg (fun z => nea z.1)]; exact z2, z3, z4⟩, o1, o2⟩, w3, w4⟩
theorem b_130 [gW0] (hw : 900000 ≤ w0) (h : BS M0 T M tx nx) (hLB : LB T M l A B nn NL t L R O V) (hnn : nn ≤ 4) (ha : 313 ≤ a ∧ T[a]? = some (9, 0)) (hr : 313 ≤ r ∧ gr M a 2 = some r ∧ T[r]? = some (11, 0)) (har : a < r) (hbb : 0 < bb ∧ bb ≤ 1000) (hord : ∀ j, j < t → O j < a) (ht : t < NL) (hNL : NL ≤ 5) (hRX : RX V0 tx V t nn 0 0 kk m) (hVL : VL M0 V nn t) (hl : tx.length + 26 ≤ 700) (hT : T.length + 8 ≤ 900000) : LQ M0 V0 nx l A nn NL t kk m (tx.length + 25) 8 1110 T.length (f_L_randomLinker_130 T M 0 311 312 l (nI NL) (nI t) a a 312 (nI bb)) := by
  obtain ⟨v, x, h1, h2, h3, h4⟩ := b_low hw (by omega) h (b := bb) hbb.1 (by omega)
  have B2 : BS M0 T (si (si M 312 0 x) a 0 (nI v)) tx nx := BS_si hw (by omega) h3 ha.1
  have L2 := LB_si (j := 0) (x := nI v) (LB_ke h4 hLB) ha.2 hord
  obtain ⟨u, x2, g1, g2, g3, g4⟩ := b_low hw (by omega) B2 (b := 2) (by decide) (by decide)
  have L3 := LB_ke g4 L2
  obtain ⟨-, p2, p3⟩ := gKe_tr (T1 := T) (M1 := si (si M 312 0 x) a 0 (nI v)) (M := si (si M 312 0 x) a 0 (nI v)) (fun b _ x hx => ⟨hx, fun _ => rfl, fun _ => rfl⟩) g4 a ha.1 _ ha.2
  unfold f_L_randomLinker_130
  rw [h2, Option.bind_some]
  dsimp only
  rw [show f_X12_below T (si (si M 312 0 x) a 0 (nI v)) 312 (2 : Int32) = _ from g2, Option.bind_some]
  have fin : ∀ {kp : Nat}, (kp = 0 ∨ kp = 1) → LQ M0 V0 nx l A nn NL t kk m (tx.length + 25) 8 1110 T.length (f_L_randomLinker_151 T (si (si (si M 312 0 x) a 0 (nI v)) 312 0 x2) 0 311 312 l (nI NL) (nI t) a a (nI kp)) := fun hk => b_151 hw g3 L3 hnn ⟨ha.1, ha.2, by rw [p2, gi_si, if_pos ⟨rfl, rfl⟩]⟩ ⟨hr.1, (p3 2).trans hr.2.1, hr.2.2⟩ har (by omega) hk hord ht hNL hRX hVL hl hT
  by_cases hu : u = 0
  · rw [if_neg (show ¬ ¬ nI u = 0 from fun z => z (by rw [hu]; rfl))]
    exact fin (kp := 1) (Or.inr rfl)
  · rw [if_pos (show ¬ nI u = 0 from fun z => hu ((nI_eq (b := 0) (by omega) (by decide)).mp z))]
    exact fin (kp := 0) (Or.inl rfl)
theorem b_95 [gW0] (hw : 900000 ≤ w0) (h : BS M0 T M tx nx) (hLB : LB T M l A B nn NL t L R O V) (hnn : nn ≤ 4) (ht : t < NL) (hNL : NL ≤ 5) (hRX : RX V0 tx V t nn 0 0 kk m) (hVL : VL M0 V nn t) (hl : tx.length + 26 ≤ 700) (hT : T.length + 10 ≤ 900000) : LQ M0 V0 nx l A nn NL t kk m (tx.length + 25) 10 1115 T.length (f_L_randomLinker_B95 T M 0 311 312 l (nI NL) (nI t)) := by
  have hl0 := hLB.1
  obtain ⟨k1, k2, k3, k4⟩ := BS_kd h hl0.2.1
  have hTl : 313 ≤ T.length := h.2.2.1
  have hord : ∀ j, j < t → O j < T.length := fun j hj => sh_lt (hLB.2.2.2 j hj).2.1.2.2.1.2.2.1
  have g1 : gTo T M (T ++ [(9, 0)]) (zr M T.length) 1 := gTo_new
  have s1 : (T ++ [((9 : Nat), (0 : Nat))])[T.length]? = some (9, 0) := sh_new
  have l1 : (T ++ [((9 : Nat), (0 : Nat))]).length = T.length + 1 := len_1
  have n1 := gnew_ok (T := T) (M := M) (sh := (9, 0)) (by omega)
  generalize hTT : T ++ [((9 : Nat), (0 : Nat))] = Ta at g1 s1 l1 n1
  generalize hMM : zr M T.length = Ma at g1 n1
  have g2 : gTo Ta Ma (Ta ++ [(11, 0)]) (zr Ma Ta.length) 1 := gTo_new
  have s2 : (Ta ++ [((11 : Nat), (0 : Nat))])[Ta.length]? = some (11, 0) := sh_new
  have l2 : (Ta ++ [((11 : Nat), (0 : Nat))]).length = Ta.length + 1 := len_1
  have n2 := gnew_ok (T := Ta) (M := Ma) (sh := (11, 0)) (by omega)
  have s1' := gTo_sh g2 s1
  generalize hTb : Ta ++ [((11 : Nat), (0 : Nat))] = Tb at g2 s2 l2 n2 s1'
  generalize hMb : zr Ma Ta.length = Mb at g2 n2
  have B2 := BS_to g2 (BS_to g1 h)
  have L2 := LB_ke (gKe_tr (gKe_To g1) (gKe_To g2)) hLB
  have B3 : BS M0 Tb (sr Mb T.length 2 (some Ta.length)) tx nx := BS_sr hw (by omega) B2 hTl
  have L3 := LB_sr (j := 2) (u := some Ta.length) L2 s1' hord
  obtain ⟨u, x, g3, g4, g5, g6⟩ := b_low hw (by omega) B3 (b := 3) (by decide) (by decide)
  have L4 := LB_ke g6 L3
  obtain ⟨p1, p2, p3⟩ := g6 T.length hTl _ s1'
  have pre : f_L_randomLinker_B95 T M 0 311 312 l (nI NL) (nI t) = cadd 1 4 (cadd 1 0 (if ¬ nI u = 0 then f_L_randomLinker_130 Tb (si (sr Mb T.length 2 (some Ta.length)) 312 0 x) 0 311 312 l (nI NL) (nI t) T.length T.length 312 (6 : Int32) else f_L_randomLinker_130 Tb (si (sr Mb T.length 2 (some Ta.length)) 312 0 x) 0 311 312 l (nI NL) (nI t) T.length T.length 312 (1000 : Int32))) := by
    unfold f_L_randomLinker_B95 f_X9_init
    rw [k1, Option.bind_some, k2, Option.bind_some, k3, Option.bind_some, k4, Option.bind_some, if_neg (nI_ge ht (by omega)), n1, Option.bind_some]
    dsimp only
    rw [n2, Option.bind_some, cadd_some, Option.bind_some]
    dsimp only
    rw [show f_X12_below Tb (sr Mb T.length 2 (some Ta.length)) 312 (3 : Int32) = _ from g4, Option.bind_some]
  have fin : ∀ {bb : Nat}, (0 < bb ∧ bb ≤ 1000) → LQ M0 V0 nx l A nn NL t kk m (tx.length + 25) 10 1115 T.length (cadd 1 4 (cadd 1 0 (f_L_randomLinker_130 Tb (si (sr Mb T.length 2 (some Ta.length)) 312 0 x) 0 311 312 l (nI NL) (nI t) T.length T.length 312 (nI bb)))) := fun hbb => by
    obtain ⟨T', M', c, s, tx', B', L', R', O', V', q1, q2, q3, q4, q5, q6, q7, q8, q9⟩ := b_130 hw g5 L4 hnn ⟨hTl, s1'⟩ ⟨show 313 ≤ Ta.length by omega, (p3 2).trans (by rw [gr_sr, if_pos ⟨rfl, rfl⟩]), s2⟩ (by omega) hbb hord ht hNL hRX hVL hl (by omega)
    exact ⟨T', M', 1 + (1 + c), 4 + (0 + s), tx', B', L', R', O', V', by rw [q1, cadd_some, cadd_some], q2, q3, q4, q5, q6, by omega, by omega, by omega⟩
  rw [pre]
  by_cases hu : u = 0
  · rw [if_neg (show ¬ ¬ nI u = 0 from fun z => z (by rw [hu]; rfl))]
    exact fin (bb := 1000) (by decide)
  · rw [if_pos (show ¬ nI u = 0 from fun z => hu ((nI_eq (b := 0) (by omega) (by decide)).mp z))]
    exact fin (bb := 6) (by decide)
theorem l_loop [gW0] (hw : 900000 ≤ w0) (h : BS M0 T M tx nx) (hLB : LB T M l A B nn NL 0 L R O V) (hnn : nn ≤ 4) (hNL : NL ≤ 5) (hRX : RX V0 tx V 0 nn 0 0 kk m) (hVL : VL M0 V nn 0) (h5 : tx.length ≤ 37) (hT : T.length + 60 ≤ 900000) : ∃ e c s, gloopc (fun x => f_L_randomLinker_B95 x.2.1 x.2.2 0 311 312 l (nI NL) x.1) gFU ((0 : Int32), T, M) = some (e, c, s) ∧ ∃ tx1 V1 B1 L1 R1 O1, BS M0 e.1 e.2 tx1 nx ∧ LB e.1 e.2 l A B1 nn NL NL L1 R1 O1 V1 ∧ RX V0 tx1 V1 NL nn 0 0 kk m ∧ VL M0 V1 nn NL ∧ tx1.length ≤ 162 ∧ c ≤ 50 ∧ s ≤ 5575 ∧ e.1.length = T.length + c := by
  refine loopc_ex (P := fun t y c s => y.1 = nI t ∧ t ≤ NL ∧ ∃ tx1 V1 B1 L1 R1 O1, BS M0 y.2.1 y.2.2 tx1 nx ∧ LB y.2.1 y.2.2 l A B1 nn NL t L1 R1 O1 V1 ∧ RX V0 tx1 V1 t nn 0 0 kk m ∧ VL M0 V1 nn t ∧ tx1.length ≤ 37 + 25 * t ∧ c ≤ 10 * t ∧ s ≤ 1115 * t ∧ y.2.1.length = T.length + c) NL (Nat.lt_of_le_of_lt hNL (by decide)) ⟨rfl, Nat.zero_le _, tx, V, B, L, R, O, h, hLB, hRX, hVL, by omega, by omega, by omega, rfl⟩ (fun t y c s _ hP => ?_)
  obtain ⟨y1, Ta, Ma⟩ := y
  obtain ⟨rfl, ht, tx1, V1, B1, L1, R1, O1, p1, p2, p3, p4, p5, p6, p7, p8⟩ := hP
  dsimp only at p1 p2 p8
  dsimp only
  by_cases e : t = NL
  · subst e
    obtain ⟨k1, k2, k3, k4⟩ := BS_kd p1 p2.1.2.1
    unfold f_L_randomLinker_B95
    rw [k1, Option.bind_some, k2, Option.bind_some, k3, Option.bind_some, k4, Option.bind_some, if_pos (nI_le (Nat.le_refl _) (by omega))]
    exact Or.inl ⟨(Ta, Ma), 0, 0, rfl, tx1, V1, B1, L1, R1, O1, p1, p2, p3, p4, by omega, by omega, by omega, p8⟩
  · have hlt : t < NL := by omega
    obtain ⟨T', M', c', s', tx', B', L', R', O', V', q1, q2, q3, q4, q5, q6, q7, q8, q9⟩ := b_95 hw p1 p2 hnn hlt hNL p3 p4 (by omega) (by omega)
    exact Or.inr ⟨hlt, _, c', s', q1, rfl, hlt, tx', V', B', L', R', O', q2, q3, q4, q5, by omega, by omega, by omega, by show T'.length = _; omega⟩
end PLL
