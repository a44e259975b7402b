/-! THE RANDOM LINKER: its offers -/
def DJ (L R O : Nat → Nat) (B NL : Nat) : Prop := (∀ i j, i < NL → j < NL → L i = L j → i = j) ∧ (∀ i j, i < NL → j < NL → O i = O j → i = j) ∧ (∀ i j, i < NL → j < NL → O i ≠ R j) ∧ ∀ i, i < NL → O i ≠ B
/-- the draft with libraries, offers and preferences -/
def VQ (M0 V : gM) (NL nn pm : Nat) : Prop := (∀ b j, gr V b j = gr M0 b j) ∧ gi V 5 1 = nI NL ∧ gi V 5 2 = nI nn ∧ (∀ i, i < NL → gLib V 5 NL nn i ∧ dRk V 5 i = nI i ∧ dPk V 5 i ≤ pm) ∧ ∀ i, NL ≤ i → i < 8 → dKp V 5 i = dKp M0 5 i
/-- the linker so far, its draft and its text -/
def QS [gW0] (M0 V0 : gM) (nx l A nn NL a b : Nat) (kk : Nat → Nat × Nat) (m pm tb : Nat) (T : gT) (M : gM) : Prop := ∃ tx B L R O V, BS M0 T M tx nx ∧ RX V0 tx V NL nn a b kk m ∧ LK P9 T M l A B L R O NL (fun t => t) V 5 kk m ∧ DJ L R O B NL ∧ VQ M0 V NL nn pm ∧ tx.length ≤ tb
def QR [gW0] (M0 V0 : gM) (nx l A nn NL a b : Nat) (kk : Nat → Nat × Nat) (m pm tb C S len : Nat) (i7 : Int32) (res : Option (((gT × gM) ⊕ (Int32 × gT × gM)) × Nat × Nat)) : Prop := ∃ T' M' c s, res = some (.inr (i7, T', M'), c, s) ∧ QS M0 V0 nx l A nn NL a b kk m pm tb T' M' ∧ c ≤ C ∧ s ≤ S ∧ T'.length = len + c
section POF
variable {T T1 T2 : gT} {M M0 M1 M2 N V V0 V' : gM} {c nx n i s b a j l A B nn nl m NL t r o v q f pm tb C S len : Nat} {L R O : Nat → Nat} {tx w st : List Nat} {x y z i7 o1 : Int32} {kk : Nat → Nat × Nat} {u : Option Nat}
theorem LB_LK (h : LB T M l A B nn NL NL L R O V) (hV : VL M0 V nn NL) (hNL : NL ≤ 5) (hnn : nn ≤ 4) : LK P9 T M l A B L R O NL (fun t => t) V 5 (fun _ => (1, 0)) 1 ∧ DJ L R O B NL ∧ VQ M0 V NL nn 0 := by
  obtain ⟨⟨p1, p2, p3, p4, p5⟩, ⟨q1, q2, q3⟩, ⟨u1, u2, u3, u4⟩, hls⟩ := h
  obtain ⟨v1, v2, v3, v4, v5, v6⟩ := hV
  have e1 : dNl V 5 = NL := by rw [dNl, v2, nI_clamp (by omega)]
  have e2 : dNn V 5 = nn := by rw [dNn, v3, nI_clamp (by omega)]
  have e3 : ∀ i, i < NL → dPk V 5 i = 0 := fun i hi => by rw [dPk, (v5 i hi).2.2.2.1]; rfl
  refine ⟨⟨⟨p1, p2, p3.trans v3.symm, p4.trans v4.symm⟩, ⟨q1, q2, by rw [e1]; exact q3⟩, ⟨u1, u2, u3⟩, fun i hi => ?_, ⟨by omega, fun t ht => ⟨by rw [e1]; exact ht, u4 t ht, (v5 t ht).2.2.1⟩, fun i hi => ?_⟩, Or.inl ⟨p5, rfl, rfl⟩⟩, ⟨fun i j hi hj e => ?_, fun i j hi hj e => ?_, fun i j hi hj e => ?_, fun i hi e => ?_⟩, v1, v2, v3, fun i hi => ⟨?_, (v5 i hi).2.2.1, by rw [e3 i hi]; exact Nat.le_refl _⟩, v6⟩
  · rw [e1] at hi
    obtain ⟨w1, ⟨⟨x1, x2, x3, x4⟩, ⟨y1, y2, y3⟩, ⟨z1, z2, z3, z4⟩, o1, o2⟩, w3, w4⟩ := hls i hi
    rw [e2, e3 i hi]
    exact ⟨⟨x1, w1, x2, x3, x4⟩, ⟨y1, y2, y3, fun j hj => absurd hj (Nat.not_lt_zero j)⟩, z1, z2, z3, fun n hn => (z4 n hn).trans ((v5 i hi).2.2.2.2 n (by omega)).symm⟩
  · rw [e1] at hi
    exact Or.inr ⟨i, hi, rfl⟩
  · rcases Nat.lt_trichotomy i j with h | h | h
    · have h1 := (hls j hj).2.2.2 i h
      have h2 := (hls i hi).2.1.2.2.2
      omega
    · exact h
    · have h1 := (hls i hi).2.2.2 j h
      have h2 := (hls j hj).2.1.2.2.2
      omega
  · rcases Nat.lt_trichotomy i j with h | h | h
    · have h1 := (hls j hj).2.2.2 i h
      have h2 := (hls j hj).2.1.2.2.2
      omega
    · exact h
    · have h1 := (hls i hi).2.2.2 j h
      have h2 := (hls i hi).2.1.2.2.2
      omega
  · have h3 := (hls i hi).2.1.2.2.2
    have h4 := (hls j hj).2.1.2.2.2
    rcases Nat.lt_trichotomy i j with h | h | h
    · have h1 := (hls j hj).2.2.2 i h
      omega
    · subst h
      omega
    · have h1 := (hls i hi).2.2.2 j h
      omega
  · have := (hls i hi).2.2.1
    omega
  · obtain ⟨⟨v, hv, hv2⟩, h2, h3, h4, h5⟩ := v5 i hi
    exact ⟨⟨v, hv, hv2⟩, h2, Or.inr ⟨i, by omega, h3⟩, ⟨by rw [e3 i hi]; exact h4, by rw [e3 i hi]; exact Nat.zero_le _⟩, fun k hk => by rw [e3 i hi] at hk; exact absurd hk (Nat.not_lt_zero k), fun n hn => Or.inl (h5 n hn)⟩
theorem VQ_offer (h : VQ M0 V NL nn pm) (hi : i < NL) (hN : NL ≤ 5) (hq : q < nn) (ho : (∃ v, v ≤ 9999 ∧ o1 = nI v) ∨ ∃ f, f < nn ∧ o1 = -2 - nI f) : VQ M0 (si V (5 + 6 + 3 * i) q o1) NL nn pm := by
  obtain ⟨h1, h2, h3, h4, h5⟩ := h
  have nv : ∀ {b j : Nat}, ¬ (b = 5 + 6 + 3 * i ∧ j = q) → gi (si V (5 + 6 + 3 * i) q o1) b j = gi V b j := fun hn => by rw [gi_si, if_neg hn]
  refine ⟨h1, (nv (by omega)).trans h2, (nv (by omega)).trans h3, fun i' hi' => ?_, fun i' hi' h8 => (nv (by omega)).trans (h5 i' hi' h8)⟩
  obtain ⟨⟨g1, g2, g3, g4, g5, g6⟩, r1, r2⟩ := h4 i' hi'
  have ek : dPk (si V (5 + 6 + 3 * i) q o1) 5 i' = dPk V 5 i' := congrArg Int32.toNatClampNeg (nv (by omega))
  refine ⟨⟨?_, ?_, ?_, ⟨?_, by rw [ek]; exact g4.2⟩, fun k hk => ?_, fun n hn => ?_⟩, (nv (by omega)).trans r1, by rw [ek]; exact r2⟩
  · rw [show dTr (si V (5 + 6 + 3 * i) q o1) 5 i' = dTr V 5 i' from nv (by omega)]; exact g1
  · rw [show dKp (si V (5 + 6 + 3 * i) q o1) 5 i' = dKp V 5 i' from nv (by omega)]; exact g2
  · rw [show dRk (si V (5 + 6 + 3 * i) q o1) 5 i' = dRk V 5 i' from nv (by omega)]; exact g3
  · rw [ek]; exact (nv (by omega)).trans g4.1
  · rw [ek] at hk
    rw [show dPr (si V (5 + 6 + 3 * i) q o1) 5 i' k = dPr V 5 i' k from nv (by omega)]; exact g5 k hk
  · by_cases e : i' = i ∧ n = q
    · rw [show dOf (si V (5 + 6 + 3 * i) q o1) 5 i' n = o1 by
        show gi (si V (5 + 6 + 3 * i) q o1) (5 + 6 + 3 * i') n = o1
        rw [gi_si, if_pos ⟨by rw [e.1], e.2⟩]]
      exact Or.inr ⟨by omega, ho⟩
    · rw [show dOf (si V (5 + 6 + 3 * i) q o1) 5 i' n = dOf V 5 i' n from nv (fun z => e ⟨by omega, z.2⟩)]
      exact g6 n hn
theorem m2_lo : ∀ f, f < 4 → ¬ (0 : Int32) ≤ -2 - nI f ∧ (-2 : Int32) - (-2 - nI f) = nI f := by decide +kernel
theorem b_389 [gW0] (hw : 900000 ≤ w0) (h : BS M0 T M tx nx) (hL : LK P9 T M l A B L R O NL (fun t => t) V 5 kk m) (hD : DJ L R O B NL) (hV : VQ M0 V NL nn pm) (hR : RX V0 tx V NL nn a b kk m) (hNL : NL ≤ 5) (hnn : nn ≤ 4) (hi : i < NL) (hq : q < nn) (hno : dOf V 5 i q = -1) (ho : (∃ v, v ≤ 9999 ∧ o1 = nI v) ∨ ∃ f, f < nn ∧ o1 = -2 - nI f) (hl : tx.length + 22 ≤ 700) (hT : T.length + 18 ≤ 900000) : QR M0 V0 nx l A nn NL a b kk m pm (tx.length + 21) 18 3300 T.length (i7 + (-1)) (f_L_randomLinker_389 T M 0 311 312 l (nI NL) i7 (nI i) (nI q) o1) := by
  have e1 : dNl V 5 = NL := by rw [dNl, hV.2.1, nI_clamp (by omega)]
  have e2 : dNn V 5 = nn := by rw [dNn, hV.2.2.1, nI_clamp (by omega)]
  have hi' : i < dNl V 5 := by omega
  have hO := (hL.2.2.2.1 i hi').2.2
  rw [e2] at hO
  have hL1 := LK5_offp (n0 := q) (x := o1) hL hi' (fun i j hi hj => hD.2.1 i j (by omega) (by omega)) (fun j hj => hD.2.2.1 i j hi (by omega)) (hD.2.2.2 i hi)
  have B1 : BS M0 T (si M (O i) q o1) tx nx := BS_si hw (by omega) h hO.1
  have V1 := VQ_offer hV hi hNL hq ho
  have g22 : (gStrs.getD 22 []).length = 6 := by decide +kernel
  have g19 : (gStrs.getD 19 []).length = 1 := by decide +kernel
  have g17 : (gStrs.getD 17 []).length = 1 := by decide +kernel
  have g23 : (gStrs.getD 23 []).length = 3 := by decide +kernel
  have lw1 := lbW_len i (by omega)
  have lw2 := nmW_len q (by omega)
  have lw0 := (lb_lw (i := i) (by omega)).1
  obtain ⟨N1, c1, c2, c3⟩ := b_con (i := 22) hw (by omega) B1 (by decide) (by omega)
  obtain ⟨s1, T2, M2, cc1, sl1, N2, d1, d2, d3, d4, d5, d6, d7, d8, d9⟩ := b_lib (k := i) hw (by omega) c2 (by omega) (by rw [List.length_append]; omega)
  obtain ⟨N3, f1, f2, f3⟩ := b_con (i := 19) hw (by omega) d4 (by decide) (by rw [List.length_append, List.length_append]; omega)
  obtain ⟨s4, T4, M4, cc4, sl4, N4, k1, k2, k3, k4, k5, k6, k7, k8, k9⟩ := b_nam (k := q) hw (by omega) f2 (by omega) (by rw [List.length_append, List.length_append, List.length_append]; omega)
  obtain ⟨N5, m1, m2, m3⟩ := b_con (i := 19) hw (by omega) k4 (by decide) (by rw [List.length_append, List.length_append, List.length_append, List.length_append]; omega)
  have hK := gKe_tr (gKe_tr (gKe_tr (gKe_tr c3 d5) f3) k5) m3
  have hlen : (tx ++ gStrs.getD 22 [] ++ lbW i ++ gStrs.getD 19 [] ++ nmW q ++ gStrs.getD 19 []).length = tx.length + 6 + (lbW i).length + 1 + (nmW q).length + 1 := by rw [List.length_append, List.length_append, List.length_append, List.length_append, List.length_append, g22, g19]
  have hast : ast T M (O i) (nI q) o1 = some (si M (O i) q o1) := ast_ok hO.2.2.1 hq (by omega)
  -- the end of the statement
  have fin : ∀ (T6 : gT) (N6 : gM) (tl : List Nat) (c6 : Nat), BS M0 T6 N6 (tx ++ gStrs.getD 22 [] ++ lbW i ++ gStrs.getD 19 [] ++ nmW q ++ gStrs.getD 19 [] ++ tl) nx → gKe P9 T4 N5 T6 N6 → ofT o1 tl nn → tl.length ≤ 5 → T6.length = T4.length + c6 → c6 ≤ 6 → ∃ N7, f_L_randomLinker_486 T6 N6 0 311 312 l (nI NL) i7 = some (.inr (i7 + (-1), T6, N7), 0, 0) ∧ QS M0 V0 nx l A nn NL a b kk m pm (tx.length + 21) T6 N7 := fun T6 N6 tl c6 b6 k6 ht htl hl6 hc6 => by
    obtain ⟨N7, y1, y2, y3⟩ := b_con (i := 17) hw (by omega) b6 (by decide) (by rw [List.length_append, hlen]; omega)
    have hst : tx ++ gStrs.getD 22 [] ++ lbW i ++ gStrs.getD 19 [] ++ nmW q ++ gStrs.getD 19 [] ++ tl ++ gStrs.getD 17 [] = tx ++ (gStrs.getD 22 [] ++ lbW i ++ gStrs.getD 19 [] ++ nmW q ++ gStrs.getD 19 [] ++ tl ++ gStrs.getD 17 []) := by simp only [List.append_assoc]
    rw [hst] at y2
    have hsl : (gStrs.getD 22 [] ++ lbW i ++ gStrs.getD 19 [] ++ nmW q ++ gStrs.getD 19 [] ++ tl ++ gStrs.getD 17 []).length = 6 + (lbW i).length + 1 + (nmW q).length + 1 + tl.length + 1 := by rw [List.length_append, List.length_append, List.length_append, List.length_append, List.length_append, List.length_append, g22, g19, g17]
    refine ⟨N7, by unfold f_L_randomLinker_486 f_L_randomLinker_493; rw [y1, Option.bind_some], _, B, L, R, O, _, y2, RX_ext hR (SS_offer hi hq hno ht) (by rw [hsl]; omega) (by rw [hsl]; omega), LK_ke (gKe_tr (gKe_tr hK k6) y3) hL1, hD, V1, by rw [List.length_append, hsl]; omega⟩
  have pre : f_L_randomLinker_389 T M 0 311 312 l (nI NL) i7 (nI i) (nI q) o1 = cadd cc1 sl1 (cadd cc4 sl4 (if 0 ≤ o1 then (f_L_writeNumber T4 N5 0 311 o1).bind fun x27 => f_L_randomLinker_486 T4 x27 0 311 312 l (nI NL) i7 else (f_L_write T4 N5 0 311 (gSB + 23)).bind fun x28 => (f_L_wordOf T4 x28 ((-2 : Int32) - o1) (1 : Int32)).bind fun x29 => cadd x29.2.1 x29.2.2 <| (gks x29.1.2.1 x29.1.1).bind fun _ => (f_L_write x29.1.2.1 x29.1.2.2 0 311 x29.1.1).bind fun x35 => f_L_randomLinker_486 x29.1.2.1 x35 0 311 312 l (nI NL) i7)) := by
    unfold f_L_randomLinker_389
    rw [LK_all hL, Option.bind_some, LK_lib (by omega) hL hi', Option.bind_some, LK_off hL hi', Option.bind_some, hast, Option.bind_some, c1, Option.bind_some, d1, Option.bind_some]
    dsimp only
    rw [d2, Option.bind_some, d3, Option.bind_some, f1, Option.bind_some, k1, Option.bind_some]
    dsimp only
    rw [k2, Option.bind_some, k3, Option.bind_some, m1, Option.bind_some]
  rw [pre]
  rcases ho with ⟨v, hv, rfl⟩ | ⟨f, hf, rfl⟩
  · have ld := (dg_ok (v := v) (by omega)).2
    obtain ⟨N6, y1, y2, y3⟩ := b_dig (n := v) hw m2 hv (by rw [hlen]; omega)
    obtain ⟨N7, z1, z2⟩ := fin T4 N6 (dg v) 0 y2 y3 (Or.inl ⟨v, hv, rfl, rfl⟩) (by omega) (by omega) (by omega)
    rw [if_pos (show (0 : Int32) ≤ nI v from nI_le (a := 0) (Nat.zero_le v) (by omega)), y1, Option.bind_some, z1, cadd_some, cadd_some]
    exact ⟨T4, N7, _, _, rfl, z2, by omega, by omega, by omega⟩
  · have lf := nmW_len f (by omega)
    obtain ⟨n1, n2⟩ := m2_lo f (by omega)
    obtain ⟨N6, y1, y2, y3⟩ := b_con (i := 23) hw (by omega) m2 (by decide) (by rw [hlen]; omega)
    obtain ⟨s8, T8, M8, cc8, sl8, N8, j1, j2, j3, j4, j5, j6, j7, j8, j9⟩ := b_nam (k := f) hw (by omega) y2 (by omega) (by rw [List.length_append, hlen]; omega)
    rw [List.append_assoc _ (gStrs.getD 23 []) (nmW f)] at j4
    obtain ⟨N7, z1, z2⟩ := fin T8 N8 (gStrs.getD 23 [] ++ nmW f) cc8 j4 (gKe_tr y3 j5) (Or.inr ⟨f, hf, rfl, rfl⟩) (by rw [List.length_append]; omega) j8 j6
    rw [if_neg n1, y1, Option.bind_some, n2, j1, Option.bind_some]
    dsimp only
    rw [j2, Option.bind_some, j3, Option.bind_some, z1, cadd_some, cadd_some, cadd_some]
    exact ⟨T8, N7, _, _, rfl, z2, by omega, by omega, by omega⟩
end POF
