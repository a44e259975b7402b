/-! THE RANDOM LINKER: its text is loaded -/
section PLO
variable {T T0 T1 T2 : gT} {M M0 M1 M2 N V V0 V' : gM} {c nx n i s b a j l A B nn nl m NL t r o v q f pm pn tb C S len sz dn bq D : Nat} {L R O : Nat → Nat} {tx w st : List Nat} {x y z i7 o1 : Int32} {kk k : Nat → Nat × Nat} {u : Option Nat}
theorem gWt_w {I : gW0} (J : gW0) (hI : 900000 ≤ @w0 I) (hT : T.length ≤ 900000) (h : @gWt I T M D k m) : @gWt J T M D k m := by
  obtain ⟨w, g4, hw1, g0, hc, g1, hs, hww, hk⟩ := h
  refine ⟨w, g4, hw1, g0, hc, g1, hs, ?_, hk⟩
  have := sh_lt hw1
  rcases hww with h | h | h | h
  · exact Or.inl h
  · exact Or.inr (Or.inl h)
  · exact Or.inr (Or.inr (Or.inl h))
  · omega
/-- where the place of the weight lies outside, any other will do -/
theorem cInv_w {I : gW0} (J : gW0) (hI : 900000 ≤ @w0 I) (hT : T.length ≤ 900000) (h : @cInv I T M k m nx sz dn bq) : @cInv J T M k m nx sz dn bq := by
  obtain ⟨⟨a1, a2, a3, a4, a5, a6, a7, a8⟩, i3, ⟨hnx, hsz, j1, j2, j4, j5⟩, i5, i6, i7⟩ := h
  refine ⟨⟨a1, a2, a3, gWt_w J hI hT a4, a5, a6, a7, a8⟩, i3, ⟨hnx, hsz, j1, j2, fun q hq => ?_, fun q hq hd => ?_⟩, i5, i6, i7⟩
  · obtain ⟨k', m', h1, h2, h3⟩ := j4 q hq
    exact ⟨k', m', h1, gWt_w J hI hT h2, h3⟩
  · obtain ⟨h1, h2, h3⟩ := j5 q hq hd
    exact ⟨h1, gWt_w J hI hT h2, h3⟩
theorem lt_rest [gW0] (hw : 900000 ≤ w0) (h : BS M0 T M tx nx) (hl : tx.length ≤ 700) : ∃ N bq, f_L_loadText T M 0 311 = f_L_loadText_16 T N 0 311 (nI tx.length) ∧ cInv T N (fun _ => (1, 0)) 1 nx 0 0 bq ∧ tx.length ≤ bq ∧ (∀ j, j < tx.length → tx.getD j 0 < 128 ∧ gi N 1 j = nI (tx.getD j 0)) ∧ fr wPt M N := by
  obtain ⟨⟨hI, h3, hlo, g0, hb, hW⟩, -⟩ := h
  have hg0 : ald T M 311 (0 : Int32) = some (nI tx.length) := by
    have := ald_ok (M := M) h3 (k := 0) (by decide) (by decide)
    rw [g0] at this
    exact this
  have ir : irem (nI tx.length) (20 : Int32) = nI (tx.length % 20) := rem_nI (b := 20) (by omega) (by decide)
  unfold f_L_loadText
  rw [hg0, Option.bind_some, ir]
  by_cases e : tx.length % 20 = 0
  · rw [if_pos (show nI (tx.length % 20) ≤ 0 from nI_le (b := 0) (by omega) (by decide))]
    exact ⟨M, _, rfl, hI, by omega, fun j hj => ⟨hlo j hj, hb j (by omega)⟩, fr_refl⟩
  · rw [if_neg (show ¬ nI (tx.length % 20) ≤ 0 from nI_ge (a := 0) (by omega) (by omega))]
    obtain ⟨N, f1, f2, f3, f4, f5, f6, f7⟩ := t_flush hw hI h3 hW (gd_lo hlo) (by omega)
    rw [f1, Option.bind_some]
    refine ⟨N, _, rfl, f2, by omega, fun j hj => ⟨hlo j hj, ?_⟩, f7⟩
    by_cases ej : 20 * (tx.length / 20) ≤ j
    · exact f3 j ej (by omega)
    · rw [f4 j (by omega)]
      exact hb j (by omega)
theorem PF_bs (h : PF tx) : bs (fun j => tx.getD j 0) 0 (gStrs.getD 13 []) ∧ 5 ≤ tx.length := by
  obtain ⟨r, rfl⟩ := h
  have g13 : (gStrs.getD 13 []).length = 5 := by decide +kernel
  refine ⟨fun i hi => ?_, by rw [List.length_append]; omega⟩
  show (gStrs.getD 13 [] ++ r).getD (0 + i) 0 = (gStrs.getD 13 []).getD i 0
  rw [Nat.zero_add, List.getD_eq_getElem?_getD, List.getElem?_append_left hi, ← List.getD_eq_getElem?_getD]
theorem b_732 [I : gW0] (hw : 900000 ≤ w0) (h : QS M0 V0 nx l A nn NL a b kk m pm tb T M) (hNL : NL ≤ 5) (hnn : nn ≤ 4) (htb : tb ≤ 660) (hD0 : gDat T0 M0 5) (hV0 : ∀ b j, dIn 5 b j → b ≠ 5 → gi V0 b j = gi M0 b j) (v1 : gi V0 5 1 = 0) (v2 : gi V0 5 2 = 0) (v3 : gi V0 5 3 = 50) (hvk : ∀ i, i < 8 → dKp M0 5 i = 0 ∨ dKp M0 5 i = 1) (hok : wOK kk m) (hm : m < 800) (hT : T.length + 3 ≤ 900000) : ∃ T1 N, f_L_randomLinker_732 T M 0 311 l (nI NL) = some ((l, T1, N), 3, 813) ∧ T1.length = T.length + 3 ∧ ∃ (J : gW0) (L R O : Nat → Nat), @SL J T1 N 312 l A L R O NL nn kk m := by
  obtain ⟨tx, B, L, R, O, V, h1, h2, h3, h4, h5, h6⟩ := h
  have e1 : dNl V 5 = NL := by rw [dNl, h5.2.1, nI_clamp (by omega)]
  have e2 : dNn V 5 = nn := by rw [dNn, h5.2.2.1, nI_clamp (by omega)]
  have hT3 := h1.2.2.1
  obtain ⟨hbs, hl5⟩ := PF_bs h2.1
  obtain ⟨N7, bq, c1, c2, c3, c4, c5⟩ := lt_rest hw h1 (by omega)
  have hs311 := h1.1.2.1
  have c2' : cInv T (si N7 311 0 0) (fun _ => (1, 0)) 1 nx 0 0 bq := (cInv_ce (M := N7) (T1 := T) (M1 := si N7 311 0 0) (gCe_311 hw (fun b hb => ⟨fun j => by rw [gi_si, if_neg (fun z => hb z.1)], fun j => rfl⟩)) c2).1
  have hDa := c2'.2.2.2.2.1 5 (Or.inl rfl)
  have hval : gVal T V 5 := by
    refine ⟨⟨hDa.1, hDa.2.1, (h5.1 _ _).trans hD0.2.2.1, fun i hi => ⟨(hDa.2.2.2 i hi).1, (h5.1 _ _).trans (hD0.2.2.2 i hi).2.1, (h5.1 _ _).trans (hD0.2.2.2 i hi).2.2.1, (h5.1 _ _).trans (hD0.2.2.2 i hi).2.2.2⟩⟩, by omega, by omega, by rw [e1]; exact h5.2.1, by rw [e2]; exact h5.2.2.1, fun i hi => ?_⟩
    rw [e1, e2]
    exact (h5.2.2.2.1 i (by omega)).1
  have hk : ∀ i, i < 8 → dKp V 5 i = 0 ∨ dKp V 5 i = 1 := fun i hi => by
    by_cases e : i < NL
    · exact (h5.2.2.2.1 i e).1.2.1
    · rw [h5.2.2.2.2 i (by omega) hi]
      exact hvk i hi
  have g8 : ∀ b, b ≠ 311 → ∀ j, gi (si N7 311 0 0) b j = gi N7 b j := fun b hb j => by rw [gi_si, if_neg (fun z => hb z.1)]
  obtain ⟨T1, N, d1, d2, d3, d4, d5, d6⟩ := @ld_all T (si N7 311 0 0) V V0 NL nn a b m 1 nx bq kk (fun _ => (1, 0)) tx ⟨⟨T.length, by omega⟩⟩ rfl hT (by omega) (cInv_w _ hw (by omega) c2') h2.2 hl5 hbs (by omega) c3 (fun j hj => ⟨(c4 j hj).1, by rw [g8 1 (by decide)]; exact (c4 j hj).2⟩) (fun b j hd hb => by
    have := d5_no hd
    rw [g8 b (by omega), c5.2.2 b j (fun z => by unfold wPt at z; omega), h1.2.2.2 b j hd, hV0 b j hd hb]) v1 v2 v3 hval hk hok hm
  have hK : gKe P9 T M T (si N7 311 0 0) := gKe_tr (gKe_wP c5) (fun b hb x hx => ⟨hx, fun j => g8 b (by unfold P9 at hb; omega) j, fun j => rfl⟩)
  have L1 : LK (fun b => 313 ≤ b ∧ b < T.length) T (si N7 311 0 0) l A B L R O NL (fun t => t) V 5 kk m := LK_P (fun b x hb hx => ⟨hb, sh_lt hx⟩) (LK_ke hK h3)
  have L2 : LK (fun b => 313 ≤ b ∧ b < T.length) T1 N l A B L R O NL (fun t => t) V 5 kk m := LK_ke (fun b hb x hx => ⟨d2 b x hx, (d6 b (by omega) hb.2).1, (d6 b (by omega) hb.2).2⟩) L1
  have L3 := LK_same hval d5 L2
  have n1 : dNl N 37 = NL := (dNl_same d5).trans e1
  have n2 : dNn N 37 = nn := (dNn_same d5).trans e2
  refine ⟨T1, N, ?_, d3, ⟨⟨T.length, by omega⟩⟩, L, R, O, ?_⟩
  · unfold f_L_randomLinker_732 f_L_randomLinker_748
    rw [c1]
    unfold f_L_loadText_16 f_L_load
    rw [show ast T N7 311 (0 : Int32) 0 = some (si N7 311 0 0) from ast_ok (k := 0) hs311 (by decide) (by decide), Option.bind_some, d1, Option.bind_some]
    dsimp only [gcase]
    rw [Option.bind_some, cadd_some, Option.bind_some]
    dsimp only
    rw [if_neg (fun z => z rfl)]
    have hsm : gsm T1 (some l) 16 = some l := gsm_some L3.1.2.1
    rw [hsm, Option.bind_some, cadd_some]
  · have hin : ∀ i, i < NL → (311 ≤ L i ∧ L i < T.length) ∧ 311 ≤ O i ∧ O i < T.length := fun i hi => by
      have hh := L1.2.2.2.1 i (by omega)
      have p1 := hh.1.1
      have p2 := hh.2.2.1
      exact ⟨⟨by omega, p1.2⟩, by omega, p2.2⟩
    have hl0 := L1.1.1
    refine ⟨⟨by decide, show 312 < T.length by omega, by omega, hl0.2, show T.length + 3 ≤ T1.length by omega, fun i hi => ⟨(hin i hi).1.1, (hin i hi).1.2, (hin i hi).2⟩, h4.1, h4.2.1, h4.2.2.1, hNL⟩, d2 _ _ h1.2.1, hnn, (nx + 1) % 8, 1, B, NL, (fun t => t), d4, LK_P (fun b x hb hx => ⟨by omega, show b ≠ T.length + 2 by omega, by omega⟩) L3, hNL, n1, n2, h4.2.2.2⟩
end PLO
