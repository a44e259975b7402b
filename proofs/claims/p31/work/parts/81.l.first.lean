/-! A SEED'S START -/
section PFI
variable {T T1 T' T0 : gT} {M M1 M' N V V1 : gM} {rr a7 l A B : Nat} {nx dn bq : Nat} {k : Nat → Nat × Nat} {m c t : Nat} {n : Nat} {f : Nat → Int32} {i2 i9 : Int32}
theorem gT0_len : gT0.length = 311 := by decide +kernel
/-- after the first questions: the buffer at 311, the random numbers at 312 -/
def S1 [gW0] (T : gT) (M : gM) (nx : Nat) : Prop := cInv T M (fun _ => (1, 0)) 1 nx 0 0 0 ∧ dNl M 37 = 0 ∧ dNn M 37 = 0 ∧ T[311]? = some (11, 8) ∧ (∀ j, gi M 311 j = 0) ∧ T[312]? = some (18, 0) ∧ 313 ≤ T.length
theorem in_cases {x : gT × gM} (hx : gInit = some x) : gnew [] gM0 (8, 0) = some (0, [(8, 0)], zr gM0 0) ∧ f_X8_init [(8, 0)] (zr gM0 0) 0 = some x := by
  have e : gnew [] gM0 (8, 0) = some (0, [(8, 0)], zr gM0 0) := gnew_ok (T := []) (by decide)
  unfold gInit at hx
  rw [e, Option.bind_some] at hx
  dsimp only at hx
  refine ⟨e, ?_⟩
  cases h : f_X8_init [(8, 0)] (zr gM0 0) 0 with
  | none => rw [h] at hx; cases hx
  | some y => rw [h] at hx; exact hx
theorem x10_ok {a : Nat} (h : T.length + 2 ≤ 900000) : f_X10_init T M a = some ((T ++ [(21, 0)] ++ [(11, 0)], sr (zr (sr (zr (si M a 1 50) T.length) a 2 (some T.length)) (T.length + 1)) a 3 (some (T.length + 1))), 2, 0) := by
  unfold f_X10_init
  rw [gnew_ok (by omega), Option.bind_some]
  dsimp only
  rw [gnew_ok (by rw [len_1]; omega), Option.bind_some, cadd_some, cadd_some, len_1]
theorem t_first [gW0] (hw : 900000 ≤ w0) (hn : n < 2 ^ 31) (ht : t < n) (ht2 : t < 2) : ∃ T M c s nx, (∀ r c0 s0, f_L_law_140 n f T M (nI t) 0 311 312 1 = some (r, c0, s0) → f_L_law_B4 n f 1 (nI t) = some (r, c + c0, s + s0)) ∧ S1 T M nx ∧ T.length ≤ 4140 ∧ c ≤ 4150 ∧ s ≤ 28000 := by
  obtain ⟨x, hx⟩ := gInit_some
  obtain ⟨e0, e1⟩ := in_cases hx
  obtain ⟨hT, hI0, d1, d2, d3, d4⟩ := cInv_init hx
  obtain ⟨T0, M0⟩ := x
  dsimp only at hT hI0 d1 d2 d3 d4
  have hl0 : T0.length = 311 := by rw [hT]; exact gT0_len
  have g1 : gTo T0 M0 (T0 ++ [(11, 8)]) (zr M0 T0.length) 1 := gTo_new
  have b1 : (T0 ++ [(11, 8)])[311]? = some (11, 8) := by rw [← hl0]; exact sh_new
  have l1 : (T0 ++ [(11, 8)]).length = 312 := by rw [len_1, hl0]
  have z1 : ∀ j, gi (zr M0 T0.length) 311 j = 0 := fun j => by rw [gi_zr, if_pos hl0.symm]
  have n1 := gnew_ok (T := T0) (M := M0) (sh := (11, 8)) (by omega)
  generalize T0 ++ [(11, 8)] = T1 at g1 b1 l1 n1
  generalize zr M0 T0.length = M1 at g1 z1 n1
  have n2 := gnew_ok (T := T1) (M := M1) (sh := (18, 0)) (by omega)
  have g2 : gTo T1 M1 (T1 ++ [(18, 0)]) (zr M1 T1.length) 1 := gTo_new
  have b2 : (T1 ++ [(18, 0)])[312]? = some (18, 0) := by rw [← l1]; exact sh_new
  have l2 : (T1 ++ [(18, 0)]).length = 313 := by rw [len_1, l1]
  have g2 := gTo_si (a := 312) (k := 0) (x := f t) g2 (by omega)
  generalize T1 ++ [(18, 0)] = T2 at g2 b2 l2 n2
  have n3 := gnew_ok (T := T2) (M := si (zr M1 T1.length) 312 0 (f t)) (sh := (16, 0)) (by omega)
  have g3 : gTo T2 (si (zr M1 T1.length) 312 0 (f t)) (T2 ++ [(16, 0)]) (zr (si (zr M1 T1.length) 312 0 (f t)) T2.length) 1 := gTo_new
  have b3 : (T2 ++ [(16, 0)])[313]? = some (16, 0) := by rw [← l2]; exact sh_new
  have l3 : (T2 ++ [(16, 0)]).length = 314 := by rw [len_1, l2]
  have g123 := gTo_tr (gTo_tr g1 g2) g3
  have q3 : (∀ j, gi (zr (si (zr M1 T1.length) 312 0 (f t)) T2.length) 313 j = 0) ∧ ∀ j, gr (zr (si (zr M1 T1.length) 312 0 (f t)) T2.length) 313 j = none := ⟨fun j => by rw [gi_zr, if_pos l2.symm], fun j => by rw [gr_zr, if_pos l2.symm]⟩
  have z3 : ∀ j, gi (zr (si (zr M1 T1.length) 312 0 (f t)) T2.length) 311 j = 0 := fun j => by
    rw [gTo_gi (gTo_tr g2 g3) b1]
    exact z1 j
  generalize zr (si (zr M1 T1.length) 312 0 (f t)) T2.length = M3 at g123 n3 q3 z3
  generalize T2 ++ [(16, 0)] = T3 at g123 b3 l3 n3 g3
  have b32 : T3[312]? = some (18, 0) := gTo_sh g3 b2
  have b31 : T3[311]? = some (11, 8) := gTo_sh (gTo_tr g2 g3) b1
  have n4 := x10_ok (T := T3) (M := M3) (a := 313) (by omega)
  have g4 : gTo T0 M0 (T3 ++ [(21, 0)]) (zr (si M3 313 1 50) T3.length) (1 + 1 + 1 + 1) := gTo_tr (gTo_si (a := 313) (k := 1) (x := 50) g123 (by omega)) gTo_new
  have g4 := gTo_sr (a := 313) (k := 2) (x := some T3.length) g4 (by omega)
  have l4 : (T3 ++ [(21, 0)]).length = 315 := by rw [len_1, l3]
  have g5 : gTo T0 M0 (T3 ++ [(21, 0)] ++ [(11, 0)]) (zr (sr (zr (si M3 313 1 50) T3.length) 313 2 (some T3.length)) (T3 ++ [(21, 0)]).length) (1 + 1 + 1 + 1 + 1) := gTo_tr g4 gTo_new
  rw [l4] at g5
  have g5 := gTo_sr (a := 313) (k := 3) (x := some (T3.length + 1)) g5 (by omega)
  have sh3 : ∀ {b : Nat} {y : Nat × Nat}, T3[b]? = some y → (T3 ++ [(21, 0)] ++ [(11, 0)])[b]? = some y := fun hy => by
    have := sh_lt hy
    rw [List.getElem?_append_left (by omega), List.getElem?_append_left (by omega)]
    exact hy
  have s314 : (T3 ++ [(21, 0)] ++ [(11, 0)])[314]? = some (21, 0) := by
    rw [List.getElem?_append_left (by omega), ← l3]
    exact sh_new
  have s315 : (T3 ++ [(21, 0)] ++ [(11, 0)])[315]? = some (11, 0) := by
    rw [← l4]
    exact sh_new
  have l5 : (T3 ++ [(21, 0)] ++ [(11, 0)]).length = 316 := by rw [len_1, l4]
  rw [l3] at n4 g5
  generalize hT4 : T3 ++ [(21, 0)] ++ [(11, 0)] = T4 at g5 sh3 s314 s315 l5 n4
  have hM4 : (∀ j, gi (sr (zr (sr (zr (si M3 313 1 50) 314) 313 2 (some 314)) 315) 313 3 (some 315)) 311 j = 0) ∧ gi (sr (zr (sr (zr (si M3 313 1 50) 314) 313 2 (some 314)) 315) 313 3 (some 315)) 313 0 = 0 ∧ gi (sr (zr (sr (zr (si M3 313 1 50) 314) 313 2 (some 314)) 315) 313 3 (some 315)) 313 1 = 50 ∧ gr (sr (zr (sr (zr (si M3 313 1 50) 314) 313 2 (some 314)) 315) 313 3 (some 315)) 313 2 = some 314 ∧ gr (sr (zr (sr (zr (si M3 313 1 50) 314) 313 2 (some 314)) 315) 313 3 (some 315)) 313 3 = some 315 ∧ gr (sr (zr (sr (zr (si M3 313 1 50) 314) 313 2 (some 314)) 315) 313 3 (some 315)) 313 4 = none := by
    refine ⟨fun j => ?_, ?_, ?_, ?_, ?_, ?_⟩
    · rw [gi_sr, gi_zr, if_neg (by decide), gi_sr, gi_zr, if_neg (by decide), gi_si, if_neg (by omega)]
      exact z3 j
    · rw [gi_sr, gi_zr, if_neg (by decide), gi_sr, gi_zr, if_neg (by decide), gi_si, if_neg (by decide)]
      exact q3.1 0
    · rw [gi_sr, gi_zr, if_neg (by decide), gi_sr, gi_zr, if_neg (by decide), gi_si, if_pos ⟨rfl, rfl⟩]
    · rw [gr_sr, if_neg (by decide), gr_zr, if_neg (by decide), gr_sr, if_pos ⟨rfl, rfl⟩]
    · rw [gr_sr, if_pos ⟨rfl, rfl⟩]
    · rw [gr_sr, if_neg (by decide), gr_zr, if_neg (by decide), gr_sr, if_neg (by decide), gr_zr, if_neg (by decide), gr_si]
      exact q3.2 4
  generalize sr (zr (sr (zr (si M3 313 1 50) 314) 313 2 (some 314)) 315) 313 3 (some 315) = M4 at g5 n4 hM4
  obtain ⟨m0, m1, m2, m3, m4, m5⟩ := hM4
  obtain ⟨hI4, hds4⟩ := cInv_ce (gCe_to g5) hI0
  have hd4 := hds4 37 (Or.inr (Or.inl rfl))
  have k1 := (dNl_same hd4).trans d1
  have k2 := (dNn_same hd4).trans d2
  have k3 : gi M4 37 3 = 50 := (hd4.hd (Or.inr (Or.inr rfl))).trans d3
  have k4 : gi M4 0 2 = -1 := (gTo_gi g5 (s_obj hI0) 2).trans d4
  have hLK : LK (fun b => 311 ≤ b) T4 M4 313 314 315 (fun _ => 0) (fun _ => 0) (fun _ => 0) 0 (fun _ => 0) M4 37 (fun _ => (1, 0)) 1 := by
    refine ⟨⟨by decide, sh3 b3, ?_, m2.trans k3.symm⟩, ⟨by decide, m3, by rw [k1]; exact s314⟩, ⟨by decide, m4, s315⟩, fun i hi => absurd hi (by rw [k1]; exact Nat.not_lt_zero i), ⟨by decide, fun t ht => absurd ht (Nat.not_lt_zero t), fun i hi => absurd hi (by rw [k1]; exact Nat.not_lt_zero i)⟩, Or.inl ⟨m5, rfl, rfl⟩⟩
    rw [m1, hI4.1.2.1.2.2.2.2.1, k2]
    rfl
  obtain ⟨N, T5, M5, c1, c, s, e5, hF, g6, w4, w5, w6⟩ := p_agrees hI4 hLK (fun b hb => hb) (by decide) (by rw [k1]; decide) (by rw [k2]; decide) (by omega)
  have hl5 := g6.2.2
  have hIN : cInv T4 N (fun _ => (1, 0)) 1 0 0 0 0 := cInv_fr hI4 hF (fun b j z => by omega) (gBf_fr hI4.2.2.2.2.2 hF (fun b j z => z))
  obtain ⟨hI5, hds5⟩ := cInv_ce (gCe_to g6) hIN
  have hd5 : dSame M5 37 M4 37 := dSame_tr (hds5 37 (Or.inr (Or.inl rfl))) (fr_d37 hF (fun b j z => by omega) (Or.inr (Or.inl rfl)))
  have u1 := (dNl_same hd5).trans k1
  have u2 := (dNn_same hd5).trans k2
  have u4 : gi M5 0 2 = -1 := ((gTo_gi g6 (s_obj hIN) 2).trans (hF.2.2 0 2 (by omega))).trans k4
  have u5 : ∀ j, gi M5 311 j = 0 := fun j => ((gTo_gi g6 (sh3 b31) j).trans (hF.2.2 311 j (by omega))).trans (m0 j)
  have gl5 : ¬ gdL M5 37 (0 : Int32) := fun z => by
    have z2 : (0 : Int32) < nI (dNl M5 37) := z.2
    rw [u1] at z2
    exact absurd z2 (by decide)
  obtain ⟨hV6, N6, e6, hm6⟩ := o_share hI5 (i := 100) (by decide)
  have hr : sumN (fun q => vCh (vW (si M5 37 3 100) 37 (fun _ => (1, 0)) 1) (si M5 37 3 100) 37 (vBd (vW M5 37 (fun _ => (1, 0)) 1) M5 37) q (dNn (si M5 37 3 100) 37)) (dNl (si M5 37 3 100) 37) = 0 := by
    have : dNl (si M5 37 3 100) 37 = 0 := (congrArg Int32.toNatClampNeg (show gi (si M5 37 3 100) 37 1 = gi M5 37 1 by rw [gi_si, if_neg (by decide)])).trans u1
    rw [this]
    rfl
  rw [hr] at e6
  have s6 : gi N6 37 3 = 100 := by
    rw [hm6.2.2.2.1 37 3 (Or.inl ⟨rfl, by decide⟩), gi_si, if_pos ⟨rfl, rfl⟩]
  obtain ⟨N7, e7, hI7, hd7, -, hLf7, h7⟩ := o_undo (s := 0) (dn := 0) hm6.1
  have hd75 : dSame N7 37 M5 37 := dSame_tr hd7 (by rw [gSlot_0 hI5.2.2.1.1]; exact hm6.2.1)
  have hne : (311 : Nat) ≠ w0 + 2 := by omega
  refine ⟨T5, N7, 320 + c, 5381 + s, _, ?_, ⟨hI7, (dNl_same hd75).trans u1, (dNn_same hd75).trans u2, gTo_sh g6 (sh3 b31), fun j => ?_, gTo_sh g6 (sh3 b32), by omega⟩, by omega, by omega, by omega⟩
  · intro r c0 s0 hr
    have hu0 : f_X8_undo T5 M5 0 = some (-1, M5) := o_undo0 hI5
    have hun : f_L_unload T5 M5 0 0 = some (-2000000097, M5) := o_unloadN hI5 gl5
    have hov : f_L_offerValue T5 M5 0 0 0 10000 = some (-2000000097, M5) := o_valueN hI5 (fun z => gl5 z.1)
    have hsb : f_L_setShare T5 M5 0 101 = some (-2000000098, M5) := o_shareB (by decide)
    have hsh : f_X8_share T5 N6 0 = some 100 := (wq_sh hm6.1).trans (by rw [s6])
    have heo : f_X8_errorOffset T5 M5 0 = some (-1) := wq_eo.trans (by rw [u4])
    have hscr : scr n f (nI t) = some (f t) := by
      have hc : (nI t).toNatClampNeg = t := nI_clamp (by omega)
      have hneg : ¬ nI t < 0 := by
        have : t = 0 ∨ t = 1 := by omega
        rcases this with rfl | rfl <;> decide
      unfold scr
      rw [hc, if_neg (fun z => z.elim hneg (fun h => by omega))]
    unfold f_L_law_B4
    rw [if_neg (show ¬ Int32.ofNat n ≤ nI t from nI_ge ht hn), if_neg (show ¬ (2 : Int32) ≤ nI t from nI_ge (b := 2) ht2 (by decide)), if_neg (by decide), e0, Option.bind_some]
    dsimp only
    rw [e1, Option.bind_some]
    dsimp only
    rw [n1, Option.bind_some]
    dsimp only
    rw [n2, Option.bind_some]
    dsimp only
    rw [hscr, Option.bind_some]
    unfold f_X12_init
    rw [l1] at n3
    rw [Option.bind_some, l1, n3, Option.bind_some]
    dsimp only
    rw [l2, n4, Option.bind_some]
    dsimp only
    rw [e5, Option.bind_some]
    dsimp only
    rw [if_neg (by decide), heo, Option.bind_some, if_neg (by decide), hu0, Option.bind_some]
    dsimp only
    rw [if_neg (by decide), hun, Option.bind_some]
    dsimp only
    rw [if_neg (by decide), hov, Option.bind_some]
    dsimp only
    rw [if_neg (by decide), hsb, Option.bind_some]
    dsimp only
    rw [if_neg (by decide), e6, Option.bind_some]
    dsimp only
    rw [if_neg (by decide), hsh, Option.bind_some, if_neg (by decide), e7, Option.bind_some]
    dsimp only
    rw [if_neg (by decide), hl0, hr]
    simp only [cadd_some]
    refine congrArg some (Prod.ext rfl (Prod.ext ?_ ?_))
    · dsimp only
      omega
    · dsimp only
      omega
  · rw [(hLf7 311 (Nat.le_refl _)).2 hne, (hm6.2.2.2.2.2.1 311 (Nat.le_refl _)).2 hne, u5]
end PFI
