/-! THE CLASS AND A LINKER AGREE -/
section PAG
variable {P : Nat → Prop} {T T1 : gT} {M M1 N : gM} {a A B : Nat} {L R O : Nat → Nat} {lc : Nat} {ld : Nat → Nat} {k : Nat → Nat × Nat} {m nx sz dn bq c c0 i n R0 : Nat}
theorem s_obj [gW0] (hI : cInv T M k m nx sz dn bq) : T[0]? = some (8, 0) := (hI.1.1.1 0 (by decide)).trans (by decide +kernel)
theorem p_ag77 [gW0] (hI : cInv T N k m nx sz dn bq) (h : LK P T N a A B L R O lc ld N 37 k m) (hi : i < dNl N 37) (hG : gTo T N T1 M1 c0) (hb : gBR T1 M1 R0 (dNl N 37) (dNn N 37)) (hT : T1.length + 6 ≤ 900000) : ∃ (e : Int32 × gT × gM) (c s : Nat), gloopc (fun x : Int32 × Int32 × gT × gM => f_L_agrees_B77 x.2.2.1 x.2.2.2 0 a x.1 R0 (nI i) x.2.1) gFU ((1 : Int32), (0 : Int32), T1, M1) = some (e, c, s) ∧ e.1 = 1 ∧ c ≤ 12 ∧ s ≤ 60 ∧ ∃ c1, gTo T1 M1 e.2.1 e.2.2 c1 ∧ c1 ≤ 6 := by
  have hV := hI.1.2.1
  refine loopc_ex (P := fun t y c s => y.1 = 1 ∧ y.2.1 = nI t ∧ t ≤ 6 ∧ c ≤ 2 * t ∧ s ≤ 10 * t ∧ ∃ c1, gTo T1 M1 y.2.2.1 y.2.2.2 c1 ∧ c1 ≤ t) (Q := fun (e : Int32 × gT × gM) c s => e.1 = 1 ∧ c ≤ 12 ∧ s ≤ 60 ∧ ∃ c1, gTo T1 M1 e.2.1 e.2.2 c1 ∧ c1 ≤ 6) (fu := gFU) (x := ((1 : Int32), (0 : Int32), T1, M1)) 6 (by decide) ⟨rfl, rfl, Nat.zero_le _, by omega, by omega, 0, gTo_refl, by omega⟩ (fun t y c s _ hP => ?_)
  obtain ⟨y1, y2, T2, M2⟩ := y
  obtain ⟨rfl, rfl, ht, hc, hs9, c1, hG2, hc1⟩ := hP
  dsimp only at hG2
  have hGG := gTo_tr hG hG2
  have h1 := LK_to hGG h
  have hb2 := gBR_to hG2 hb
  have hl2 := hG2.2.2
  obtain ⟨hI2, hds⟩ := cInv_ce (gCe_to hGG) hI
  have hd := hds 37 (Or.inr (Or.inl rfl))
  dsimp only
  unfold f_L_agrees_B77 f_L_agrees_112
  rw [gkd_ok (s_obj hI2), Option.bind_some, LK_kd h1, Option.bind_some, gkd_ok hb2.1, Option.bind_some]
  by_cases e : t = 6
  · rw [if_pos (show (6 : Int32) ≤ nI t from nI_le (a := 6) (by omega) (by omega))]
    exact Or.inl ⟨_, _, _, rfl, rfl, by omega, by omega, c1, hG2, by omega⟩
  · have hlt : t < 6 := by omega
    obtain ⟨v, T3, M3, c3, s3, w1, w2, w3, w4, w5⟩ := p_told hV h1 hI.1.2.2.2.2.2.1 hi hlt (by omega)
    rw [if_neg (show ¬ (6 : Int32) ≤ nI t from nI_ge (a := t) (b := 6) hlt (by omega)), if_neg (by decide), wq_lib hI2 (by rw [dNl_same hd]; exact hi) hlt, Option.bind_some, vTl_same hV hd hi, w1, Option.bind_some]
    dsimp only
    rw [w5, if_neg (fun q => q rfl), cadd_some, cadd_some, nI_1]
    exact Or.inr ⟨hlt, _, _, _, rfl, rfl, rfl, by omega, by omega, by omega, c1 + c3, gTo_tr hG2 w2, by omega⟩
theorem p_ag122 [gW0] (hI : cInv T N k m nx sz dn bq) (h : LK P T N a A B L R O lc ld N 37 k m) (h4 : dNn N 37 ≤ 4) (hi : i < dNl N 37) (hG : gTo T N T1 M1 c0) (hb : gBR T1 M1 R0 (dNl N 37) (dNn N 37)) (hw : ∀ i, i < dNl N 37 → ∀ n, n < dNn N 37 → gi M1 (R0 + 1 + i) n = vBd (vW N 37 k m) N 37 i n) : ∃ (c s : Nat), gloopc (fun x : Int32 × Int32 × gT × gM => f_L_agrees_B122 x.2.2.1 x.2.2.2 0 a x.1 R0 (nI i) x.2.1) gFU ((1 : Int32), (0 : Int32), T1, M1) = some ((1, T1, M1), c, s) ∧ c ≤ 8 ∧ s ≤ 48 := by
  have hV := hI.1.2.1
  have h8 := hV.2.1
  have h1 := LK_to hG h
  obtain ⟨hI2, hds⟩ := cInv_ce (gCe_to hG) hI
  have hd := hds 37 (Or.inr (Or.inl rfl))
  obtain ⟨e, c9, s9, e1, e2, e3, e4⟩ := loopc_ex (B := fun x : Int32 × Int32 × gT × gM => f_L_agrees_B122 x.2.2.1 x.2.2.2 0 a x.1 R0 (nI i) x.2.1) (P := fun t y c s => y = (1, nI t, T1, M1) ∧ t ≤ dNn N 37 ∧ c ≤ 2 * t ∧ s ≤ 12 * t) (Q := fun (e : Int32 × gT × gM) c s => e = (1, T1, M1) ∧ c ≤ 8 ∧ s ≤ 48) (fu := gFU) (x := ((1 : Int32), (0 : Int32), T1, M1)) (dNn N 37) (Nat.lt_of_le_of_lt h4 (by decide)) ⟨rfl, Nat.zero_le _, by omega, by omega⟩ (fun t y c s _ hP => by
    obtain ⟨rfl, ht, hc, hs9⟩ := hP
    dsimp only
    unfold f_L_agrees_B122 f_L_agrees_181 f_L_agrees_182
    rw [gkd_ok (s_obj hI2), Option.bind_some, LK_kd h1, Option.bind_some, gkd_ok hb.1, Option.bind_some, LK_n hV h1]
    by_cases e : t = dNn N 37
    · rw [if_pos (nI_le (by omega) (by omega))]
      exact Or.inl ⟨_, _, _, rfl, rfl, by omega, by omega⟩
    · have hlt : t < dNn N 37 := by omega
      have hO := (h1.2.2.2.1 i hi).2.2
      have hi2 : i < dNl M1 37 := by rw [dNl_same hd]; exact hi
      have hn2 : t < dNn M1 37 := by rw [dNn_same hd]; exact hlt
      rw [if_neg (nI_ge hlt (by omega)), if_neg (by decide), wq_off hI2 hi2 hn2, Option.bind_some, LK_all h1, Option.bind_some, LK_lib h8 h1 hi, Option.bind_some, LK_off h1 hi, Option.bind_some, ald_ok hO.2.2.1 hlt (by omega), Option.bind_some, hO.2.2.2 t hlt, show dOf M1 37 i t = dOf N 37 i t from hd.off (by omega) (by omega), if_neg (fun q => q rfl), wq_bnd hI2 hi2 hn2, Option.bind_some, aldr_ok hb.1 hi (by omega) (hb.2 i hi).1 (hb.2 i hi).2, Option.bind_some, ald_ok (hb.2 i hi).2 hlt (by omega), Option.bind_some, hw i hi t hlt, vBd_same hd hV hi (by omega) (vW_sameV hV hd), if_neg (fun q => q rfl), cadd_some, cadd_some, nI_1]
      exact Or.inr ⟨hlt, _, _, _, rfl, rfl, by omega, by omega, by omega⟩)
  exact ⟨c9, s9, by rw [e1, e2], e3, e4⟩
theorem p_ag60 [gW0] (hI : cInv T N k m nx sz dn bq) (h : LK P T N a A B L R O lc ld N 37 k m) (hl : dNl N 37 ≤ 5) (h4 : dNn N 37 ≤ 4) (hG : gTo T N T1 M1 c0) (hb : gBR T1 M1 R0 (dNl N 37) (dNn N 37)) (hw : ∀ i, i < dNl N 37 → ∀ n, n < dNn N 37 → gi M1 (R0 + 1 + i) n = vBd (vW N 37 k m) N 37 i n) (hT : T1.length + 30 ≤ 900000) : ∃ (e : Int32 × gT × gM) (c s : Nat), gloopc (fun x : Int32 × Int32 × gT × gM => f_L_agrees_B60 x.2.2.1 x.2.2.2 0 a x.1 R0 x.2.1) gFU ((1 : Int32), (0 : Int32), T1, M1) = some (e, c, s) ∧ e.1 = 1 ∧ c ≤ 100 ∧ s ≤ 540 ∧ ∃ c1, gTo T1 M1 e.2.1 e.2.2 c1 ∧ c1 ≤ 30 := by
  have hV := hI.1.2.1
  have h8 := hV.2.1
  refine loopc_ex (P := fun t y c s => y.1 = 1 ∧ y.2.1 = nI t ∧ t ≤ dNl N 37 ∧ c ≤ 20 * t ∧ s ≤ 108 * t ∧ ∃ c1, gTo T1 M1 y.2.2.1 y.2.2.2 c1 ∧ c1 ≤ 6 * t) (Q := fun (e : Int32 × gT × gM) c s => e.1 = 1 ∧ c ≤ 100 ∧ s ≤ 540 ∧ ∃ c1, gTo T1 M1 e.2.1 e.2.2 c1 ∧ c1 ≤ 30) (fu := gFU) (x := ((1 : Int32), (0 : Int32), T1, M1)) (dNl N 37) (Nat.lt_of_le_of_lt hl (by decide)) ⟨rfl, rfl, Nat.zero_le _, by omega, by omega, 0, gTo_refl, by omega⟩ (fun t y c s _ hP => ?_)
  obtain ⟨y1, y2, T2, M2⟩ := y
  obtain ⟨rfl, rfl, ht, hc, hs9, c1, hG2, hc1⟩ := hP
  dsimp only at hG2
  have hGG := gTo_tr hG hG2
  have h1 := LK_to hGG h
  have hb2 := gBR_to hG2 hb
  have hl2 := hG2.2.2
  obtain ⟨hI2, hds⟩ := cInv_ce (gCe_to hGG) hI
  dsimp only
  unfold f_L_agrees_B60
  rw [gkd_ok (s_obj hI2), Option.bind_some, LK_kd h1, Option.bind_some, gkd_ok hb2.1, Option.bind_some, LK_all h1, Option.bind_some, alen_of h1.2.1.2.2]
  by_cases e : t = dNl N 37
  · rw [if_pos (show Int32.ofNat (dNl N 37) ≤ nI t from nI_le (by omega) (by omega))]
    exact Or.inl ⟨_, _, _, rfl, rfl, by omega, by omega, c1, hG2, by omega⟩
  · have hlt : t < dNl N 37 := by omega
    obtain ⟨⟨v3, T3, M3⟩, c3, s3, w1, w2, w3, w4, c4, w5, w6⟩ := p_ag77 hI h hlt hGG hb2 (by omega)
    dsimp only at w2 w5
    subst w2
    have hb3 := gBR_to w5 hb2
    obtain ⟨c5, s5, x1, x2, x3⟩ := p_ag122 hI h h4 hlt (gTo_tr hGG w5) hb3 (fun i hi n hn => by
      rw [gTo_gi w5 (hb2.2 i hi).2, gTo_gi hG2 (hb.2 i hi).2]
      exact hw i hi n hn)
    rw [if_neg (show ¬ Int32.ofNat (dNl N 37) ≤ nI t from nI_ge hlt (by omega)), if_neg (by decide), w1, Option.bind_some]
    dsimp only
    rw [x1, Option.bind_some]
    dsimp only
    rw [cadd_some, cadd_some, nI_1]
    exact Or.inr ⟨hlt, _, _, _, rfl, rfl, rfl, by omega, by omega, by omega, c1 + c4, gTo_tr hG2 w5, by omega⟩
theorem p_agrees [gW0] (hI : cInv T M k m nx sz dn bq) (h : LK P T M a A B L R O lc ld M 37 k m) (hP : ∀ b, P b → 311 ≤ b) (h5 : lc ≤ 5) (hl : dNl M 37 ≤ 5) (h4 : dNn M 37 ≤ 4) (hT : T.length + 3824 ≤ 900000) : ∃ N T' M' c1 c s, f_L_agrees T M 0 a = some ((1, T', M'), c, s) ∧ fr (fun b _ => b = 74 ∨ b = 75) M N ∧ gTo T N T' M' c1 ∧ c1 ≤ 3824 ∧ c ≤ 3824 ∧ s ≤ 22522 := by
  have hV := hI.1.2.1
  obtain ⟨N, n1, n2, hIN⟩ := wq_chk hI
  have hdN : dSame N 37 M 37 := fr_d37 n2 (fun b j z => by omega) (Or.inr (Or.inl rfl))
  have hVN := hIN.1.2.1
  have hN : LK P T N a A B L R O lc ld N 37 k m := LK_same hV hdN (LK_ke (fun b hb x hx => ⟨hx, fun j => n2.2.2 b j (fun z => by have := hP b hb; omega), fun j => n2.1 b j⟩) h)
  have l1 : dNl N 37 = dNl M 37 := dNl_same hdN
  have l2 : dNn N 37 = dNn M 37 := dNn_same hdN
  have hok := hI.1.2.2.2.2.2.1
  unfold f_L_agrees f_L_agrees_50
  rw [wq_nl hI, Option.bind_some, LK_all h, Option.bind_some, alen_of h.2.1.2.2, if_neg (fun q => q rfl), wq_nn hI, Option.bind_some, LK_n hV h, if_neg (fun q => q rfl), wq_sh hI, Option.bind_some, h.1.2.2.2, if_neg (fun q => q rfl), n1, Option.bind_some]
  dsimp only
  obtain ⟨v1, T1, M1, c1, s1, w1, w2, w3, w4, w5⟩ := p_sum hVN hN hok h5 (by omega) (by omega) (by omega)
  have hl1 := w2.2.2
  rw [w1, Option.bind_some]
  dsimp only
  rw [w5, if_neg (fun q => q ((lg_cmp_eq _ _).mpr (by rw [l1]; exact (ckL_same hV hdN (Nat.le_refl _)).symm)))]
  unfold f_L_agrees_51 f_L_agrees_231 f_L_agrees_232
  obtain ⟨R0, T2, M2, c2, s2, x1, x2, x3, x4, rfl, x6, x7⟩ := p_bindings hVN (LK_to w2 hN) hok h5 (by omega) (by omega) (by omega)
  have hG2 := gTo_tr w2 x2
  have hl2 := x2.2.2
  rw [x1, Option.bind_some]
  dsimp only
  obtain ⟨⟨v3, T3, M3⟩, c3, s3, y1, y2, y3, y4, c4, y5, y6⟩ := p_ag60 hIN hN (by omega) (by omega) hG2 x6 x7 (by omega)
  dsimp only at y2 y5
  subst y2
  have hG3 := gTo_tr hG2 y5
  obtain ⟨hI3, hds⟩ := cInv_ce (gCe_to hG3) hIN
  have hd3 := hds 37 (Or.inr (Or.inl rfl))
  have h3 := LK_to hG3 hN
  have z1 : dNl M3 37 = dNl N 37 := dNl_same hd3
  have z2 : dNn M3 37 = dNn N 37 := dNn_same hd3
  rw [gkd_ok x6.1, Option.bind_some, y1, Option.bind_some]
  dsimp only
  rw [if_neg (by decide), LK_all h3, Option.bind_some, alen_of h3.2.1.2.2, wq_libN hI3 (fun q => by
    have q2 : nI (dNl N 37) < nI (dNl M3 37) := q.2
    rw [z1] at q2
    exact nI_nlt (Nat.le_refl _) (by omega) q2), Option.bind_some, if_neg (fun q => q rfl), LK_n hVN h3, wq_winN hI3 (fun q => by
    have q2 : nI (dNn N 37) < nI (dNn M3 37) := q.2
    rw [z2] at q2
    exact nI_nlt (Nat.le_refl _) (by omega) q2), Option.bind_some, if_neg (fun q => q rfl), chk_ok (Or.inr rfl), Option.bind_some, cadd_some, cadd_some, cadd_some, cadd_some, cadd_some]
  exact ⟨N, _, _, _, _, _, rfl, n2, hG3, by omega, by omega, by omega⟩
end PAG
