/-! THE DRAFTS of both parsers; a new word; a name -/
def cLd (b j : Nat) : Prop := tL b j ∨ b = 34 ∨ b = 35
section PJD
variable {T U : gT} {M R M' R' : gM} {B : Nat → Nat} {n s e p nl nn : Nat}
theorem d5_no {b j : Nat} (h : dIn 5 b j) : b = 5 ∨ (10 ≤ b ∧ b ≤ 33) := by
  have := dIn_two h
  omega
end PJD
/-! A LIBRARY of the text: both parsers -/
section PJL
variable {T U : gT} {M R M' R' : gM} {B : Nat → Nat} {n s e p nl nn : Nat}
theorem c_fill12 {a : Nat} (hT : T[a]? = some (11, 12)) : ∃ N, f_J7_fill_53178 T M a (-1) = some N ∧ fz (fun b j => b = a ∧ j < 12) (fun _ _ => False) M N ∧ ∀ x, x < 12 → gi N a x = -1 := by
  unfold f_J7_fill_53178
  rw [alen_of hT, show Int32.ofNat 12 = nI 12 from rfl]
  have hL : ∃ N, gloop (fun x => f_J7_fill_53178_B5 T x.2 a (-1) x.1 (nI 12)) gFU ((0 : Int32), M) = some N ∧ (fz (fun b j => b = a ∧ j < 12) (fun _ _ => False) M N ∧ ∀ x, x < 12 → gi N a x = -1) := by
    refine gloop_ex (P := fun t y => y.1 = nI t ∧ t ≤ 12 ∧ fz (fun b j => b = a ∧ j < 12) (fun _ _ => False) M y.2 ∧ ∀ x, x < t → gi y.2 a x = -1) (fu := gFU) 12 (by decide) ⟨rfl, Nat.zero_le _, fz_refl, fun j hj => absurd hj (Nat.not_lt_zero j)⟩ (fun t y _ hP => ?_)
    obtain ⟨y1, N⟩ := y
    obtain ⟨rfl, ht, hF, hz⟩ := hP
    dsimp only at hF hz
    show (∃ e, f_J7_fill_53178_B5 T N a (-1) (nI t) (nI 12) = some (.inl e) ∧ _) ∨ _
    unfold f_J7_fill_53178_B5
    by_cases e : t = 12
    · subst e
      rw [if_pos (nI_le (Nat.le_refl _) (by decide))]
      exact Or.inl ⟨N, rfl, hF, hz⟩
    · have hlt : t < 12 := by omega
      rw [if_neg (nI_ge (by omega) (by decide)), ast_ok hT (by omega) (by decide), Option.bind_some, nI_1]
      refine Or.inr ⟨hlt, _, rfl, rfl, hlt, fz_si hF ⟨rfl, hlt⟩, fun x hx => ?_⟩
      show gi (si N a t (-1)) a x = -1
      rw [gi_si]
      by_cases ex : x = t
      · rw [if_pos ⟨rfl, ex⟩]
      · rw [if_neg (fun q => ex q.2)]
        exact hz x (by omega)
  obtain ⟨N, c1, c2⟩ := hL
  rw [c1, Option.bind_some]
  exact ⟨N, rfl, c2⟩
theorem c_startAs {i : Nat} {t r : Int32} (hD : gDat T M 5) (hi : i < 8) : ∃ N, f_X3_startAs T M (5 + 5 + 3 * i) t r = some N ∧ fz (fun b j => (b = 10 + 3 * i ∧ (j = 0 ∨ j = 1 ∨ j = 2 ∨ j = 5)) ∨ (b = 11 + 3 * i ∧ j < 12)) (fun _ _ => False) M N ∧ dTr N 5 i = t ∧ dKp N 5 i = 0 ∧ dRk N 5 i = r ∧ dPn N 5 i = 0 ∧ ∀ z, z < 12 → dOf N 5 i z = -1 := by
  unfold f_X3_startAs
  obtain ⟨t1, t2, t3, t4⟩ := hD.2.2.2 i hi
  have hF0 : fz (fun b j => (b = 10 + 3 * i ∧ (j = 0 ∨ j = 1 ∨ j = 2 ∨ j = 5)) ∨ (b = 11 + 3 * i ∧ j < 12)) (fun _ _ => False) M (si (si (si M (5 + 5 + 3 * i) 0 t) (5 + 5 + 3 * i) 1 0) (5 + 5 + 3 * i) 2 r) := fz_si (fz_si (fz_si fz_refl (Or.inl ⟨by omega, by omega⟩)) (Or.inl ⟨by omega, by omega⟩)) (Or.inl ⟨by omega, by omega⟩)
  obtain ⟨N, c1, c2, c3⟩ := c_fill12 (T := T) (M := si (si (si M (5 + 5 + 3 * i) 0 t) (5 + 5 + 3 * i) 1 0) (5 + 5 + 3 * i) 2 r) t1.2.1
  rw [ldr_ok (show gr (si (si (si M (5 + 5 + 3 * i) 0 t) (5 + 5 + 3 * i) 1 0) (5 + 5 + 3 * i) 2 r) (5 + 5 + 3 * i) 3 = some (5 + 6 + 3 * i) from t3) t1.2.1, Option.bind_some, c1, Option.bind_some]
  have hN : ∀ j, gi N (5 + 5 + 3 * i) j = gi (si (si (si M (5 + 5 + 3 * i) 0 t) (5 + 5 + 3 * i) 1 0) (5 + 5 + 3 * i) 2 r) (5 + 5 + 3 * i) j := fun j => c2.2.2 _ j (fun q => by omega)
  refine ⟨_, rfl, fz_si (fz_trans hF0 (fz_mono c2 (fun b j q => Or.inr ⟨by omega, q.2⟩) (fun _ _ q => q))) (Or.inl ⟨by omega, by omega⟩), ?_, ?_, ?_, ?_, fun z hz => ?_⟩
  · show gi (si N (5 + 5 + 3 * i) 5 0) (5 + 5 + 3 * i) 0 = t
    rw [gi_si, if_neg (by omega), hN, gi_si, if_neg (by omega), gi_si, if_neg (by omega), gi_si, if_pos ⟨rfl, rfl⟩]
  · show gi (si N (5 + 5 + 3 * i) 5 0) (5 + 5 + 3 * i) 1 = 0
    rw [gi_si, if_neg (by omega), hN, gi_si, if_neg (by omega), gi_si, if_pos ⟨rfl, rfl⟩]
  · show gi (si N (5 + 5 + 3 * i) 5 0) (5 + 5 + 3 * i) 2 = r
    rw [gi_si, if_neg (by omega), hN, gi_si, if_pos ⟨rfl, rfl⟩]
  · show gi (si N (5 + 5 + 3 * i) 5 0) (5 + 5 + 3 * i) 5 = 0
    rw [gi_si, if_pos ⟨rfl, rfl⟩]
  · show gi (si N (5 + 5 + 3 * i) 5 0) (5 + 6 + 3 * i) z = -1
    rw [gi_si, if_neg (by omega)]
    exact c3 z hz
end PJL
/-! A PREFERENCE of the text on both sides -/
section PJF
variable {T U : gT} {M R M' R' : gM} {B : Nat → Nat} {n s e p nl nn i q x pn : Nat}
theorem c_addPref (hD : gDat T M 5) (hq : q < 8) (hpn : dPn M 5 q = nI pn) (h7 : pn ≤ 7) {y : Int32} : f_X3_addPreference T M (5 + 5 + 3 * q) y = some (si (si M (5 + 7 + 3 * q) pn y) (5 + 5 + 3 * q) 5 (nI (pn + 1))) := by
  unfold f_X3_addPreference
  rw [show gi M (5 + 5 + 3 * q) 5 = nI pn from hpn, if_neg (show ¬ (8 : Int32) ≤ nI pn from nI_ge (b := 8) (by omega) (by decide)), ldr_ok (hD.2.2.2 q hq).2.2.2 (hD.2.2.2 q hq).1.2.2, Option.bind_some, ast_ok (hD.2.2.2 q hq).1.2.2 (show pn < 8 by omega) (by decide), Option.bind_some, gi_si, if_neg (by omega), show gi M (5 + 5 + 3 * q) 5 = nI pn from hpn, nI_1]
end PJF
/-! THE CODE OF A WEIGHT as both parsers write it -/
section PCW
variable {T U : gT} {M R M' R' : gM} {B : Nat → Nat} {n s e p F H P m d : Nat} {k k' : Nat → Nat × Nat}
theorem c_addCode {x : Int32} (hX : gFx T M) (h5 : gi M 2 5 = nI m) (hm : m < 800) : f_X5_addCode T M 2 x = some (si (si M 36 m x) 2 5 (nI (m + 1))) := by
  unfold f_X5_addCode
  rw [h5, if_neg (show ¬ (800 : Int32) ≤ nI m from nI_ge (b := 800) hm (by decide)), r_2_4 hX, Option.bind_some, ast_ok (s_36 hX) hm (by decide), Option.bind_some, gi_si, if_neg (by omega), h5, nI_1]
/-! with an error recorded the reference reads nothing more -/
end PCW
/-! ALL STATEMENTS of the text on both sides -/
section PJX
variable {T U : gT} {M R M' R' : gM} {B : Nat → Nat} {n s e p : Nat}
theorem c_kind0 (hT : cT M B n s e) : gi M 3 3 = 0 ↔ ¬ s < n := by
  obtain ⟨-, -, -, h4, h5, hK⟩ := hT
  rcases hK with k | k | k | k
  · rw [k.2.2]
    exact ⟨fun _ => by omega, fun _ => rfl⟩
  · have := k.1
    refine ⟨fun q => ?_, fun q => by omega⟩
    rcases k.2.2.2 with y | y
    · rw [y.2.1] at q; exact absurd q (by decide)
    · rw [y.2] at q; exact absurd q (by decide)
  · have := k.1
    refine ⟨fun q => ?_, fun q => by omega⟩
    rw [k.2.2.2.1] at q; exact absurd q (by decide)
  · have := k.1
    refine ⟨fun q => ?_, fun q => by omega⟩
    rw [k.2.2.2.2.1] at q; exact absurd q (by decide)
end PJX
/-! THE TEXT from its first word on, on both sides -/
section PJY
variable {T U : gT} {M R M' R' : gM} {B : Nat → Nat} {n s e p : Nat}
/-- the class's reading from the first word on; K is what it does then -/
def cText (T : gT) (M : gM) (K : gM → Option (Int32 × gT × gM)) : Option (Int32 × gT × gM) := (f_X5_readKeyword T M 2 0).bind fun x13 => if x13.1 = 0 then some ((0 : Int32), T, x13.2) else (f_X5_readSign T x13.2 2 (59 : Int32)).bind fun x15 => if ¬ x15.1 = 0 then (gloop (fun x => f_X5_readText_B58 T x.2 2 x.1) gFU ((0 : Int32), x15.2)).bind fun x17 => gcase x17 (fun r17 => some r17) fun e17 => K e17 else some ((0 : Int32), T, x15.2)
end PJY
/-! HOW THE TEXT BEGINS on both sides -/
def cS11 (b j : Nat) : Prop := b = 2 ∨ b = 3 ∨ b = 4 ∨ b = 36 ∨ dIn 5 b j
abbrev cG (M M' : gM) : Prop := fz cS11 cLd M M'
/-- what the class does when the text was read -/
def cTail (T : gT) (e17 : gM) : Option (Int32 × gT × gM) :=
  (ldr T e17 2 1 0).bind fun b18 =>
  (gnew T e17 (7, 0)).bind fun x19 =>
  (ldr x19.2.1 x19.2.2 2 4 11).bind fun b22 =>
  (f_J7_copyOf_59c91 x19.2.1 x19.2.2 b22 (gi x19.2.2 2 5)).bind fun x23 =>
  (gkd x23.2.1 x23.1 11).bind fun _ =>
  (f_X7_init x23.2.1 x23.2.2 x19.1 x23.1).bind fun x28 =>
  some ((1 : Int32), x28.1, (sr x28.2 b18 4 (some x19.1)))
section PJB
variable {T U : gT} {M R M' R' : gM} {B : Nat → Nat} {n s e p : Nat}
theorem by_fits : ∀ b, b < 256 → fits .byte (.int (cB b)) = true := by decide +kernel
theorem c_text (hX : gFx T M) (hn : n ≤ 800) (hB : ∀ j, j < n → B j < 256 ∧ gi M 1 j = cB (B j) ∧ (gi M 1 j).toInt8.toInt32 = gi M 1 j) : ∃ M1 s e, f_X5_readText T M 2 1 (nI n) = cText T M1 (cTail T) ∧ Sy B n 0 s ∧ cT M1 B n s e ∧ cG M M1 ∧ gi M1 5 1 = 0 ∧ gi M1 5 2 = 0 ∧ gi M1 5 3 = 50 ∧ gi M1 2 5 = 1 ∧ gi M1 36 0 = -1 ∧ gi M1 2 6 = 0 ∧ gi M1 2 7 = 0 ∧ ∀ b j, dIn 5 b j → b ≠ 5 → gi M1 b j = gi M b j := by
  have h1 : gFx T (si (si (si (si M 5 1 0) 5 2 0) 5 3 50) 2 5 0) := gFx_gr hX (fun _ _ => rfl)
  have hA := c_addCode (x := -1) (m := 0) h1 (by rw [gi_si, if_pos ⟨rfl, rfl⟩]; rfl) (by decide)
  generalize hMa : si (si (si (si (si (si (si (si M 5 1 0) 5 2 0) 5 3 50) 2 5 0) 36 0 (-1)) 2 5 (nI (0 + 1))) 2 6 0) 2 7 0 = Ma
  have fa : fz (fun b j => b = 2 ∨ b = 36 ∨ (b = 5 ∧ (j = 1 ∨ j = 2 ∨ j = 3))) (fun _ _ => False) M Ma := by
    rw [← hMa]
    exact fz_si (fz_si (fz_si (fz_si (fz_si (fz_si (fz_si (fz_si fz_refl (Or.inr (Or.inr ⟨rfl, by omega⟩))) (Or.inr (Or.inr ⟨rfl, by omega⟩))) (Or.inr (Or.inr ⟨rfl, by omega⟩))) (Or.inl rfl)) (Or.inr (Or.inl rfl))) (Or.inl rfl)) (Or.inl rfl)) (Or.inl rfl)
  have v51 : gi Ma 5 1 = 0 := by rw [← hMa]; rfl
  have v52 : gi Ma 5 2 = 0 := by rw [← hMa]; rfl
  have v53 : gi Ma 5 3 = 50 := by rw [← hMa]; rfl
  have v25 : gi Ma 2 5 = 1 := by rw [← hMa]; rfl
  have v36 : gi Ma 36 0 = -1 := by rw [← hMa]; rfl
  have v26 : gi Ma 2 6 = 0 := by rw [← hMa]; rfl
  have v27 : gi Ma 2 7 = 0 := by rw [← hMa]; rfl
  have hXa := gFx_fz hX fa
  have hXb : gFx T (si Ma 3 1 (nI n)) := gFx_gr hXa (fun _ _ => rfl)
  have hXc : gFx T (si (cpi (si Ma 3 1 (nI n)) 1 0 4 0 n) 3 2 0) := gFx_gr hXa (fun _ _ => rfl)
  have e1 : ∀ j, gi (si Ma 3 1 (nI n)) 1 j = gi M 1 j := fun j => by rw [gi_si, if_neg (by omega)]; exact fa.2.2 1 j (fun q => by omega)
  have him : imin (nI n) (800 : Int32) = nI n := by
    show (if (800 : Int32) < nI n then 800 else nI n) = nI n
    rw [if_neg (show ¬ (800 : Int32) < nI n from nI_nlt (b := n) (a := 800) hn (by omega))]
  have hcp : acpb T (si Ma 3 1 (nI n)) 1 (0 : Int32) 4 (0 : Int32) (nI n) = some (cpi (si Ma 3 1 (nI n)) 1 0 4 0 n) := by
    have z0 : (0 : Int32).toNatClampNeg = 0 := rfl
    have zn : (nI n).toNatClampNeg = n := nI_clamp (by omega)
    unfold acpb
    rw [z0, zn, alen_of (s_1 hXb), alen_of (s_4 hXb), if_neg]
    intro q
    rcases q with q | q | q | q | q | q
    · exact absurd q (by decide)
    · exact absurd q (by decide)
    · exact nI_pos (by omega) q
    · omega
    · omega
    · exact q (fun j hj => by rw [Nat.zero_add, e1, (hB j hj).2.1]; exact by_fits _ (hB j hj).1)
  obtain ⟨M1, s, e, c1, c2, c3, c4⟩ := c_advance (B := B) (n := n) (p := 0) hXc ⟨by rw [gi_si, if_neg (by omega), gi_cpi, if_neg (by omega), gi_si, if_pos ⟨rfl, rfl⟩], hn, fun j hj => ⟨(hB j hj).1, by rw [gi_si, if_neg (by omega), gi_cpi, if_pos ⟨rfl, Nat.zero_le j, by omega⟩, Nat.sub_zero, Nat.zero_add, e1]; exact (hB j hj).2.1⟩⟩ (by rw [gi_si, if_pos ⟨rfl, rfl⟩]; rfl) (Nat.zero_le n)
  have gc : ∀ b j, b ≠ 3 → b ≠ 4 → gi M1 b j = gi Ma b j := fun b j q1 q2 => by
    rw [c4.2.2 b j (fun q => q1 q.1), gi_si, if_neg (fun q => q1 q.1), gi_cpi, if_neg (fun q => q2 q.1), gi_si, if_neg (fun q => q1 q.1)]
  refine ⟨M1, s, e, ?_, c2, c3, ⟨fun b j => (c4.1 b j).trans (fa.1 b j), fun b j q => (c4.2.1 b j (fun z => q (Or.inl z))).trans (fa.2.1 b j (fun z => z)), fun b j q => ?_⟩, (gc _ _ (by decide) (by decide)).trans v51, (gc _ _ (by decide) (by decide)).trans v52, (gc _ _ (by decide) (by decide)).trans v53, (gc _ _ (by decide) (by decide)).trans v25, (gc _ _ (by decide) (by decide)).trans v36, (gc _ _ (by decide) (by decide)).trans v26, (gc _ _ (by decide) (by decide)).trans v27, fun b j hd hb => ?_⟩
  · unfold f_X5_readText f_X0_clear f_X6_startText cText
    rw [r_2_1 hX, Option.bind_some, Option.bind_some, hA, Option.bind_some, hMa, r_2_0 hXa, Option.bind_some, him, r_3_0 hXb, Option.bind_some, show gi (si Ma 3 1 (nI n)) 3 1 = nI n by rw [gi_si, if_pos ⟨rfl, rfl⟩], hcp, Option.bind_some, c1, Option.bind_some, Option.bind_some]
    rfl
  · have q1 : b ≠ 3 := fun z => q (Or.inr (Or.inl z))
    have q2 : b ≠ 4 := fun z => q (Or.inr (Or.inr (Or.inl z)))
    rw [gc b j q1 q2]
    refine fa.2.2 b j (fun z => ?_)
    rcases z with z | z | ⟨z1, z2⟩
    · exact q (Or.inl z)
    · exact q (Or.inr (Or.inr (Or.inr (Or.inl z))))
    · rw [z1] at q
      exact q (Or.inr (Or.inr (Or.inr (Or.inr (dIn_hd z2)))))
  · have h5 := d5_no hd
    rw [gc b j (by omega) (by omega)]
    exact fa.2.2 b j (fun z => by omega)
end PJB
/-! THE NEW WEIGHT of the class -/
theorem gRefs_lo : ∀ q ∈ gRefs, q.1 < 311 := by decide +kernel
section PJE
variable {T T' : gT} {M N : gM} {m : Nat}
theorem ge_last {x : Nat × Nat} : (T ++ [x])[T.length]? = some x := by simp
theorem ge_old {x y : Nat × Nat} {a : Nat} (h : T[a]? = some y) : (T ++ [x])[a]? = some y := by
  rw [List.getElem?_append_left (List.getElem?_eq_some_iff.mp h).1]
  exact h
theorem ge_len {x : Nat × Nat} : (T ++ [x]).length = T.length + 1 := by simp
/-- T' goes on where T ends -/
def gEx (T T' : gT) : Prop := ∀ (a : Nat) (y : Nat × Nat), T[a]? = some y → T'[a]? = some y
theorem gFx_ex (h : gFx T M) (hl : 311 ≤ T.length) (hE : gEx T T') (hg : ∀ b j, b < 311 → ¬ (b ∈ gDs ∧ j = 4) → gr N b j = gr M b j) : gFx T' N := ⟨fun a ha => by
  have hx : T[a]? = some T[a] := List.getElem?_eq_getElem (by omega)
  rw [hE a _ hx, ← hx]
  exact h.1 a ha, fun q hq => (hg _ _ (gRefs_lo q hq) (gRefs_no4 q hq)).trans (h.2 q hq)⟩
theorem c_tail (hX : gFx T M) (hL : T.length + 3 ≤ 900000) (h311 : 311 ≤ T.length) (h5 : gi M 2 5 = nI m) (hm : m < 800) : ∃ N, cTail T M = some (1, ((T ++ [(7, 0)]) ++ [(11, m)]) ++ [(11, 11)], N) ∧ (∀ b j, b < T.length → gi N b j = gi M b j) ∧ (∀ b j, b < T.length → gl N b j = gl M b j) ∧ (∀ b j, b < T.length → ¬ (b = 5 ∧ j = 4) → gr N b j = gr M b j) ∧ gr N 5 4 = some T.length ∧ gr N T.length 0 = some (T.length + 1) ∧ gr N T.length 1 = some (T.length + 2) ∧ ∀ t, t < m → gi N (T.length + 1) t = gi M 36 t := by
  generalize hl : T.length = L at hL h311
  have hE1 : gEx T (T ++ [(7, 0)]) := fun a y h => ge_old h
  have hE2 : gEx T ((T ++ [(7, 0)]) ++ [(11, m)]) := fun a y h => ge_old (ge_old h)
  have l1 : (T ++ [((7 : Nat), (0 : Nat))]).length = L + 1 := by rw [ge_len, hl]
  have l2 : ((T ++ [((7 : Nat), (0 : Nat))]) ++ [(11, m)]).length = L + 2 := by rw [ge_len, l1]
  have hX1 : gFx (T ++ [(7, 0)]) (zr M L) := gFx_ex hX (by omega) hE1 (fun b j hb _ => by rw [gr_zr, if_neg (by omega)])
  have n1 : gnew T M (7, 0) = some (L, T ++ [(7, 0)], zr M L) := by
    unfold gnew
    rw [if_pos (by omega), hl]
  have n2 : gnewa (T ++ [(7, 0)]) (zr M L) 11 (nI m) 800 = some (L + 1, (T ++ [(7, 0)]) ++ [(11, m)], zr (zr M L) (L + 1)) := by
    unfold gnewa gnew
    rw [nI_clamp (by omega), if_neg, if_pos (by omega), l1]
    rintro (q | q)
    · exact nI_pos (by omega) q
    · omega
  have t36 : (T ++ [((7 : Nat), (0 : Nat))])[36]? = some (11, 800) := s_36 hX1
  have t36b : ((T ++ [((7 : Nat), (0 : Nat))]) ++ [(11, m)])[36]? = some (11, 800) := ge_old t36
  have tL1 : ((T ++ [((7 : Nat), (0 : Nat))]) ++ [(11, m)])[L + 1]? = some (11, m) := by
    rw [← l1]
    exact ge_last
  have him : imin (Int32.ofNat 800) (nI m) = nI m := by
    show (if nI m < nI 800 then nI m else nI 800) = nI m
    rw [if_pos (show nI m < nI 800 from nI_lt (by omega) (by decide))]
  have n3 : acp ((T ++ [(7, 0)]) ++ [(11, m)]) (zr (zr M L) (L + 1)) 36 (0 : Int32) (L + 1) (0 : Int32) (nI m) = some (cpi (zr (zr M L) (L + 1)) 36 0 (L + 1) 0 m) := acp_ok (s0 := 0) (d0 := 0) t36b tL1 (by omega) (by omega) (by decide) (by omega)
  have n4 : gnew ((T ++ [(7, 0)]) ++ [(11, m)]) (cpi (zr (zr M L) (L + 1)) 36 0 (L + 1) 0 m) (11, 11) = some (L + 2, ((T ++ [(7, 0)]) ++ [(11, m)]) ++ [(11, 11)], zr (cpi (zr (zr M L) (L + 1)) 36 0 (L + 1) 0 m) (L + 2)) := by
    unfold gnew
    rw [l2, if_pos (by omega)]
  have e5 : gi (zr M L) 2 5 = nI m := by rw [gi_zr, if_neg (by omega)]; exact h5
  have ngd : gkd ((T ++ [(7, 0)]) ++ [(11, m)]) (L + 1) 11 = some () := by
    unfold gkd
    rw [tL1]
    rfl
  unfold cTail f_J7_copyOf_59c91 f_X7_init
  rw [r_2_1 hX, Option.bind_some, n1, Option.bind_some]
  dsimp only
  rw [r_2_4 hX1, Option.bind_some, e5, alen_of t36, if_pos (show ¬ nI m = Int32.ofNat 800 from fun q => by have := (nI_eq (a := m) (b := 800) (by omega) (by decide)).mp q; omega), n2, Option.bind_some]
  dsimp only
  rw [alen_of t36b, him, n3, Option.bind_some, Option.bind_some]
  dsimp only
  rw [ngd, Option.bind_some, n4, Option.bind_some, Option.bind_some]
  dsimp only
  refine ⟨_, rfl, fun b j hb => ?_, fun b j hb => ?_, fun b j hb hj => ?_, ?_, ?_, ?_, fun t ht => ?_⟩
  · rw [gi_sr, gi_sr, gi_sr, gi_zr, if_neg (by omega), gi_cpi, if_neg (by omega), gi_zr, if_neg (by omega), gi_zr, if_neg (by omega)]
  · show gl (zr (cpi (zr (zr M L) (L + 1)) 36 0 (L + 1) 0 m) (L + 2)) b j = _
    rw [gl_zr, if_neg (by omega), gl_cpi, gl_zr, if_neg (by omega), gl_zr, if_neg (by omega)]
  · rw [gr_sr, if_neg hj, gr_sr, if_neg (by omega), gr_sr, if_neg (by omega), gr_zr, if_neg (by omega), gr_cpi, gr_zr, if_neg (by omega), gr_zr, if_neg (by omega)]
  · rw [gr_sr, if_pos ⟨rfl, rfl⟩]
  · rw [gr_sr, if_neg (by omega), gr_sr, if_pos ⟨rfl, rfl⟩]
  · rw [gr_sr, if_neg (by omega), gr_sr, if_neg (by omega), gr_sr, if_pos ⟨rfl, rfl⟩]
  · rw [gi_sr, gi_sr, gi_sr, gi_zr, if_neg (by omega), gi_cpi, if_pos ⟨rfl, Nat.zero_le t, by omega⟩, Nat.sub_zero, Nat.zero_add, gi_zr, if_neg (by omega), gi_zr, if_neg (by omega)]
end PJE
