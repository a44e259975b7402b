/-! ALL BINDINGS, row by row -/
theorem gnewm_ok {T : gT} {M : gM} {N K : Nat} (h : T.length < 900000) (hN : N ≤ 10000) (hK : K ≤ 10000) : gnewmI T M (nI N) (nI K) = some (T.length, T ++ ((15, N) :: List.replicate N (11, K)), gmm M T.length N) := by
  unfold gnewmI gnewm
  rw [nI_clamp (show N < 2 ^ 31 by omega), nI_clamp (show K < 2 ^ 31 by omega), if_neg, if_pos h]
  rintro (q | q | q | q)
  · exact nI_pos (by omega) q
  · exact nI_pos (by omega) q
  · omega
  · omega
/-- R0: rows of nn numbers, nl of them -/
def gBR (T : gT) (M : gM) (R0 nl nn : Nat) : Prop := T[R0]? = some (15, nl) ∧ ∀ i, i < nl → gr M R0 i = some (R0 + 1 + i) ∧ T[R0 + 1 + i]? = some (11, nn)
theorem gBR_to {T T1 : gT} {M M1 : gM} {R0 nl nn c : Nat} (hG : gTo T M T1 M1 c) (h : gBR T M R0 nl nn) : gBR T1 M1 R0 nl nn := ⟨gTo_sh hG h.1, fun i hi => ⟨(gTo_gr hG h.1 i).trans (h.2 i hi).1, gTo_sh hG (h.2 i hi).2⟩⟩
theorem gBR_si {T : gT} {M : gM} {R0 nl nn a k : Nat} {x : Int32} (h : gBR T M R0 nl nn) : gBR T (si M a k x) R0 nl nn := h
theorem gTo_mm {T : gT} {M : gM} {N K : Nat} : gTo T M (T ++ ((15, N) :: List.replicate N (11, K))) (gmm M T.length N) (1 + N) := by
  refine ⟨fun b x hx => ?_, fun b hb => ⟨fun j => ?_, fun j => ?_, fun j => ?_⟩, ?_⟩
  · rw [List.getElem?_append_left (List.getElem?_eq_some_iff.mp hx).1]
    exact hx
  · show (if _ then _ else _) = _
    rw [if_neg (by omega)]
    rfl
  · show (if _ then _ else _) = _
    rw [if_neg (by omega)]
    rfl
  · show (if _ then _ else if _ then _ else _) = _
    rw [if_neg (by omega), if_neg (by omega)]
    rfl
  · rw [List.length_append, List.length_cons, List.length_replicate]
    omega
theorem gBR_mm {T : gT} {M : gM} {N K : Nat} : gBR (T ++ ((15, N) :: List.replicate N (11, K))) (gmm M T.length N) T.length N K := by
  refine ⟨?_, fun i hi => ⟨?_, ?_⟩⟩
  · rw [List.getElem?_append_right (Nat.le_refl _), Nat.sub_self]
    rfl
  · show (if _ then _ else _) = _
    rw [if_pos rfl, if_pos hi]
  · rw [List.getElem?_append_right (by omega), show T.length + 1 + i - T.length = i + 1 by omega, List.getElem?_cons_succ, List.getElem?_replicate, if_pos hi]
section PBR
variable {P : Nat → Prop} {T T0 T1 : gT} {M M1 V : gM} {a A B : Nat} {L R O : Nat → Nat} {lc : Nat} {ld : Nat → Nat} {D : Nat} {k : Nat → Nat × Nat} {m c c0 i n R0 : Nat}
theorem p_bn27 (hV : gVal T0 V D) (h : LK P T M a A B L R O lc ld V D k m) (hok : wOK k m) (h5 : lc ≤ 5) (h4 : dNn V D ≤ 4) (hi : i < dNl V D) (hG : gTo T M T1 M1 c0) (hb : gBR T1 M1 R0 (dNl V D) (dNn V D)) (hR : T.length ≤ R0) (hT : T1.length + 320 ≤ 900000) : ∃ (e : gT × gM) (c s : Nat), gloopc (fun x : Int32 × gT × gM => f_X10_bindings_B27 x.2.1 x.2.2 a R0 (nI i) x.1) gFU ((0 : Int32), T1, M1) = some (e, c, s) ∧ gTo T M e.1 e.2 (c0 + c) ∧ c ≤ 320 ∧ s ≤ 1280 ∧ gBR e.1 e.2 R0 (dNl V D) (dNn V D) ∧ (∀ i', i' < dNl V D → i' ≠ i → ∀ n, gi e.2 (R0 + 1 + i') n = gi M1 (R0 + 1 + i') n) ∧ ∀ n, n < dNn V D → gi e.2 (R0 + 1 + i) n = vBd (vW V D k m) V D i n := by
  have h8 := hV.2.1
  refine loopc_ex (P := fun t y c s => y.1 = nI t ∧ t ≤ dNn V D ∧ gTo T M y.2.1 y.2.2 (c0 + c) ∧ c ≤ 80 * t ∧ s ≤ 320 * t ∧ gBR y.2.1 y.2.2 R0 (dNl V D) (dNn V D) ∧ (∀ i', i' < dNl V D → i' ≠ i → ∀ n, gi y.2.2 (R0 + 1 + i') n = gi M1 (R0 + 1 + i') n) ∧ ∀ n, n < t → gi y.2.2 (R0 + 1 + i) n = vBd (vW V D k m) V D i n) (Q := fun (e : gT × gM) c s => gTo T M e.1 e.2 (c0 + c) ∧ c ≤ 320 ∧ s ≤ 1280 ∧ gBR e.1 e.2 R0 (dNl V D) (dNn V D) ∧ (∀ i', i' < dNl V D → i' ≠ i → ∀ n, gi e.2 (R0 + 1 + i') n = gi M1 (R0 + 1 + i') n) ∧ ∀ n, n < dNn V D → gi e.2 (R0 + 1 + i) n = vBd (vW V D k m) V D i n) (fu := gFU) (x := ((0 : Int32), T1, M1)) (dNn V D) (Nat.lt_of_le_of_lt h4 (by decide)) ⟨rfl, Nat.zero_le _, hG, by omega, by omega, hb, fun _ _ _ _ => rfl, fun n hn => absurd hn (Nat.not_lt_zero n)⟩ (fun t y c s _ hP => ?_)
  obtain ⟨y1, T2, M2⟩ := y
  obtain ⟨rfl, ht, hG2, hc, hs9, hb2, ho, hd⟩ := hP
  dsimp only at hG2 hb2 ho hd
  have h1 := LK_to hG2 h
  dsimp only
  unfold f_X10_bindings_B27
  rw [LK_kd h1, Option.bind_some, gkd_ok hb2.1, Option.bind_some, LK_n hV h1]
  by_cases e : t = dNn V D
  · rw [if_pos (nI_le (by omega) (by omega))]
    exact Or.inl ⟨(T2, M2), 0, 0, rfl, hG2, by omega, by omega, hb2, ho, fun n hn => hd n (by omega)⟩
  · have hlt : t < dNn V D := by omega
    have hl1 := hG.2.2
    have hl2 := hG2.2.2
    obtain ⟨v, T3, M3, c3, s3, w1, w2, w3, w4, w5⟩ := p_binding hV h1 hok h5 hi hlt (by omega)
    have hb3 := gBR_to w2 hb2
    rw [if_neg (nI_ge hlt (by omega)), aldr_ok hb2.1 hi (by omega) (hb2.2 i hi).1 (hb2.2 i hi).2, Option.bind_some, w1, Option.bind_some]
    dsimp only
    rw [ast_ok (hb3.2 i hi).2 hlt (by omega), Option.bind_some, cadd_some, nI_1]
    refine Or.inr ⟨hlt, _, _, _, rfl, rfl, by omega, ?_, by omega, by omega, gBR_si hb3, fun i' hi' hne n => ?_, fun n hn => ?_⟩
    · show gTo T M T3 (si M3 (R0 + 1 + i) t v) (c0 + (c + (c3 + 0)))
      rw [show c0 + (c + (c3 + 0)) = c0 + c + c3 by omega]
      exact gTo_si (gTo_tr hG2 w2) (by omega)
    · show gi (si M3 (R0 + 1 + i) t v) (R0 + 1 + i') n = _
      rw [gi_si, if_neg (by omega), gTo_gi w2 (hb2.2 i' hi').2]
      exact ho i' hi' hne n
    · show gi (si M3 (R0 + 1 + i) t v) (R0 + 1 + i) n = _
      rw [gi_si]
      by_cases en : n = t
      · rw [if_pos ⟨rfl, en⟩, w5, en]
      · rw [if_neg (by omega), gTo_gi w2 (hb2.2 i hi).2]
        exact hd n (by omega)
theorem p_bindings (hV : gVal T0 V D) (h : LK P T M a A B L R O lc ld V D k m) (hok : wOK k m) (h5 : lc ≤ 5) (hl : dNl V D ≤ 5) (h4 : dNn V D ≤ 4) (hT : T.length + 1606 ≤ 900000) : cR T M (f_X10_bindings T M a) 1606 6425 (fun v T' M' => v = T.length ∧ gBR T' M' T.length (dNl V D) (dNn V D) ∧ ∀ i, i < dNl V D → ∀ n, n < dNn V D → gi M' (T.length + 1 + i) n = vBd (vW V D k m) V D i n) := by
  have hnn : dNl V D * dNn V D ≤ 5 * 4 := Nat.mul_le_mul hl h4
  have hG0 : gTo T M _ _ _ := gTo_mm (T := T) (M := M) (N := dNl V D) (K := dNn V D)
  have hb0 := gBR_mm (T := T) (M := M) (N := dNl V D) (K := dNn V D)
  unfold f_X10_bindings
  rw [LK_all h, Option.bind_some, alen_of h.2.1.2.2, LK_n hV h, show Int32.ofNat (dNl V D) = nI (dNl V D) from rfl, gnewm_ok (by omega) (by omega) (by omega), Option.bind_some, nI_clamp (show dNl V D < 2 ^ 31 by omega), nI_clamp (show dNn V D < 2 ^ 31 by omega)]
  dsimp only
  generalize T ++ ((15, dNl V D) :: List.replicate (dNl V D) (11, dNn V D)) = T1 at hG0 hb0 ⊢
  generalize gmm M T.length (dNl V D) = M1 at hG0 hb0 ⊢
  have hl1 := hG0.2.2
  obtain ⟨⟨T2, M2⟩, c2, s2, e1, e2, e3, e4, e5, e6⟩ := loopc_ex (B := fun x : Int32 × gT × gM => f_X10_bindings_B16 x.2.1 x.2.2 a T.length x.1) (P := fun t y c s => y.1 = nI t ∧ t ≤ dNl V D ∧ gTo T M y.2.1 y.2.2 (1 + dNl V D + c) ∧ c ≤ 320 * t ∧ s ≤ 1280 * t ∧ gBR y.2.1 y.2.2 T.length (dNl V D) (dNn V D) ∧ ∀ i, i < t → ∀ n, n < dNn V D → gi y.2.2 (T.length + 1 + i) n = vBd (vW V D k m) V D i n) (Q := fun (e : gT × gM) c s => gTo T M e.1 e.2 (1 + dNl V D + c) ∧ c ≤ 1600 ∧ s ≤ 6400 ∧ gBR e.1 e.2 T.length (dNl V D) (dNn V D) ∧ ∀ i, i < dNl V D → ∀ n, n < dNn V D → gi e.2 (T.length + 1 + i) n = vBd (vW V D k m) V D i n) (fu := gFU) (x := ((0 : Int32), T1, M1)) (dNl V D) (Nat.lt_of_le_of_lt hl (by decide)) ⟨rfl, Nat.zero_le _, hG0, by omega, by omega, hb0, fun n hn => absurd hn (Nat.not_lt_zero n)⟩ (fun t y c s _ hP => by
    obtain ⟨y1, T2, M2⟩ := y
    obtain ⟨rfl, ht, hG2, hc, hs9, hb2, hd⟩ := hP
    dsimp only at hG2 hb2 hd
    have h1 := LK_to hG2 h
    dsimp only
    unfold f_X10_bindings_B16
    rw [LK_kd h1, Option.bind_some, gkd_ok hb2.1, Option.bind_some, LK_all h1, Option.bind_some, alen_of h1.2.1.2.2]
    by_cases e : t = dNl V D
    · rw [if_pos (show Int32.ofNat (dNl V D) ≤ nI t from nI_le (by omega) (by omega))]
      exact Or.inl ⟨(T2, M2), 0, 0, rfl, hG2, by omega, by omega, hb2, fun i hi => hd i (by omega)⟩
    · have hlt : t < dNl V D := by omega
      have hl2 := hG2.2.2
      obtain ⟨⟨T3, M3⟩, c3, s3, w1, w2, w3, w4, w5, w6, w7⟩ := p_bn27 (i := t) hV h hok h5 h4 hlt hG2 hb2 (Nat.le_refl _) (by omega)
      dsimp only at w2 w5 w6 w7
      rw [if_neg (show ¬ Int32.ofNat (dNl V D) ≤ nI t from nI_ge hlt (by omega)), w1, Option.bind_some]
      dsimp only
      rw [cadd_some, nI_1]
      refine Or.inr ⟨hlt, _, _, _, rfl, rfl, by omega, ?_, by omega, by omega, w5, fun i hi n hn => ?_⟩
      · show gTo T M T3 M3 (1 + dNl V D + (c + (c3 + 0)))
        rw [show 1 + dNl V D + (c + (c3 + 0)) = 1 + dNl V D + c + c3 by omega]
        exact w2
      · show gi M3 _ _ = _
        by_cases ei : i = t
        · rw [ei]; exact w7 n hn
        · rw [w6 i (by omega) ei n]
          exact hd i (by omega) n hn)
  rw [e1, Option.bind_some]
  dsimp only
  rw [cadd_some, cadd_some]
  exact ⟨_, _, _, _, _, rfl, e2, by omega, by omega, rfl, e5, e6⟩
end PBR
