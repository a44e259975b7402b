/-! STRINGS: constants and made ones; builders -/
theorem shr0 (x : Int32) : x >>> ((0 : Int32) &&& 31) = x := by
  rw [show ((0 : Int32) &&& 31) = 0 by decide]
  exact Int32.shiftRight_zero
theorem shl0 (x : Int32) : x <<< ((0 : Int32) &&& 31) = x := by
  rw [show ((0 : Int32) &&& 31) = 0 by decide]
  exact Int32.shiftLeft_zero
/-- the string s spells l -/
def sS (T : gT) (M : gM) (s : Nat) (l : List Nat) : Prop := (l.length ≤ 200 ∧ ∀ j, j < l.length → l.getD j 0 < 128) ∧ ((∃ v, T[s]? = some (19, 0) ∧ gr M s 0 = some v ∧ T[v]? = some (10, l.length) ∧ gi M s 1 = 0 ∧ ∀ j, j < l.length → gi M v j = nI (l.getD j 0)) ∨ ∃ i, i < 34 ∧ s = gSB + i ∧ l = gStrs.getD i [])
theorem str_lo : ∀ i, i < 34 → (gStrs.getD i []).length ≤ 200 ∧ ∀ j, j < (gStrs.getD i []).length → (gStrs.getD i []).getD j 0 < 128 := by decide +kernel
theorem sS_c {T : gT} {M : gM} {i : Nat} (h : i < 34) : sS T M (gSB + i) (gStrs.getD i []) := ⟨str_lo i h, Or.inr ⟨i, h, rfl, rfl⟩⟩
theorem ch_ok : ∀ c, c < 128 → (((nI c &&& (255 : Int32))).toUInt32 % 65536).toInt32 = nI c ∧ narrow .char (.int (nI c)) = .int (nI c) ∧ ((nI c).toInt8.toInt32).toInt8.toInt32 = nI c ∧ fits .byte (.int (nI c)) = true ∧ ¬ (255 : Int32) < nI c := by decide +kernel
theorem p19 : Option.map Prod.fst (some ((19 : Nat), (0 : Nat))) = some 19 := rfl
section PSG
variable {T T1 : gT} {M M1 N : gM} {s v a q i x c k cap need : Nat} {l w : List Nat}
theorem T_none (hT : T.length ≤ 900000) (i : Nat) : ¬ (T[gSB + i]?).map Prod.fst = some 19 := by
  rw [List.getElem?_eq_none (by unfold gSB; omega)]
  intro h
  cases h
theorem sS_len (hT : T.length ≤ 900000) (h : sS T M s l) : fS_length T M s = some (nI l.length) := by
  obtain ⟨⟨h0, h1⟩, ⟨v, a1, a2, a3, a4, a5⟩ | ⟨i, hi, rfl, rfl⟩⟩ := h
  · unfold fS_length f_J0_length_8abf5 f_J0_coder_7d493 f_J0_coder_7d493_14
    rw [a1, if_pos p19, ldr_ok a2 a3, Option.bind_some, a4, chk_ok (by decide), Option.bind_some, Option.bind_some, alen_of a3, shr0]
    rfl
  · unfold fS_length slen
    rw [if_neg (T_none hT i), chk_ok (Nat.le_add_right _ _), Option.bind_some, Nat.add_sub_cancel_left, if_pos hi]
    rfl
theorem sS_at (hT : T.length ≤ 900000) (h : sS T M s l) (hk : k < l.length) : fS_charAt T M s (nI k) = some (nI (l.getD k 0)) := by
  obtain ⟨⟨h0, h1⟩, ⟨v, a1, a2, a3, a4, a5⟩ | ⟨i, hi, rfl, rfl⟩⟩ := h
  · obtain ⟨c1, c2, -⟩ := ch_ok _ (h1 k hk)
    unfold fS_charAt f_J0_charAt_5068e f_J0_isLatin1_aae02 f_J0_isLatin1_aae02_18 f_J1_charAt_3b067
    rw [a1, if_pos p19, a4, if_neg (fun z => z rfl), chk_ok (Or.inr rfl), Option.bind_some, Option.bind_some, if_neg (by decide), ldr_ok a2 a3, Option.bind_some, alen_of a3, chk_ok ⟨Int32.not_lt.mp (nI_pos (by omega)), nI_lt hk (by omega)⟩, Option.bind_some, ald_ok a3 hk (by omega), Option.bind_some, a5 k hk, c1, chk_ok c2, Option.bind_some, Option.bind_some, chk_ok c2, Option.bind_some]
  · unfold fS_charAt sch
    rw [if_neg (T_none hT i), chk_ok (Nat.le_add_right _ _), Option.bind_some, Nat.add_sub_cancel_left, nI_clamp (by omega), if_pos ⟨hi, Int32.not_lt.mp (nI_pos (by omega)), hk⟩]
    rfl
theorem sS_cod (hT : T.length ≤ 900000) (h : sS T M s l) : fS_coder T M s = some 0 := by
  obtain ⟨⟨h0, h1⟩, ⟨v, a1, a2, a3, a4, a5⟩ | ⟨i, hi, rfl, rfl⟩⟩ := h
  · unfold fS_coder f_J0_coder_7d493 f_J0_coder_7d493_14
    rw [a1, if_pos p19, a4, chk_ok (by decide), Option.bind_some]
  · unfold fS_coder
    rw [if_neg (T_none hT i), chk_ok ⟨Nat.le_add_right _ _, by omega⟩, Option.bind_some]
theorem sS_ks (h : sS T M s l) : gks T s = some () := by
  unfold gks
  obtain ⟨-, ⟨v, a1, -⟩ | ⟨i, hi, rfl, -⟩⟩ := h
  · rw [a1, if_pos (Or.inl p19)]
  · rw [if_pos (Or.inr ⟨Nat.le_add_right _ _, by omega⟩)]
/-- the letters go into a row -/
theorem sS_get (hT : T.length ≤ 900000) (h : sS T M s l) (ha : T[a]? = some (10, cap)) (hq : q + l.length ≤ cap) (hc : cap ≤ 2000) : ∃ N, fS_getBytes T M s a (nI q) 0 = some N ∧ (∀ b j, gr N b j = gr M b j) ∧ (∀ b j, gl N b j = gl M b j) ∧ (∀ b j, ¬ (b = a ∧ q ≤ j ∧ j < q + l.length) → gi N b j = gi M b j) ∧ ∀ j, j < l.length → gi N a (q + j) = nI (l.getD j 0) := by
  obtain ⟨⟨h0, h1⟩, ⟨v, a1, a2, a3, a4, a5⟩ | ⟨i, hi, rfl, rfl⟩⟩ := h
  · unfold fS_getBytes f_J0_getBytes_840e7 f_J0_coder_7d493 f_J0_coder_7d493_14
    rw [a1, if_pos p19, a4, chk_ok (by decide), Option.bind_some, Option.bind_some, if_neg (fun z => z rfl), ldr_ok a2 a3, Option.bind_some, Option.bind_some, shl0, alen_of a3]
    have hcp : acpb T M v (0 : Int32) a (nI q) (nI l.length) = some (cpi M v 0 a q l.length) := by
      unfold acpb
      rw [show (0 : Int32).toNatClampNeg = 0 from rfl, nI_clamp (show q < 2 ^ 31 by omega), nI_clamp (show l.length < 2 ^ 31 by omega), alen_of a3, alen_of ha, if_neg]
      rintro (z | z | z | z | z | z)
      · exact absurd z (by decide)
      · exact nI_pos (by omega) z
      · exact nI_pos (by omega) z
      · omega
      · omega
      · exact z (fun j hj => by rw [Nat.zero_add, a5 j hj]; exact (ch_ok _ (h1 j hj)).2.2.2.1)
    rw [show Int32.ofNat l.length = nI l.length from rfl, hcp, Option.bind_some]
    refine ⟨_, rfl, fun _ _ => rfl, fun _ _ => rfl, fun b j hb => by rw [gi_cpi, if_neg hb], fun j hj => ?_⟩
    rw [gi_cpi, if_pos ⟨rfl, by omega, by omega⟩, Nat.add_sub_cancel_left, Nat.zero_add]
    exact a5 j hj
  · unfold fS_getBytes
    have hsl : gSl i = (gStrs.getD i []).length := rfl
    rw [if_neg (T_none hT i), chk_ok ⟨Nat.le_add_right _ _, by omega, rfl, nI_pos (by omega), by rw [nI_clamp (by omega), Nat.add_sub_cancel_left, alen_of ha, hsl]; exact hq⟩, Option.bind_some, Nat.add_sub_cancel_left, nI_clamp (by omega)]
    refine ⟨_, rfl, fun _ _ => rfl, fun _ _ => rfl, fun b j hb => by rw [gi_gcs, hsl, if_neg hb], fun j hj => ?_⟩
    rw [gi_gcs, hsl, if_pos ⟨rfl, by omega, by omega⟩, Nat.add_sub_cancel_left]
    rfl
theorem sS_to (h : sS T M s l) (hk : (∀ b, (b = s ∨ ∃ x, T[b]? = some (10, x)) → ∀ x, T[b]? = some x → T1[b]? = some x ∧ (∀ j, gi M1 b j = gi M b j) ∧ ∀ j, gr M1 b j = gr M b j)) : sS T1 M1 s l := by
  obtain ⟨h0, ⟨v, a1, a2, a3, a4, a5⟩ | h1⟩ := h
  · obtain ⟨b1, b2, b3⟩ := hk s (Or.inl rfl) _ a1
    obtain ⟨c1, c2, c3⟩ := hk v (Or.inr ⟨_, a3⟩) _ a3
    exact ⟨h0, Or.inl ⟨v, b1, (b3 0).trans a2, c1, (b2 1).trans a4, fun j hj => (c2 j).trans (a5 j hj)⟩⟩
  · exact ⟨h0, Or.inr h1⟩
theorem sS_gTo (h : sS T M s l) (hG : gTo T M T1 M1 c) : sS T1 M1 s l := sS_to h (fun b _ x hx => ⟨gTo_sh hG hx, gTo_gi hG hx, gTo_gr hG hx⟩)
/-! BUILDERS -/
/-- the builder a holds l; q: where its things begin -/
def bT (T : gT) (M : gM) (q a : Nat) (l : List Nat) (cap : Nat) : Prop := ∃ v, (q ≤ a ∧ q ≤ v) ∧ T[a]? = some (20, 0) ∧ gr M a 0 = some v ∧ T[v]? = some (10, cap) ∧ gi M a 1 = 0 ∧ gi M a 3 = nI l.length ∧ (l.length ≤ cap ∧ cap ≤ 402 ∧ l.length ≤ 200) ∧ (∀ j, l.length ≤ j → j < cap → gi M v j = 0) ∧ ∀ j, j < l.length → l.getD j 0 < 128 ∧ gi M v j = nI (l.getD j 0)
theorem bT_to (h : bT T M q a l cap) (hG : gTo T M T1 M1 c) : bT T1 M1 q a l cap := by
  obtain ⟨v, h0, a1, a2, a3, a4, a5, a6, a7, a8⟩ := h
  exact ⟨v, h0, gTo_sh hG a1, (gTo_gr hG a1 0).trans a2, gTo_sh hG a3, (gTo_gi hG a1 1).trans a4, (gTo_gi hG a1 3).trans a5, a6, fun j h1 h2 => (gTo_gi hG a3 j).trans (a7 j h1 h2), fun j hj => ⟨(a8 j hj).1, (gTo_gi hG a3 j).trans (a8 j hj).2⟩⟩
theorem b_new (hT : T.length + 2 ≤ 900000) : ∃ T1 M1, gnew T M (20, 0) = some (T.length, T ++ [(20, 0)], zr M T.length) ∧ f_J4_init_da8c8 (T ++ [(20, 0)]) (zr M T.length) T.length = some ((T1, M1), 1, 16) ∧ gTo T M T1 M1 2 ∧ bT T1 M1 T.length T.length [] 16 := by
  have g1 : gTo T M (T ++ [(20, 0)]) (zr M T.length) 1 := gTo_new
  have s1 : (T ++ [((20 : Nat), (0 : Nat))])[T.length]? = some (20, 0) := sh_new
  have l1 : (T ++ [((20 : Nat), (0 : Nat))]).length = T.length + 1 := len_1
  have z1 : gi (zr M T.length) T.length 3 = 0 := by rw [gi_zr, if_pos rfl]
  have n1 := gnew_ok (T := T) (M := M) (sh := (20, 0)) (by omega)
  generalize hTT : T ++ [((20 : Nat), (0 : Nat))] = T2 at g1 s1 l1 n1 ⊢
  generalize hMM : zr M T.length = M2 at g1 n1 z1 ⊢
  have g2 : gTo T2 M2 (T2 ++ [(10, 16)]) (zr M2 T2.length) 1 := gTo_new
  have s2 : (T2 ++ [((10 : Nat), (16 : Nat))])[T2.length]? = some (10, 16) := sh_new
  have G := gTo_si (a := T.length) (k := 1) (x := 0) (gTo_sr (a := T.length) (k := 0) (x := some T2.length) (gTo_tr g1 g2) (Nat.le_refl _)) (Nat.le_refl _)
  refine ⟨T2 ++ [(10, 16)], si (sr (zr M2 T2.length) T.length 0 (some T2.length)) T.length 1 0, n1, ?_, G, T2.length, ⟨Nat.le_refl _, by omega⟩, gTo_sh g2 s1, ?_, s2, ?_, ?_, ⟨by simp, by decide, by simp⟩, fun j _ _ => ?_, fun j hj => absurd hj (Nat.not_lt_zero j)⟩
  · unfold f_J4_init_da8c8 f_J5_init_d00df
    rw [show (16 : Int32) = nI 16 from rfl, gnewa_ok (by omega) (by decide), Option.bind_some]
    rfl
  · rw [gr_si, gr_sr, if_pos ⟨rfl, rfl⟩]
  · rw [gi_si, if_pos ⟨rfl, rfl⟩]
  · rw [gi_si, if_neg (by omega), gi_sr, gi_zr, if_neg (by omega)]
    exact z1
  · rw [gi_si, if_neg (by omega), gi_sr, gi_zr, if_pos rfl]
end PSG
