/-! THE NEW WEIGHT of the class -/
theorem gRefs_lo : ∀ q ∈ gRefs, q.1 < 359 := by decide +kernel
section PJE
variable {T T' : gT} {M N : gM} {m : Nat}
theorem ge_last {x : Nat × Nat} : (T ++ [x])[T.length]? = some x := by simp
theorem ge_old {x y : Nat × Nat} {a : Nat} (h : T[a]? = some y) : (T ++ [x])[a]? = some y := by
  rw [List.getElem?_append_left (List.getElem?_eq_some_iff.mp h).1]
  exact h
theorem ge_len {x : Nat × Nat} : (T ++ [x]).length = T.length + 1 := by simp
/-- T' goes on where T ends -/
def gEx (T T' : gT) : Prop := ∀ (a : Nat) (y : Nat × Nat), T[a]? = some y → T'[a]? = some y
theorem gFx_ex (h : gFx T M) (hl : 359 ≤ T.length) (hE : gEx T T') (hg : ∀ b j, b < 359 → ¬ (b ∈ gDs ∧ j = 4) → gr N b j = gr M b j) : gFx T' N := ⟨fun a ha => by
  have hx : T[a]? = some T[a] := List.getElem?_eq_getElem (by omega)
  rw [hE a _ hx, ← hx]
  exact h.1 a ha, fun q hq => (hg _ _ (gRefs_lo q hq) (gRefs_no4 q hq)).trans (h.2 q hq)⟩
theorem c_tail (hX : gFx T M) (hL : T.length + 3 ≤ 900000) (h359 : 359 ≤ T.length) (h5 : gi M 2 5 = nI m) (hm : m < 800) : ∃ N, cTail T M = some (1, ((T ++ [(7, 0)]) ++ [(11, m)]) ++ [(11, 11)], N) ∧ (∀ b j, b < T.length → gi N b j = gi M b j) ∧ (∀ b j, b < T.length → gl N b j = gl M b j) ∧ (∀ b j, b < T.length → ¬ (b = 5 ∧ j = 4) → gr N b j = gr M b j) ∧ gr N 5 4 = some T.length ∧ gr N T.length 0 = some (T.length + 1) ∧ gr N T.length 1 = some (T.length + 2) ∧ ∀ t, t < m → gi N (T.length + 1) t = gi M 36 t := by
  generalize hl : T.length = L at hL h359
  have hE1 : gEx T (T ++ [(7, 0)]) := fun a y h => ge_old h
  have hE2 : gEx T ((T ++ [(7, 0)]) ++ [(11, m)]) := fun a y h => ge_old (ge_old h)
  have l1 : (T ++ [((7 : Nat), (0 : Nat))]).length = L + 1 := by rw [ge_len, hl]
  have l2 : ((T ++ [((7 : Nat), (0 : Nat))]) ++ [(11, m)]).length = L + 2 := by rw [ge_len, l1]
  have hX1 : gFx (T ++ [(7, 0)]) (zr M L) := gFx_ex hX (by omega) hE1 (fun b j hb _ => by rw [gr_zr, if_neg (by omega)])
  have n1 : gnew T M (7, 0) = some (L, T ++ [(7, 0)], zr M L) := by
    unfold gnew
    rw [if_pos (by omega), hl]
  have n2 : gnewa (T ++ [(7, 0)]) (zr M L) 11 (nI m) 800 = some (L + 1, (T ++ [(7, 0)]) ++ [(11, m)], zr (zr M L) (L + 1)) := by
    unfold gnewa gnew
    rw [nI_clamp (by omega), if_neg, if_pos (by omega), l1]
    rintro (q | q)
    · exact nI_pos (by omega) q
    · omega
  have t36 : (T ++ [((7 : Nat), (0 : Nat))])[36]? = some (11, 800) := s_36 hX1
  have t36b : ((T ++ [((7 : Nat), (0 : Nat))]) ++ [(11, m)])[36]? = some (11, 800) := ge_old t36
  have tL1 : ((T ++ [((7 : Nat), (0 : Nat))]) ++ [(11, m)])[L + 1]? = some (11, m) := by
    rw [← l1]
    exact ge_last
  have him : imin (Int32.ofNat 800) (nI m) = nI m := by
    show (if nI m < nI 800 then nI m else nI 800) = nI m
    rw [if_pos (show nI m < nI 800 from nI_lt (by omega) (by decide))]
  have n3 : acp ((T ++ [(7, 0)]) ++ [(11, m)]) (zr (zr M L) (L + 1)) 36 (0 : Int32) (L + 1) (0 : Int32) (nI m) = some (cpi (zr (zr M L) (L + 1)) 36 0 (L + 1) 0 m) := acp_ok (s0 := 0) (d0 := 0) t36b tL1 (by omega) (by omega) (by decide) (by omega)
  have n4 : gnew ((T ++ [(7, 0)]) ++ [(11, m)]) (cpi (zr (zr M L) (L + 1)) 36 0 (L + 1) 0 m) (11, 11) = some (L + 2, ((T ++ [(7, 0)]) ++ [(11, m)]) ++ [(11, 11)], zr (cpi (zr (zr M L) (L + 1)) 36 0 (L + 1) 0 m) (L + 2)) := by
    unfold gnew
    rw [l2, if_pos (by omega)]
  have e5 : gi (zr M L) 2 5 = nI m := by rw [gi_zr, if_neg (by omega)]; exact h5
  have ngd : gkd ((T ++ [(7, 0)]) ++ [(11, m)]) (L + 1) 11 = some () := by
    unfold gkd
    rw [tL1]
    rfl
  unfold cTail f_J7_copyOf_59c91 f_X7_init
  rw [r_2_1 hX, Option.bind_some, n1, Option.bind_some]
  dsimp only
  rw [r_2_4 hX1, Option.bind_some, e5, alen_of t36, if_pos (show ¬ nI m = Int32.ofNat 800 from fun q => by have := (nI_eq (a := m) (b := 800) (by omega) (by decide)).mp q; omega), n2, Option.bind_some]
  dsimp only
  rw [alen_of t36b, him, n3, Option.bind_some, Option.bind_some]
  dsimp only
  rw [ngd, Option.bind_some, n4, Option.bind_some, Option.bind_some]
  dsimp only
  refine ⟨_, rfl, fun b j hb => ?_, fun b j hb => ?_, fun b j hb hj => ?_, ?_, ?_, ?_, fun t ht => ?_⟩
  · rw [gi_sr, gi_sr, gi_sr, gi_zr, if_neg (by omega), gi_cpi, if_neg (by omega), gi_zr, if_neg (by omega), gi_zr, if_neg (by omega)]
  · show gl (zr (cpi (zr (zr M L) (L + 1)) 36 0 (L + 1) 0 m) (L + 2)) b j = _
    rw [gl_zr, if_neg (by omega), gl_cpi, gl_zr, if_neg (by omega), gl_zr, if_neg (by omega)]
  · rw [gr_sr, if_neg hj, gr_sr, if_neg (by omega), gr_sr, if_neg (by omega), gr_zr, if_neg (by omega), gr_cpi, gr_zr, if_neg (by omega), gr_zr, if_neg (by omega)]
  · rw [gr_sr, if_pos ⟨rfl, rfl⟩]
  · rw [gr_sr, if_neg (by omega), gr_sr, if_pos ⟨rfl, rfl⟩]
  · rw [gr_sr, if_neg (by omega), gr_sr, if_neg (by omega), gr_sr, if_pos ⟨rfl, rfl⟩]
  · rw [gi_sr, gi_sr, gi_sr, gi_zr, if_neg (by omega), gi_cpi, if_pos ⟨rfl, Nat.zero_le t, by omega⟩, Nat.sub_zero, Nat.zero_add, gi_zr, if_neg (by omega), gi_zr, if_neg (by omega)]
end PJE
