/-! STEPS OF THE RANDOM LINKER: its words, the random numbers -/
def P9 (b : Nat) : Prop := 313 ≤ b
/-- the law's buffer, the class, the random numbers; M0: the memory at the linker's start -/
def BS [gW0] (M0 : gM) (T : gT) (M : gM) (tx : List Nat) (nx : Nat) : Prop := WS T M tx nx ∧ T[312]? = some (18, 0) ∧ 313 ≤ T.length ∧ ∀ b j, dIn 5 b j → gi M b j = gi M0 b j
section PBS
variable {T T1 T2 : gT} {M M0 M1 M2 N : gM} {c nx k n i s b a j : Nat} {tx w : List Nat} {x : Int32} {o : Option Nat}
theorem gKe_tr (h : gKe P9 T M T1 M1) (h2 : gKe P9 T1 M1 T2 M2) : gKe P9 T M T2 M2 := fun b hb x hx => by
  obtain ⟨p1, p2, p3⟩ := h b hb x hx
  obtain ⟨q1, q2, q3⟩ := h2 b hb x p1
  exact ⟨q1, fun j => (q2 j).trans (p2 j), fun j => (q3 j).trans (p3 j)⟩
theorem gKe_wP (h : fr wPt M N) : gKe P9 T M T N := fun b hb x hx => ⟨hx, fun j => h.2.2 b j (fun z => by unfold wPt at z; unfold P9 at hb; omega), fun j => h.1 b j⟩
theorem BS_to [gW0] (hG : gTo T M T1 M1 c) (h : BS M0 T M tx nx) : BS M0 T1 M1 tx nx := by
  obtain ⟨⟨a1, a2, a3, a4, a5, a6⟩, h2, h3, h4⟩ := h
  obtain ⟨i1, hds⟩ := cInv_ce (gCe_to hG) a1
  have hl := hG.2.2
  exact ⟨⟨i1, gTo_sh hG a2, a3, (gTo_gi hG a2 0).trans a4, fun j hj => (gTo_gi hG (s_1 a1.1.1) j).trans (a5 j hj), fun w hw => (gTo_gi hG a2 _).trans (a6 w hw)⟩, gTo_sh hG h2, by omega, fun b j hd => by
    have h5 := hds 5 (Or.inl rfl) b j hd
    have := dIn_rng hd
    rw [show b - 5 + 5 = b by omega] at h5
    exact h5.trans (h4 b j hd)⟩
/-- writes behind the class -/
theorem BS_hi [gW0] (hw : 900000 ≤ w0) (hT : T.length ≤ 900000) (h : BS M0 T M tx nx) (g1 : ∀ b, b < 313 → ¬ b = 312 → ∀ j, gi N b j = gi M b j) (g2 : ∀ b, b < 313 → ∀ j, gr N b j = gr M b j) : BS M0 T N tx nx := by
  obtain ⟨⟨a1, a2, a3, a4, a5, a6⟩, h2, h3, h4⟩ := h
  have hce : gCe T M T N := fun b hb y hy => by
    have := sh_lt hy
    exact ⟨hy, g1 b (by omega) (by omega), g2 b (by omega)⟩
  exact ⟨⟨(cInv_ce hce a1).1, a2, a3, (g1 311 (by decide) (by decide) 0).trans a4, fun j hj => (g1 1 (by decide) (by decide) j).trans (a5 j hj), fun w hw => (g1 311 (by decide) (by decide) _).trans (a6 w hw)⟩, h2, h3, fun b j hd => by
    have := d5_no hd
    rw [g1 b (by omega) (by omega)]
    exact h4 b j hd⟩
theorem BS_si [gW0] (hw : 900000 ≤ w0) (hT : T.length ≤ 900000) (h : BS M0 T M tx nx) (ha : 313 ≤ a) : BS M0 T (si M a j x) tx nx := BS_hi hw hT h (fun b hb _ j => by rw [gi_si, if_neg (by omega)]) (fun b hb j => rfl)
theorem BS_sr [gW0] (hw : 900000 ≤ w0) (hT : T.length ≤ 900000) (h : BS M0 T M tx nx) (ha : 313 ≤ a) : BS M0 T (sr M a j o) tx nx := BS_hi hw hT h (fun b hb _ j => rfl) (fun b hb j => by rw [gr_sr, if_neg (by omega)])
theorem BS_fr [gW0] {tx' : List Nat} (h : BS M0 T M tx nx) (hW : WS T N tx' nx) (hF : fr wPt M N) : BS M0 T N tx' nx := ⟨hW, h.2.1, h.2.2.1, fun b j hd => (hF.2.2 b j (fun z => by unfold wPt at z; have := d5_no hd; omega)).trans (h.2.2.2 b j hd)⟩
theorem b_con [gW0] (hw : 900000 ≤ w0) (hT : T.length ≤ 900000) (h : BS M0 T M tx nx) (hi : i < 34) (hl : tx.length + (gStrs.getD i []).length ≤ 700) : ∃ N, f_L_write T M 0 311 (gSB + i) = some N ∧ BS M0 T N (tx ++ gStrs.getD i []) nx ∧ gKe P9 T M T N := by
  obtain ⟨N, c1, c2, c3⟩ := t_write hw hT h.1 (sS_c hi) hl
  exact ⟨N, c1, BS_fr h c2 c3, gKe_wP c3⟩
theorem b_wri [gW0] (hw : 900000 ≤ w0) (hT : T.length ≤ 900000) (h : BS M0 T M tx nx) (hs : sS T M s w) (hl : tx.length + w.length ≤ 700) : ∃ N, f_L_write T M 0 311 s = some N ∧ BS M0 T N (tx ++ w) nx ∧ gKe P9 T M T N := by
  obtain ⟨N, c1, c2, c3⟩ := t_write hw hT h.1 hs hl
  exact ⟨N, c1, BS_fr h c2 c3, gKe_wP c3⟩
theorem b_dig [gW0] (hw : 900000 ≤ w0) (h : BS M0 T M tx nx) (hn : n ≤ 9999) (hl : tx.length + 4 ≤ 700) : ∃ N, f_L_writeNumber T M 0 311 (nI n) = some N ∧ BS M0 T N (tx ++ dg n) nx ∧ gKe P9 T M T N := by
  obtain ⟨N, c1, c2, c3⟩ := t_num hw hn h.1 (by have := (dg_ok hn).2; omega)
  exact ⟨N, c1, BS_fr h c2 c3, gKe_wP c3⟩
theorem b_low [gW0] (hw : 900000 ≤ w0) (hT : T.length ≤ 900000) (h : BS M0 T M tx nx) {b : Nat} (hb : 0 < b) (hb2 : b < 2 ^ 31) : ∃ v x, v < b ∧ f_X12_below T M 312 (nI b) = some (nI v, si M 312 0 x) ∧ BS M0 T (si M 312 0 x) tx nx ∧ gKe P9 T M T (si M 312 0 x) := by
  obtain ⟨v, x, h1, h2⟩ := below_ok (T := T) (M := M) (rr := 312) hb hb2
  exact ⟨v, x, h1, h2, BS_hi hw hT h (fun b hb hne j => by rw [gi_si, if_neg (by omega)]) (fun b hb j => rfl), fun b hb y hy => ⟨hy, fun j => by rw [gi_si, if_neg (by unfold P9 at hb; omega)], fun j => rfl⟩⟩
theorem lbW_len : ∀ k, k < 5 → (lbW k).length ≤ 5 := by decide +kernel
theorem nmW_len : ∀ k, k < 4 → (nmW k).length ≤ 2 := by decide +kernel
theorem b_lib [gW0] (hw : 900000 ≤ w0) (hT : T.length + 6 ≤ 900000) (h : BS M0 T M tx nx) (hk : k < 5) (hl : tx.length + 5 ≤ 700) : ∃ s T1 M1 c sl N, f_L_wordOf T M (nI k) 0 = some ((s, T1, M1), c, sl) ∧ gks T1 s = some () ∧ f_L_write T1 M1 0 311 s = some N ∧ BS M0 T1 N (tx ++ lbW k) nx ∧ gKe P9 T M T1 N ∧ c ≤ 6 ∧ sl ≤ 1100 ∧ T1.length = T.length + c ∧ gExt T T1 := by
  obtain ⟨s, T1, M1, c, sl, c1, c2, c3, c4, c5⟩ := wo_lib (M := M) hk hT
  have hlen := c4.2.2
  obtain ⟨N, d1, d2, d3⟩ := b_wri hw (by omega) (BS_to c4 h) c5 (by have := lbW_len k hk; omega)
  exact ⟨s, T1, M1, c, sl, N, c1, sS_ks c5, d1, d2, gKe_tr (gKe_To c4) d3, c2, c3, hlen, c4.1⟩
theorem b_nam [gW0] (hw : 900000 ≤ w0) (hT : T.length + 6 ≤ 900000) (h : BS M0 T M tx nx) (hk : k < 4) (hl : tx.length + 2 ≤ 700) : ∃ s T1 M1 c sl N, f_L_wordOf T M (nI k) 1 = some ((s, T1, M1), c, sl) ∧ gks T1 s = some () ∧ f_L_write T1 M1 0 311 s = some N ∧ BS M0 T1 N (tx ++ nmW k) nx ∧ gKe P9 T M T1 N ∧ c ≤ 6 ∧ sl ≤ 1100 ∧ T1.length = T.length + c ∧ gExt T T1 := by
  obtain ⟨s, T1, M1, c, sl, c1, c2, c3, c4, c5⟩ := wo_nam (M := M) hk hT
  have hlen := c4.2.2
  obtain ⟨N, d1, d2, d3⟩ := b_wri hw (by omega) (BS_to c4 h) c5 (by have := nmW_len k hk; omega)
  exact ⟨s, T1, M1, c, sl, N, c1, sS_ks c5, d1, d2, gKe_tr (gKe_To c4) d3, c2, c3, hlen, c4.1⟩
/-- the four kinds that each round looks at -/
theorem BS_kd [gW0] {l : Nat} (h : BS M0 T M tx nx) (hl : T[l]? = some (16, 0)) : gkd T 0 8 = some () ∧ gkd T 311 11 = some () ∧ gkd T 312 18 = some () ∧ gkd T l 16 = some () := ⟨gkd_ok (s_0 h.1.1.1.1), gkd_ok h.1.2.1, gkd_ok h.2.1, gkd_ok hl⟩
end PBS
