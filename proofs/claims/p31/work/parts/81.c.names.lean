/-! THE RANDOM LINKER: its names -/
def PF (tx : List Nat) : Prop := ∃ r, tx = gStrs.getD 13 [] ++ r
/-- the text so far, and what it is read as -/
def RX (V0 : gM) (tx : List Nat) (V : gM) (nl nn a b : Nat) (k : Nat → Nat × Nat) (m : Nat) : Prop := PF tx ∧ Rd V0 tx V nl nn a b k m
/-- the draft with names alone -/
def VN (M0 V : gM) (t : Nat) : Prop := (∀ b j, gr V b j = gr M0 b j) ∧ gi V 5 1 = 0 ∧ gi V 5 2 = nI t ∧ gi V 5 3 = 50 ∧ ∀ b j, b ≠ 5 → gi V b j = gi M0 b j
/-- the new linker -/
def LF (T : gT) (M : gM) (l B nn : Nat) : Prop := (313 ≤ l ∧ T[l]? = some (16, 0) ∧ gi M l 0 = nI nn ∧ gi M l 1 = 50 ∧ gr M l 4 = none) ∧ 313 ≤ B ∧ gr M l 3 = some B ∧ T[B]? = some (11, 0)
section PNA
variable {T T1 T2 : gT} {M M0 M1 M2 N V V0 V' : gM} {c nx k n i s b a j l B nn nl m : Nat} {tx w st : List Nat} {x i4 : Int32} {kk : Nat → Nat × Nat}
theorem PF_app (h : PF tx) : PF (tx ++ w) := by
  obtain ⟨r, rfl⟩ := h
  exact ⟨r ++ w, by rw [List.append_assoc]⟩
theorem RX_ext {nl' nn' a' b' m' : Nat} {kk' : Nat → Nat × Nat} (h : RX V0 tx V nl nn a b kk m) (hs : SS V nl nn a b kk m st V' nl' nn' a' b' kk' m') (h8 : tx.length + st.length ≤ 790) (hst : 1 ≤ st.length) : RX V0 (tx ++ st) V' nl' nn' a' b' kk' m' := ⟨PF_app h.1, Rd_ext h.2 hs h8 hst⟩
theorem LF_ke (hK : gKe P9 T M T1 M1) (h : LF T M l B nn) : LF T1 M1 l B nn := by
  obtain ⟨⟨h1, h2, h3, h4, h5⟩, h6, h7, h8⟩ := h
  obtain ⟨p1, p2, p3⟩ := hK l h1 _ h2
  obtain ⟨q1, -, -⟩ := hK B h6 _ h8
  exact ⟨⟨h1, p1, (p2 0).trans h3, (p2 1).trans h4, (p3 4).trans h5⟩, h6, (p3 3).trans h7, q1⟩
theorem n_loop [gW0] (hw : 900000 ≤ w0) (h : BS M0 T M tx nx) (hF : LF T M l B nn) (hnn : nn ≤ 4) (hR : RX V0 tx V 0 0 0 0 kk m) (hV : VN M0 V 0) (h5 : tx.length = 5) (hT : T.length + 30 ≤ 900000) : ∃ e c s, gloopc (fun x => f_L_randomLinker_B31 x.2.1 x.2.2 0 311 312 i4 l x.1) gFU ((0 : Int32), T, M) = some (e, c, s) ∧ ∃ tx1 V1, BS M0 e.1 e.2 tx1 nx ∧ LF e.1 e.2 l B nn ∧ RX V0 tx1 V1 0 nn 0 0 kk m ∧ VN M0 V1 nn ∧ tx1.length ≤ 37 ∧ c ≤ 24 ∧ s ≤ 4400 ∧ e.1.length = T.length + c := by
  refine loopc_ex (P := fun t y c s => y.1 = nI t ∧ t ≤ nn ∧ ∃ tx1 V1, BS M0 y.2.1 y.2.2 tx1 nx ∧ LF y.2.1 y.2.2 l B nn ∧ RX V0 tx1 V1 0 t 0 0 kk m ∧ VN M0 V1 t ∧ tx1.length ≤ 5 + 8 * t ∧ c ≤ 6 * t ∧ s ≤ 1100 * t ∧ y.2.1.length = T.length + c) nn (Nat.lt_of_le_of_lt hnn (by decide)) ⟨rfl, Nat.zero_le _, tx, V, h, hF, hR, hV, by omega, by omega, by omega, rfl⟩ (fun t y c s _ hP => ?_)
  obtain ⟨y1, Ta, Ma⟩ := y
  obtain ⟨rfl, ht, tx1, V1, p1, p2, p3, p4, p5, p6, p7, p8⟩ := hP
  dsimp only at p1 p2 p8
  obtain ⟨k1, k2, k3, k4⟩ := BS_kd p1 p2.1.2.1
  dsimp only
  unfold f_L_randomLinker_B31
  rw [k1, Option.bind_some, k2, Option.bind_some, k3, Option.bind_some, k4, Option.bind_some, p2.1.2.2.1]
  by_cases e : t = nn
  · subst e
    rw [if_pos (nI_le (Nat.le_refl _) (by omega))]
    exact Or.inl ⟨(Ta, Ma), 0, 0, rfl, tx1, V1, p1, p2, p3, p4, by omega, by omega, by omega, p8⟩
  · have hlt : t < nn := by omega
    have g14 : (gStrs.getD 14 []).length = 5 := by decide +kernel
    have g17 : (gStrs.getD 17 []).length = 1 := by decide +kernel
    have gw := nmW_len t (by omega)
    have gw1 := (nm_lw (i := t) (by omega)).1
    obtain ⟨N1, c1, c2, c3⟩ := b_con (i := 14) hw (by omega) p1 (by decide) (by omega)
    obtain ⟨s', T2, M2, c', sl, N2, d1, d2, d3, d4, d5, d6, d7, d8, d9⟩ := b_nam (k := t) hw (by omega) c2 (by omega) (by rw [List.length_append]; omega)
    obtain ⟨N3, e1, e2, e3⟩ := b_con (i := 17) hw (by omega) d4 (by decide) (by rw [List.length_append, List.length_append]; omega)
    rw [if_neg (nI_ge hlt (by omega)), c1, Option.bind_some, d1, Option.bind_some]
    dsimp only
    rw [d2, Option.bind_some, d3, Option.bind_some, e1, Option.bind_some, nI_1, cadd_some]
    have hst : tx1 ++ gStrs.getD 14 [] ++ nmW t ++ gStrs.getD 17 [] = tx1 ++ (gStrs.getD 14 [] ++ nmW t ++ gStrs.getD 17 []) := by simp only [List.append_assoc]
    rw [hst] at e2
    have hsl : (gStrs.getD 14 [] ++ nmW t ++ gStrs.getD 17 []).length = 5 + (nmW t).length + 1 := by rw [List.length_append, List.length_append, g14, g17]
    refine Or.inr ⟨hlt, _, _, _, rfl, rfl, by omega, _, si V1 5 2 (nI (t + 1)), e2, LF_ke (gKe_tr (gKe_tr c3 d5) e3) p2, RX_ext p3 (SS_name (by omega)) (by omega) (by omega), ⟨p4.1, ?_, by rw [gi_si, if_pos ⟨rfl, rfl⟩], ?_, fun b j hb => by rw [gi_si, if_neg (fun z => hb z.1)]; exact p4.2.2.2.2 b j hb⟩, by rw [List.length_append, hsl]; omega, by omega, by omega, by show T2.length = _; omega⟩
    · rw [gi_si, if_neg (by omega)]; exact p4.2.1
    · rw [gi_si, if_neg (by omega)]; exact p4.2.2.2.1
end PNA
