/-! THE RANDOM LINKER: its libraries -/
/-- a library a with its rows r and o -/
def LI (T : gT) (M : gM) (nn a r o : Nat) (v kp : Int32) : Prop := (313 ≤ a ∧ T[a]? = some (9, 0) ∧ gi M a 0 = v ∧ gi M a 1 = kp) ∧ (313 ≤ r ∧ gr M a 2 = some r ∧ T[r]? = some (11, 0)) ∧ (313 ≤ o ∧ gr M a 3 = some o ∧ T[o]? = some (11, nn) ∧ ∀ n, n < nn → gi M o n = -1) ∧ a < r ∧ r < o
/-- the linker with t of its NL libraries -/
def LB (T : gT) (M : gM) (l A B nn NL t : Nat) (L R O : Nat → Nat) (V : gM) : Prop := (313 ≤ l ∧ T[l]? = some (16, 0) ∧ gi M l 0 = nI nn ∧ gi M l 1 = 50 ∧ gr M l 4 = none) ∧ (313 ≤ A ∧ gr M l 2 = some A ∧ T[A]? = some (21, NL)) ∧ (313 ≤ B ∧ gr M l 3 = some B ∧ T[B]? = some (11, t) ∧ ∀ j, j < t → gi M B j = nI j) ∧ ∀ i, i < t → gr M A i = some (L i) ∧ LI T M nn (L i) (R i) (O i) (dTr V 5 i) (dKp V 5 i) ∧ O i < B ∧ ∀ j, j < i → O j < L i
/-- the draft with libraries -/
def VL (M0 V : gM) (nn t : Nat) : Prop := (∀ b j, gr V b j = gr M0 b j) ∧ gi V 5 1 = nI t ∧ gi V 5 2 = nI nn ∧ gi V 5 3 = 50 ∧ (∀ i, i < t → (∃ v, v ≤ 999 ∧ dTr V 5 i = nI v) ∧ (dKp V 5 i = 0 ∨ dKp V 5 i = 1) ∧ dRk V 5 i = nI i ∧ dPn V 5 i = 0 ∧ ∀ n, n < 12 → dOf V 5 i n = -1) ∧ ∀ i, t ≤ i → i < 8 → dKp V 5 i = dKp M0 5 i
section PLB
variable {T T1 T2 : gT} {M M0 M1 M2 N V V0 V' : gM} {c nx k n i s b a j l A B nn nl m NL t r o v kp zi : Nat} {L R O : Nat → Nat} {tx w st : List Nat} {x y z : Int32} {kk : Nat → Nat × Nat}
theorem LI_ke (hK : gKe P9 T M T1 M1) (h : LI T M nn a r o y z) : LI T1 M1 nn a r o y z := by
  obtain ⟨⟨a1, a2, a3, a4⟩, ⟨b1, b2, b3⟩, ⟨c1, c2, c3, c4⟩, d1, d2⟩ := h
  obtain ⟨p1, p2, p3⟩ := hK a a1 _ a2
  obtain ⟨q1, q2, q3⟩ := hK r b1 _ b3
  obtain ⟨r1, r2, r3⟩ := hK o c1 _ c3
  exact ⟨⟨a1, p1, (p2 0).trans a3, (p2 1).trans a4⟩, ⟨b1, (p3 2).trans b2, q1⟩, ⟨c1, (p3 3).trans c2, r1, fun n hn => (r2 n).trans (c4 n hn)⟩, d1, d2⟩
theorem LB_ke (hK : gKe P9 T M T1 M1) (h : LB T M l A B nn NL t L R O V) : LB T1 M1 l A B nn NL t L R O V := by
  obtain ⟨⟨a1, a2, a3, a4, a5⟩, ⟨b1, b2, b3⟩, ⟨c1, c2, c3, c4⟩, hl⟩ := h
  obtain ⟨p1, p2, p3⟩ := hK l a1 _ a2
  obtain ⟨q1, q2, q3⟩ := hK A b1 _ b3
  obtain ⟨r1, r2, r3⟩ := hK B c1 _ c3
  exact ⟨⟨a1, p1, (p2 0).trans a3, (p2 1).trans a4, (p3 4).trans a5⟩, ⟨b1, (p3 2).trans b2, q1⟩, ⟨c1, (p3 3).trans c2, r1, fun j hj => (r2 j).trans (c4 j hj)⟩, fun i hi => ⟨(q3 i).trans (hl i hi).1, LI_ke hK (hl i hi).2.1, (hl i hi).2.2⟩⟩
/-- a reference of something that is no library is written -/
theorem LI_sr {e f kd p : Nat} {u : Option Nat} (he : T[e]? = some (kd, p)) (hk : kd ≠ 9) (h : LI T M nn a r o y z) : LI T (sr M e f u) nn a r o y z := by
  obtain ⟨⟨a1, a2, a3, a4⟩, ⟨b1, b2, b3⟩, ⟨c1, c2, c3, c4⟩, d1, d2⟩ := h
  have ne : a ≠ e := kne a2 he (fun z => hk z.symm)
  exact ⟨⟨a1, a2, a3, a4⟩, ⟨b1, by rw [gr_sr, if_neg (fun z => ne z.1)]; exact b2, b3⟩, ⟨c1, by rw [gr_sr, if_neg (fun z => ne z.1)]; exact c2, c3, c4⟩, d1, d2⟩
def upL (L : Nat → Nat) (t a i : Nat) : Nat := if i = t then a else L i
theorem upL_t : upL L t a t = a := if_pos rfl
theorem upL_n (h : i ≠ t) : upL L t a i = L i := if_neg h
theorem gKe_gTo (hG : gTo T M T1 M1 c) : gKe P9 T M T1 M1 := gKe_To hG
theorem nlV_tr (h : i < 8) (ht : t < 8) : dTr (nlV V t v kp) 5 i = (if i = t then nI v else dTr V 5 i) ∧ dKp (nlV V t v kp) 5 i = (if i = t then nI kp else dKp V 5 i) ∧ dRk (nlV V t v kp) 5 i = (if i = t then nI t else dRk V 5 i) ∧ dPn (nlV V t v kp) 5 i = (if i = t then 0 else dPn V 5 i) ∧ ∀ n, n < 12 → dOf (nlV V t v kp) 5 i n = (if i = t then -1 else dOf V 5 i n) := by
  have e10 : ∀ j, gi (nlV V t v kp) (5 + 5 + 3 * i) j = if i = t then (if j = 0 then nI v else if j = 1 then nI kp else if j = 2 then nI t else if j = 5 then 0 else gi V (5 + 5 + 3 * i) j) else gi V (5 + 5 + 3 * i) j := fun j => by
    rw [gi_nlV, if_neg (by omega)]
    by_cases e : i = t
    · rw [if_pos e]
      by_cases j0 : j = 0
      · rw [if_pos (by omega), if_pos j0]
      rw [if_neg (by omega), if_neg j0]
      by_cases j1 : j = 1
      · rw [if_pos (by omega), if_pos j1]
      rw [if_neg (by omega), if_neg j1]
      by_cases j2 : j = 2
      · rw [if_pos (by omega), if_pos j2]
      rw [if_neg (by omega), if_neg j2]
      by_cases j5 : j = 5
      · rw [if_pos (by omega), if_pos j5]
      rw [if_neg (by omega), if_neg j5, if_neg (by omega)]
    · rw [if_neg e, if_neg (by omega), if_neg (by omega), if_neg (by omega), if_neg (by omega), if_neg (by omega)]
  refine ⟨(e10 0).trans ?_, (e10 1).trans ?_, (e10 2).trans ?_, (e10 5).trans ?_, fun n hn => ?_⟩
  · rfl
  · rfl
  · rfl
  · rfl
  · show gi (nlV V t v kp) (5 + 6 + 3 * i) n = if i = t then -1 else gi V (5 + 6 + 3 * i) n
    rw [gi_nlV, if_neg (by omega), if_neg (by omega), if_neg (by omega), if_neg (by omega), if_neg (by omega)]
    by_cases e : i = t
    · rw [if_pos ⟨by omega, hn⟩, if_pos e]
    · rw [if_neg (by omega), if_neg e]
/-- the end of a library's round -/
theorem b_259 [gW0] (hw : 900000 ≤ w0) (h : BS M0 T M tx nx) (hLB : LB T M l A B nn NL t L R O V) (hLI : LI T M nn a r o (nI v) (nI kp)) (hord : ∀ j, j < t → O j < a) (ht : t < NL) (hNL : NL ≤ 5) (hi : i < 34) (hl : tx.length + (gStrs.getD i []).length ≤ 700) (hT : T.length + 1 ≤ 900000) : ∃ T' M' c s, f_L_randomLinker_259 T M 0 311 312 l (nI NL) (nI t) a 0 311 (gSB + i) = some (.inr (nI (t + 1), T', M'), c, s) ∧ BS M0 T' M' (tx ++ gStrs.getD i []) nx ∧ LB T' M' l A T.length nn NL (t + 1) (upL L t a) (upL R t r) (upL O t o) (nlV V t v kp) ∧ c ≤ 1 ∧ s ≤ 5 ∧ T'.length = T.length + c := by
  obtain ⟨N1, c1, c2, c3⟩ := b_con (i := i) hw (by omega) h hi hl
  have hL1 := LB_ke c3 hLB
  have hI1 := LI_ke c3 hLI
  obtain ⟨⟨a1, a2, a3, a4, a5⟩, ⟨b1, b2, b3⟩, ⟨d1, d2, d3, d4⟩, hls⟩ := hL1
  have neAl : l ≠ A := kne a2 b3 (by decide)
  have hB38 : BS M0 T (sr N1 A t (some a)) (tx ++ gStrs.getD i []) nx := BS_sr hw (by omega) c2 b1
  have l38 : ∀ j, gr (sr N1 A t (some a)) l j = gr N1 l j := fun j => by rw [gr_sr, if_neg (fun z => neAl z.1)]
  obtain ⟨bv, T', M', c, s, e1, e2, e3, e4, rfl, e6, e7, e8⟩ := p_with (T := T) (M := sr N1 A t (some a)) (b := B) (x := nI t) d3 (by omega) (by omega)
  have hlen := e2.2.2
  have a2' := gTo_sh e2 a2
  have hBF : BS M0 T' (sr M' l 3 (some T.length)) (tx ++ gStrs.getD i []) nx := BS_sr hw (by omega) (BS_to e2 hB38) a1
  have neAl' : A ≠ l := fun z => neAl z.symm
  have hTl : 313 ≤ T.length := h.2.2.1
  refine ⟨T', sr M' l 3 (some T.length), c + 0, s + 0, ?_, hBF, ⟨⟨a1, a2', ?_, ?_, ?_⟩, ⟨b1, ?_, gTo_sh e2 b3⟩, ⟨hTl, by rw [gr_sr, if_pos ⟨rfl, rfl⟩], e6, fun j hj => ?_⟩, fun i' hi' => ?_⟩, by omega, by omega, by omega⟩
  · unfold f_L_randomLinker_259
    have hast : astr T N1 A (nI t) a = some (sr N1 A t (some a)) := by
      unfold astr
      rw [alen_of b3, if_neg (nI_in ht (by omega)), nI_clamp (by omega)]
    rw [c1, Option.bind_some, ldr_ok b2 b3, Option.bind_some, hast, Option.bind_some, ldr_ok ((l38 3).trans d2) d3, Option.bind_some, e1, Option.bind_some]
    dsimp only
    rw [gkd_ok e6, Option.bind_some, cadd_some, nI_1]
  · rw [gi_sr, gTo_gi e2 a2, gi_sr]; exact a3
  · rw [gi_sr, gTo_gi e2 a2, gi_sr]; exact a4
  · rw [gr_sr, if_neg (by omega), gTo_gr e2 a2, l38]; exact a5
  · rw [gr_sr, if_neg (by omega), gTo_gr e2 a2, l38]; exact b2
  · rw [gi_sr]
    by_cases ej : j = t
    · rw [ej]; exact e8
    · rw [e7 j (by omega), gi_sr]
      exact d4 j (by omega)
  · have hgA : gr (sr M' l 3 (some T.length)) A i' = if i' = t then some a else gr N1 A i' := by
      rw [gr_sr, if_neg (fun z => neAl' z.1), gTo_gr e2 b3, gr_sr]
      by_cases e : i' = t
      · rw [if_pos ⟨rfl, e⟩, if_pos e]
      · rw [if_neg (fun z => e z.2), if_neg e]
    have tr := fun {a2 r2 o2 : Nat} {y z : Int32} (q : LI T N1 nn a2 r2 o2 y z) => LI_sr (f := 3) (u := some T.length) a2' (by decide) (LI_ke (gKe_To e2) (LI_sr (f := t) (u := some a) b3 (by decide) q))
    obtain ⟨v1, v2, -⟩ := nlV_tr (V := V) (v := v) (kp := kp) (i := i') (t := t) (by omega) (by omega)
    rw [hgA, v1, v2]
    by_cases e : i' = t
    · subst e
      rw [if_pos rfl, if_pos rfl, if_pos rfl, upL_t, upL_t, upL_t]
      refine ⟨rfl, tr hI1, sh_lt hLI.2.2.1.2.2.1, fun j hj => ?_⟩
      rw [upL_n (by omega)]
      exact hord j hj
    · obtain ⟨q1, q2, q3, q4⟩ := hls i' (by omega)
      rw [if_neg e, if_neg e, if_neg e, upL_n e, upL_n e, upL_n e]
      refine ⟨q1, tr q2, sh_lt q2.2.2.1.2.2.1, fun j hj => ?_⟩
      rw [upL_n (by omega)]
      exact q4 j hj
theorem b_229 [gW0] (hw : 900000 ≤ w0) (h : BS M0 T M tx nx) (hLB : LB T M l A B nn NL t L R O V) (hLI : LI T M nn a r o (nI v) (nI kp)) (hv : v ≤ 999) (hkp : kp = 0 ∨ kp = 1) (hord : ∀ j, j < t → O j < a) (ht : t < NL) (hNL : NL ≤ 5) (hz : zi = 19 ∨ zi = 20) (hl : tx.length + 12 ≤ 700) (hT : T.length + 1 ≤ 900000) : ∃ T' M' c s, f_L_randomLinker_229 T M 0 311 312 l (nI NL) (nI t) a 0 311 (gSB + zi) = some (.inr (nI (t + 1), T', M'), c, s) ∧ BS M0 T' M' (tx ++ gStrs.getD zi [] ++ dg v ++ (if kp = 0 then gStrs.getD 17 [] else gStrs.getD 21 [])) nx ∧ LB T' M' l A T.length nn NL (t + 1) (upL L t a) (upL R t r) (upL O t o) (nlV V t v kp) ∧ c ≤ 1 ∧ s ≤ 5 ∧ T'.length = T.length + c := by
  have gz : (gStrs.getD zi []).length ≤ 1 := by
    rcases hz with rfl | rfl <;> decide +kernel
  have gd := (dg_ok (v := v) (by omega)).2
  obtain ⟨N1, c1, c2, c3⟩ := b_con (i := zi) hw (by omega) h (by omega) (by omega)
  have hI1 := LI_ke c3 hLI
  obtain ⟨N2, d1, d2, d3⟩ := b_dig (n := v) hw c2 (by omega) (by rw [List.length_append]; omega)
  have hI2 := LI_ke d3 hI1
  have hL2 := LB_ke (gKe_tr c3 d3) hLB
  unfold f_L_randomLinker_229
  rw [c1, Option.bind_some, hI1.1.2.2.1, d1, Option.bind_some, hI2.1.2.2.2]
  rcases hkp with rfl | rfl
  · rw [if_pos (show nI 0 = 0 from rfl), if_pos rfl]
    exact b_259 hw d2 hL2 hI2 hord ht hNL (by decide) (by rw [List.length_append, List.length_append, show (gStrs.getD 17 []).length = 1 by decide +kernel]; omega) hT
  · rw [if_neg (by decide), if_neg (by decide)]
    exact b_259 hw d2 hL2 hI2 hord ht hNL (by decide) (by rw [List.length_append, List.length_append, show (gStrs.getD 21 []).length = 7 by decide +kernel]; omega) hT
/-- all offers are none at first -/
theorem b_fill [gW0] (hw : 900000 ≤ w0) (h : BS M0 T M tx nx) (hl0 : T[l]? = some (16, 0)) (hn : gi M l 0 = nI nn) (hnn : nn ≤ 4) (ho : gr M a 3 = some o) (so : T[o]? = some (11, nn)) (ho3 : 313 ≤ o) (hT : T.length ≤ 900000) {i6 i7 : Int32} : ∃ N, gloop (fun x => f_L_randomLinker_B169 T x.2 0 311 312 l i6 i7 a x.1) gFU ((0 : Int32), M) = some N ∧ BS M0 T N tx nx ∧ (∀ b, b ≠ o → (∀ j, gi N b j = gi M b j)) ∧ (∀ b j, gr N b j = gr M b j) ∧ ∀ n, n < nn → gi N o n = -1 := by
  refine gloop_ex (P := fun t y => y.1 = nI t ∧ t ≤ nn ∧ BS M0 T y.2 tx nx ∧ (∀ b, b ≠ o → (∀ j, gi y.2 b j = gi M b j)) ∧ (∀ b j, gr y.2 b j = gr M b j) ∧ ∀ n, n < t → gi y.2 o n = -1) (fu := gFU) nn (Nat.lt_of_le_of_lt hnn (by decide)) ⟨rfl, Nat.zero_le _, h, fun _ _ _ => rfl, fun _ _ => rfl, fun n hn => absurd hn (Nat.not_lt_zero n)⟩ (fun t y _ hP => ?_)
  obtain ⟨y1, Y⟩ := y
  obtain ⟨rfl, ht, h1, h2, h3, h4⟩ := hP
  dsimp only at h1 h2 h3 h4
  have hlo : l ≠ o := kne hl0 so (by decide)
  show (∃ e, f_L_randomLinker_B169 T Y 0 311 312 l i6 i7 a (nI t) = some (.inl e) ∧ _) ∨ _
  unfold f_L_randomLinker_B169
  rw [h2 l hlo, hn]
  by_cases e : t = nn
  · subst e
    rw [if_pos (nI_le (Nat.le_refl _) (by omega))]
    exact Or.inl ⟨Y, rfl, h1, h2, h3, h4⟩
  · have hlt : t < nn := by omega
    rw [if_neg (nI_ge hlt (by omega)), ldr_ok ((h3 a 3).trans ho) so, Option.bind_some, ast_ok so hlt (by omega), Option.bind_some, nI_1]
    refine Or.inr ⟨hlt, _, rfl, rfl, hlt, BS_si hw hT h1 ho3, fun b hb j => by rw [gi_si, if_neg (fun z => hb z.1)]; exact h2 b hb j, h3, fun n hn => ?_⟩
    show gi (si Y o t (-1)) o n = -1
    rw [gi_si]
    by_cases e2 : n = t
    · rw [if_pos ⟨rfl, e2⟩]
    · rw [if_neg (fun z => e2 z.2)]
      exact h4 n (by omega)
/-- what a round with a library leaves -/
def LQ [gW0] (M0 V0 : gM) (nx l A nn NL t : Nat) (kk : Nat → Nat × Nat) (m tb C S len : Nat) (res : Option (((gT × gM) ⊕ (Int32 × gT × gM)) × Nat × Nat)) : Prop := ∃ T' M' c s tx' B' L' R' O' V', res = some (.inr (nI (t + 1), T', M'), c, s) ∧ BS M0 T' M' tx' nx ∧ LB T' M' l A B' nn NL (t + 1) L' R' O' V' ∧ RX V0 tx' V' (t + 1) nn 0 0 kk m ∧ VL M0 V' nn (t + 1) ∧ tx'.length ≤ tb ∧ c ≤ C ∧ s ≤ S ∧ T'.length = len + c
theorem VL_lib (h : VL M0 V nn t) (ht : t < 5) (hv : v ≤ 999) (hkp : kp = 0 ∨ kp = 1) : VL M0 (nlV V t v kp) nn (t + 1) := by
  obtain ⟨h1, h2, h3, h4, h5, h6⟩ := h
  refine ⟨h1, by rw [gi_nlV, if_pos ⟨rfl, rfl⟩], ?_, ?_, fun i hi => ?_, fun i hi h8 => ?_⟩
  · rw [gi_nlV, if_neg (by omega), if_neg (by omega), if_neg (by omega), if_neg (by omega), if_neg (by omega), if_neg (by omega)]; exact h3
  · rw [gi_nlV, if_neg (by omega), if_neg (by omega), if_neg (by omega), if_neg (by omega), if_neg (by omega), if_neg (by omega)]; exact h4
  · obtain ⟨q1, q2, q3, q4, q5⟩ := nlV_tr (V := V) (v := v) (kp := kp) (i := i) (t := t) (by omega) (by omega)
    rw [q1, q2, q3, q4]
    by_cases e : i = t
    · rw [if_pos e, if_pos e, if_pos e, if_pos e]
      refine ⟨⟨v, hv, rfl⟩, by rcases hkp with rfl | rfl <;> decide, by rw [e], rfl, fun n hn => ?_⟩
      rw [q5 n hn, if_pos e]
    · rw [if_neg e, if_neg e, if_neg e, if_neg e]
      obtain ⟨p1, p2, p3, p4, p5⟩ := h5 i (by omega)
      refine ⟨p1, p2, p3, p4, fun n hn => ?_⟩
      rw [q5 n hn, if_neg e]
      exact p5 n hn
  · obtain ⟨q1, q2, q3, q4, q5⟩ := nlV_tr (V := V) (v := v) (kp := kp) (i := i) (t := t) h8 (by omega)
    rw [q2, if_neg (by omega)]
    exact h6 i (by omega) h8
theorem b_151 [gW0] (hw : 900000 ≤ w0) (h : BS M0 T M tx nx) (hLB : LB T M l A B nn NL t L R O V) (hnn : nn ≤ 4) (ha : 313 ≤ a ∧ T[a]? = some (9, 0) ∧ gi M a 0 = nI v) (hr : 313 ≤ r ∧ gr M a 2 = some r ∧ T[r]? = some (11, 0)) (har : a < r) (hv : v ≤ 999) (hkp : kp = 0 ∨ kp = 1) (hord : ∀ j, j < t → O j < a) (ht : t < NL) (hNL : NL ≤ 5) (hRX : RX V0 tx V t nn 0 0 kk m) (hVL : VL M0 V nn t) (hl : tx.length + 26 ≤ 700) (hT : T.length + 8 ≤ 900000) : LQ M0 V0 nx l A nn NL t kk m (tx.length + 25) 8 1110 T.length (f_L_randomLinker_151 T M 0 311 312 l (nI NL) (nI t) a a (nI kp)) := by
  obtain ⟨a1, a2, a3⟩ := ha
  obtain ⟨r1, r2, r3⟩ := hr
  have hl0 := hLB.1
  have hla : l ≠ a := kne hl0.2.1 a2 (by decide)
  have B1 : BS M0 T (si M a 1 (nI kp)) tx nx := BS_si hw (by omega) h a1
  have k1 : ∀ {b kd p : Nat}, T[b]? = some (kd, p) → kd ≠ 9 → ∀ j, gi (si M a 1 (nI kp)) b j = gi M b j := fun hb hk j => by rw [gi_si, if_neg (fun z => kne hb a2 hk z.1)]
  have hgn : gi (si M a 1 (nI kp)) l 0 = nI nn := (k1 hl0.2.1 (by decide) 0).trans hl0.2.2.1
  have g1 : gTo T (si M a 1 (nI kp)) (T ++ [(11, nn)]) (zr (si M a 1 (nI kp)) T.length) 1 := gTo_new
  have s1 : (T ++ [((11 : Nat), nn)])[T.length]? = some (11, nn) := sh_new
  have l1 : (T ++ [((11 : Nat), nn)]).length = T.length + 1 := len_1
  have n1 := gnewa_ok (T := T) (M := si M a 1 (nI kp)) (kd := 11) (n := nn) (by omega) (by omega)
  have hTl : 313 ≤ T.length := h.2.2.1
  generalize hM1 : si M a 1 (nI kp) = M1 at B1 k1 hgn g1 n1
  have B2 := BS_to g1 B1
  have a2' := gTo_sh g1 a2
  have r3' := gTo_sh g1 r3
  have a0 : gi (zr M1 T.length) a 0 = nI v := by rw [gTo_gi g1 a2, ← hM1, gi_si, if_neg (by omega)]; exact a3
  have ak : gi (zr M1 T.length) a 1 = nI kp := by rw [gTo_gi g1 a2, ← hM1, gi_si, if_pos ⟨rfl, rfl⟩]
  have ar : gr (zr M1 T.length) a 2 = some r := by rw [gTo_gr g1 a2, ← hM1]; exact r2
  -- the libraries before stand
  have hLB2 : LB (T ++ [(11, nn)]) (zr M1 T.length) l A B nn NL t L R O V := by
    refine LB_ke (gKe_To g1) ?_
    obtain ⟨⟨p1, p2, p3, p4, p5⟩, ⟨q1, q2, q3⟩, ⟨u1, u2, u3, u4⟩, hls⟩ := hLB
    refine ⟨⟨p1, p2, (k1 p2 (by decide) 0).trans p3, (k1 p2 (by decide) 1).trans p4, by rw [← hM1]; exact p5⟩, ⟨q1, by rw [← hM1]; exact q2, q3⟩, ⟨u1, by rw [← hM1]; exact u2, u3, fun j hj => (k1 u3 (by decide) j).trans (u4 j hj)⟩, fun i hi => ?_⟩
    obtain ⟨w1, ⟨⟨x1, x2, x3, x4⟩, ⟨y1, y2, y3⟩, ⟨z1, z2, z3, z4⟩, o1, o2⟩, w3, w4⟩ := hls i hi
    have nea : L i ≠ a := by have := hord i hi; omega
    exact ⟨by rw [← hM1]; exact w1, ⟨⟨x1, x2, by rw [← hM1, gi_si, if_neg (fun z => nea z.1)]; exact x3, by rw [← hM1, gi_si, if_neg (fun z => nea z.1)]; exact x4⟩, ⟨y1, by rw [← hM1]; exact y2, y3⟩, ⟨z1, by rw [← hM1]; exact z2, z3, fun n hn => (k1 z3 (by decide) n).trans (z4 n hn)⟩, o1, o2⟩, w3, w4⟩
  generalize hTT : T ++ [((11 : Nat), nn)] = T2 at g1 s1 l1 n1 B2 a2' r3' hLB2
  have hgn2 : gi (zr M1 T.length) l 0 = nI nn := (gTo_gi g1 hl0.2.1 0).trans hgn
  have l2' := gTo_sh g1 hl0.2.1
  generalize hM2 : zr M1 T.length = M2 at g1 n1 B2 a0 ak ar hLB2 hgn2
  have B3 : BS M0 T2 (sr M2 a 3 (some T.length)) tx nx := BS_sr hw (by omega) B2 a1
  have ne_a : ∀ {b kd p : Nat}, T2[b]? = some (kd, p) → kd ≠ 9 → ∀ j, gr (sr M2 a 3 (some T.length)) b j = gr M2 b j := fun hb hk j => by rw [gr_sr, if_neg (fun z => kne hb a2' hk z.1)]
  obtain ⟨N, f1, f2, f3, f4, f5⟩ := b_fill (l := l) (nn := nn) (a := a) (o := T.length) (i6 := nI NL) (i7 := nI t) hw B3 l2' hgn2 hnn (by rw [gr_sr, if_pos ⟨rfl, rfl⟩]) s1 hTl (by omega)
  have lta := sh_lt a2
  have ltr := sh_lt r3
  have hLIN : LI T2 N nn a r T.length (nI v) (nI kp) := ⟨⟨a1, a2', by rw [f3 a (by omega), gi_sr]; exact a0, by rw [f3 a (by omega), gi_sr]; exact ak⟩, ⟨r1, by rw [f4, gr_sr, if_neg (by omega)]; exact ar, r3'⟩, ⟨hTl, by rw [f4, gr_sr, if_pos ⟨rfl, rfl⟩], s1, f5⟩, har, ltr⟩
  have hLBN : LB T2 N l A B nn NL t L R O V := by
    obtain ⟨⟨p1, p2, p3, p4, p5⟩, ⟨q1, q2, q3⟩, ⟨u1, u2, u3, u4⟩, hls⟩ := hLB2
    have oldl : ∀ {b : Nat} {x : Nat × Nat}, T[b]? = some x → b ≠ T.length := fun hb => by have := sh_lt hb; omega
    have hB0 := hLB.2.2.1.2.2.1
    refine ⟨⟨p1, p2, by rw [f3 l (oldl hl0.2.1), gi_sr]; exact p3, by rw [f3 l (oldl hl0.2.1), gi_sr]; exact p4, by rw [f4, ne_a p2 (by decide)]; exact p5⟩, ⟨q1, by rw [f4, ne_a p2 (by decide)]; exact q2, q3⟩, ⟨u1, by rw [f4, ne_a p2 (by decide)]; exact u2, u3, fun j hj => by rw [f3 B (oldl hB0), gi_sr]; exact u4 j hj⟩, fun i hi => ?_⟩
    obtain ⟨w1, ⟨⟨x1, x2, x3, x4⟩, ⟨y1, y2, y3⟩, ⟨z1, z2, z3, z4⟩, o1, o2⟩, w3, w4⟩ := hls i hi
    have nea : L i ≠ a := by have := hord i hi; omega
    have hh := (hLB.2.2.2 i hi).2.1
    exact ⟨by rw [f4, ne_a q3 (by decide)]; exact w1, ⟨⟨x1, x2, by rw [f3 _ (oldl hh.1.2.1), gi_sr]; exact x3, by rw [f3 _ (oldl hh.1.2.1), gi_sr]; exact x4⟩, ⟨y1, by rw [f4, gr_sr, if_neg (fun z => nea z.1)]; exact y2, y3⟩, ⟨z1, by rw [f4, gr_sr, if_neg (fun z => nea z.1)]; exact z2, z3, fun n hn => by rw [f3 _ (oldl hh.2.2.1.2.2.1), gi_sr]; exact z4 n hn⟩, o1, o2⟩, w3, w4⟩
  have g18 : (gStrs.getD 18 []).length = 8 := by decide +kernel
  have gw := lbW_len t (by omega)
  have gw1 := (lb_lw (i := t) (by omega)).1
  obtain ⟨N1, c1, c2, c3⟩ := b_con (i := 18) hw (by omega) f2 (by decide) (by omega)
  obtain ⟨s', T3, M3, c', sl, N2, d1, d2, d3, d4, d5, d6, d7, d8, d9⟩ := b_lib (k := t) hw (by omega) c2 (by omega) (by rw [List.length_append]; omega)
  obtain ⟨u, x, h1, h2, h3, h4⟩ := b_low hw (by omega) d4 (b := 2) (by decide) (by decide)
  have hK := gKe_tr (gKe_tr c3 d5) h4
  have hLI3 := LI_ke hK hLIN
  have hLB3 := LB_ke hK hLBN
  have ld := (dg_ok (v := v) (by omega)).2
  have lt : (if kp = 0 then gStrs.getD 17 [] else gStrs.getD 21 []).length ≤ 7 := by
    split <;> decide +kernel
  have fin : ∀ zi, (zi = 19 ∨ zi = 20) → LQ M0 V0 nx l A nn NL t kk m (tx.length + 25) 7 1105 (T.length + 1) (cadd c' sl (f_L_randomLinker_229 T3 (si N2 312 0 x) 0 311 312 l (nI NL) (nI t) a 0 311 (gSB + zi))) := fun zi hz => by
    obtain ⟨T', M', c, s, e1, e2, e3, e4, e5, e6⟩ := b_229 (zi := zi) hw h3 hLB3 hLI3 hv hkp hord ht hNL hz (by rw [List.length_append, List.length_append]; omega) (by omega)
    have gz : (gStrs.getD zi []).length ≤ 1 := by rcases hz with rfl | rfl <;> decide +kernel
    have hst : tx ++ gStrs.getD 18 [] ++ lbW t ++ gStrs.getD zi [] ++ dg v ++ (if kp = 0 then gStrs.getD 17 [] else gStrs.getD 21 []) = tx ++ (gStrs.getD 18 [] ++ lbW t ++ gStrs.getD zi [] ++ dg v ++ (if kp = 0 then gStrs.getD 17 [] else gStrs.getD 21 [])) := by simp only [List.append_assoc]
    rw [hst] at e2
    have hsl : (gStrs.getD 18 [] ++ lbW t ++ gStrs.getD zi [] ++ dg v ++ (if kp = 0 then gStrs.getD 17 [] else gStrs.getD 21 [])).length = 8 + (lbW t).length + (gStrs.getD zi []).length + (dg v).length + (if kp = 0 then gStrs.getD 17 [] else gStrs.getD 21 []).length := by rw [List.length_append, List.length_append, List.length_append, List.length_append, g18]
    refine ⟨T', M', c' + c, sl + s, _, _, _, _, _, nlV V t v kp, by rw [e1, cadd_some], e2, e3, RX_ext hRX (SS_lib (by omega) hv ?_ ?_) (by rw [hsl]; omega) (by rw [hsl]; omega), VL_lib hVL (by omega) hv hkp, by rw [List.length_append, hsl]; omega, by omega, by omega, by omega⟩
    · rcases hz with rfl | rfl
      · exact Or.inl (by decide +kernel)
      · exact Or.inr (by decide +kernel)
    · rcases hkp with rfl | rfl
      · exact Or.inr ⟨if_pos rfl, rfl⟩
      · exact Or.inl ⟨if_neg (by decide), rfl⟩
  have pre : f_L_randomLinker_151 T M 0 311 312 l (nI NL) (nI t) a a (nI kp) = cadd 1 nn (cadd c' sl (if ¬ nI u = 0 then f_L_randomLinker_229 T3 (si N2 312 0 x) 0 311 312 l (nI NL) (nI t) a 0 311 (gSB + 20) else f_L_randomLinker_229 T3 (si N2 312 0 x) 0 311 312 l (nI NL) (nI t) a 0 311 (gSB + 19))) := by
    unfold f_L_randomLinker_151
    rw [chk_ok (show nI kp = 0 ∨ nI kp = 1 by rcases hkp with rfl | rfl <;> decide), Option.bind_some, hM1, hgn, n1, Option.bind_some]
    dsimp only
    rw [f1, Option.bind_some, c1, Option.bind_some, d1, Option.bind_some]
    dsimp only
    rw [d2, Option.bind_some, d3, Option.bind_some, show f_X12_below T3 N2 312 (2 : Int32) = _ from h2, Option.bind_some, nI_clamp (by omega)]
  rw [pre]
  have out : ∀ res, LQ M0 V0 nx l A nn NL t kk m (tx.length + 25) 7 1105 (T.length + 1) res → LQ M0 V0 nx l A nn NL t kk m (tx.length + 25) 8 1110 T.length (cadd 1 nn res) := fun res hq => by
    obtain ⟨T', M', c, s, tx', B', L', R', O', V', q1, q2, q3, q4, q5, q6, q7, q8, q9⟩ := hq
    exact ⟨T', M', 1 + c, nn + s, tx', B', L', R', O', V', by rw [q1, cadd_some], q2, q3, q4, q5, q6, by omega, by omega, by omega⟩
  by_cases hu : u = 0
  · rw [if_neg (show ¬ ¬ nI u = 0 from fun z => z (by rw [hu]; rfl))]
    exact out _ (fin 19 (Or.inl rfl))
  · rw [if_pos (show ¬ nI u = 0 from fun z => hu ((nI_eq (b := 0) (by omega) (by decide)).mp z))]
    exact out _ (fin 20 (Or.inr rfl))
end PLB
