/-! THE CLASS READS a text that is known: token by token -/
/-- the letters l lie in the text from p on -/
def bs (B : Nat → Nat) (p : Nat) (l : List Nat) : Prop := ∀ i, i < l.length → B (p + i) = l.getD i 0
theorem gd_l {a b : List Nat} {i : Nat} (h : i < a.length) : (a ++ b).getD i 0 = a.getD i 0 := by
  rw [List.getD_eq_getElem?_getD, List.getD_eq_getElem?_getD, List.getElem?_append_left h]
theorem gd_r {a b : List Nat} {i : Nat} : (a ++ b).getD (a.length + i) 0 = b.getD i 0 := by
  rw [List.getD_eq_getElem?_getD, List.getD_eq_getElem?_getD, List.getElem?_append_right (Nat.le_add_right _ _), Nat.add_sub_cancel_left]
theorem bs_app {B : Nat → Nat} {p : Nat} {a b : List Nat} : bs B p (a ++ b) ↔ bs B p a ∧ bs B (p + a.length) b := by
  constructor
  · intro h
    refine ⟨fun i hi => ?_, fun i hi => ?_⟩
    · rw [h i (by rw [List.length_append]; omega), gd_l hi]
    · rw [Nat.add_assoc, h (a.length + i) (by rw [List.length_append]; omega), gd_r]
  · rintro ⟨h1, h2⟩ i hi
    rw [List.length_append] at hi
    by_cases c : i < a.length
    · rw [gd_l c, h1 i c]
    · obtain ⟨j, rfl⟩ : ∃ j, i = a.length + j := ⟨i - a.length, by omega⟩
      rw [gd_r, ← Nat.add_assoc, h2 j (by omega)]
def lw (w : List Nat) : Prop := 1 ≤ w.length ∧ w.length ≤ 8 ∧ ∀ i, i < w.length → isL (w.getD i 0)
def ldg (w : List Nat) : Prop := 1 ≤ w.length ∧ ∀ i, i < w.length → isD (w.getD i 0)
/-- a word as the class's number of it -/
def wv (w : List Nat) : Int64 := lN (vl 256 (fun j => w.getD j 0) 0 w.length)
/-- the class at p: it stands at the next thing -/
def aT (T : gT) (M : gM) (B : Nat → Nat) (n p : Nat) : Prop := gFx T M ∧ ∃ s e, Sy B n p s ∧ cT M B n s e
/-- a number in digits -/
def dg (v : Nat) : List Nat := if v < 10 then [48 + v] else if v < 100 then [48 + v / 10, 48 + v % 10] else if v < 1000 then [48 + v / 100, 48 + v / 10 % 10, 48 + v % 10] else [48 + v / 1000, 48 + v / 100 % 10, 48 + v / 10 % 10, 48 + v % 10]
section PST
variable {T : gT} {M M' N : gM} {B : Nat → Nat} {n p s e k v hi q i a cnt n0 : Nat} {w : List Nat}
theorem Sy_at (h : Sy B n p s) (hk : ∀ j, j < k → B (p + j) = 32) (hb : B (p + k) ≠ 32) (hn : p + k < n) : s = p + k := by
  obtain ⟨h1, h2, h3, h4⟩ := h
  rcases Nat.lt_trichotomy s (p + k) with z | z | z
  · rcases h4 with y | y
    · omega
    · have := hk (s - p) (by omega)
      rw [show p + (s - p) = s by omega] at this
      exact absurd this y
  · exact z
  · exact absurd (h3 (p + k) (by omega) z) hb
theorem aT_at (h : aT T M B n p) (hk : ∀ j, j < k → B (p + j) = 32) (hb : B (p + k) ≠ 32) (hn : p + k < n) : ∃ e, cT M B n (p + k) e := by
  obtain ⟨-, s, e, h1, h2⟩ := h
  have := Sy_at h1 hk hb hn
  subst this
  exact ⟨e, h2⟩
theorem aT_2 {x : Int32} {j : Nat} (h : aT T M B n p) : aT T (si M 2 j x) B n p := by
  obtain ⟨h0, s, e, h1, h2⟩ := h
  exact ⟨gFx_gr h0 (fun _ _ => rfl), s, e, h1, cT_2 h2⟩
/-- token things only at 3 and 4 -/
theorem cT_eq (h : cT M B n s e) (h3 : ∀ j, gi N 3 j = gi M 3 j) (h4 : ∀ j, gi N 4 j = gi M 4 j) (h5 : gl N 3 5 = gl M 3 5) : cT N B n s e := by
  obtain ⟨⟨a1, a2, a3⟩, a4, a5, a6, a7, a8⟩ := h
  refine ⟨⟨(h3 1).trans a1, a2, fun j hj => ⟨(a3 j hj).1, (h4 j).trans (a3 j hj).2⟩⟩, (h3 4).trans a4, (h3 2).trans a5, a6, a7, ?_⟩
  unfold cK at a8 ⊢
  rw [h3 3, h3 6, h3 7, h5]
  exact a8
theorem aT_eq (h : aT T M B n p) (hg : ∀ b j, gr N b j = gr M b j) (h3 : ∀ j, gi N 3 j = gi M 3 j) (h4 : ∀ j, gi N 4 j = gi M 4 j) (h5 : gl N 3 5 = gl M 3 5) : aT T N B n p := by
  obtain ⟨h0, s, e, h1, h2⟩ := h
  exact ⟨gFx_gr h0 hg, s, e, h1, cT_eq h2 h3 h4 h5⟩
theorem s_adv (hX : gFx T M) (hT : cT M B n s e) : ∃ M', f_X6_advance T M 3 = some M' ∧ aT T M' B n e ∧ fz tS tL M M' := by
  obtain ⟨hx, h2, h3, h4, h5, h6⟩ := hT
  obtain ⟨M', s', e', c1, c2, c3, c4⟩ := c_advance hX hx h3 h5
  exact ⟨M', c1, ⟨gFx_fz hX c4, s', e', c2, c3⟩, c4⟩
theorem isL_32 {b : Nat} (h : isL b) : b ≠ 32 := by omega
theorem isD_32 {b : Nat} (h : isD b) : b ≠ 32 := by omega
theorem w_run (hw : lw w) (hb : bs B s w) (hend : ¬ isL (B (s + w.length))) (hn : s + w.length < n) : rnn isL B n s (s + w.length) := ⟨by have := hw.1; omega, by omega, fun j h1 h2 => by
  have := hb (j - s) (by omega)
  rw [show s + (j - s) = j by omega] at this
  rw [this]
  exact hw.2.2 _ (by omega), Or.inr hend⟩
theorem w_first (hw : lw w) (hb : bs B s w) : isL (B s) := by
  have := hb 0 (by have := hw.1; omega)
  rw [Nat.add_zero] at this
  rw [this]
  exact hw.2.2 0 (by have := hw.1; omega)
theorem wv_eq (hb : bs B s w) : lN (vl 256 B s w.length) = wv w := by
  unfold wv
  rw [vl_ext (g' := fun j => w.getD j 0) (s' := 0) (fun j hj => by rw [hb j hj, Nat.zero_add])]
theorem cT_w (hT : cT M B n s e) (hw : lw w) (hb : bs B s w) (hend : ¬ isL (B (s + w.length))) (hn : s + w.length < n) : e = s + w.length ∧ gi M 3 3 = 1 ∧ gl M 3 5 = wv w := by
  have hr := w_run hw hb hend hn
  have h1 := w_first hw hb
  have hl := hw.2.1
  obtain ⟨hx, -, -, hse, hen, hK⟩ := hT
  rcases hK with ⟨h1', h2, h3⟩ | ⟨h1', h2, h3, h4⟩ | ⟨h1', h2, h3, h4, h5⟩ | ⟨h1', h2, h3, h4, h5, h6⟩
  · omega
  · have ee := rnn_uniq h3 hr
    subst ee
    rcases h4 with ⟨g1, g2, g3⟩ | ⟨g1, g2⟩
    · rw [show s + w.length - s = w.length by omega] at g3
      exact ⟨rfl, g2, g3.trans (wv_eq hb)⟩
    · omega
  · omega
  · exact absurd h1 h3
theorem cT_n (hT : cT M B n s e) (hw : ldg w) (hb : bs B s w) (hend : ¬ isD (B (s + w.length))) (hn : s + w.length < n) : e = s + w.length ∧ gi M 3 3 = 2 ∧ gi M 3 6 = nI (nv B s w.length) := by
  have hr : rnn isD B n s (s + w.length) := ⟨by have := hw.1; omega, by omega, fun j h1 h2 => by
    have := hb (j - s) (by omega)
    rw [show s + (j - s) = j by omega] at this
    rw [this]
    exact hw.2 _ (by omega), Or.inr hend⟩
  have h1 : isD (B s) := by
    have := hb 0 (by have := hw.1; omega)
    rw [Nat.add_zero] at this
    rw [this]
    exact hw.2 0 (by have := hw.1; omega)
  obtain ⟨hx, -, -, hse, hen, hK⟩ := hT
  rcases hK with ⟨h1', h2, h3⟩ | ⟨h1', h2, h3, h4⟩ | ⟨h1', h2, h3, h4, h5⟩ | ⟨h1', h2, h3, h4, h5, h6⟩
  · omega
  · omega
  · have ee := rnn_uniq h3 hr
    subst ee
    rw [show s + w.length - s = w.length by omega] at h5
    exact ⟨rfl, h4, h5⟩
  · exact absurd h1 h4
/-- is the word the constant i -/
theorem w_isY (hi : i < 13) (hT : cT M B n s e) (hb : bs B s (gStrs.getD i [])) (hend : ¬ isL (B (s + gSl i))) (hn : s + gSl i < n) : f_X6_isWord T M 3 i = some 1 ∧ e = s + gSl i := by
  have hk : isKw B n s i := ⟨by omega, fun k hk => hb k hk, Or.inr hend⟩
  have := c_isWord (T := T) (d := Classical.propDecidable _) hi hT
  rw [if_pos hk] at this
  exact ⟨this.1, this.2 hk⟩
theorem w_isN (hi : i < 13) (hT : cT M B n s e) (hw : lw w) (hb : bs B s w) (hend : ¬ isL (B (s + w.length))) (hn : s + w.length < n) (hne : w ≠ gStrs.getD i []) : f_X6_isWord T M 3 i = some 0 := by
  have h := c_isWord (T := T) (d := Classical.propDecidable _) hi hT
  have hk : ¬ isKw B n s i := fun hk => by
    have e1 := h.2 hk
    have e2 := (cT_w hT hw hb hend hn).1
    have el : w.length = gSl i := by omega
    refine hne (List.ext_getElem el (fun j h1 h2 => ?_))
    have q1 := hb j h1
    have q2 := hk.2.1 j (by omega)
    rw [q1] at q2
    rw [List.getD_eq_getElem?_getD, List.getElem?_eq_getElem h1] at q2
    have q3 : (gStrs.getD i []).getD j 0 = (gStrs.getD i [])[j]'h2 := by
      rw [List.getD_eq_getElem?_getD, List.getElem?_eq_getElem h2]
      rfl
    exact q2.trans q3
  rw [if_neg hk] at h
  exact h.1
theorem w_isS (hi : i < 13) (hT : cT M B n s e) (hs : ¬ isL (B s)) : f_X6_isWord T M 3 i = some 0 := by
  have h := c_isWord (T := T) (d := Classical.propDecidable _) hi hT
  obtain ⟨k1, k2, k3⟩ := kc_ok i hi
  have hk : ¬ isKw B n s i := fun hk => hs (by
    have := hk.2.1 0 (by omega)
    rw [Nat.add_zero] at this
    rw [this]
    exact k3 0 (by omega))
  rw [if_neg hk] at h
  exact h.1
theorem s_sign {c : Nat} (hc : sgn c) (h : aT T M B n p) (hk : ∀ j, j < k → B (p + j) = 32) (h32 : c ≠ 32) (hb : B (p + k) = c) (hn : p + k < n) : ∃ M', f_X5_readSign T M 2 (nI c) = some (1, M') ∧ aT T M' B n (p + k + 1) ∧ fz tS tL M M' := by
  obtain ⟨e, hT⟩ := aT_at h hk (by rw [hb]; exact h32) hn
  obtain ⟨k1, k2⟩ := c_isSign (T := T) (d := Classical.propDecidable _) hc hT
  have he := k2 ⟨hn, hb⟩
  rw [if_pos ⟨hn, hb⟩] at k1
  obtain ⟨M', c1, c2, c3⟩ := s_adv h.1 hT
  subst he
  unfold f_X5_readSign
  rw [r_2_0 h.1, Option.bind_some, k1, Option.bind_some, if_pos (by decide), Option.bind_some, c1, Option.bind_some]
  exact ⟨M', rfl, c2, c3⟩
theorem s_key (hi : i < 13) (h : aT T M B n p) (hk : ∀ j, j < k → B (p + j) = 32) (hb : bs B (p + k) (gStrs.getD i [])) (hend : ¬ isL (B (p + k + gSl i))) (hn : p + k + gSl i < n) : ∃ M', f_X5_readKeyword T M 2 i = some (1, M') ∧ aT T M' B n (p + k + gSl i) ∧ fz tS tL M M' := by
  obtain ⟨k1, k2, k3⟩ := kc_ok i hi
  have hB : B (p + k) ≠ 32 := by
    have := hb 0 (show 0 < gSl i by omega)
    rw [Nat.add_zero] at this
    rw [this]
    exact isL_32 (k3 0 (by omega))
  obtain ⟨e, hT⟩ := aT_at h hk hB (by omega)
  obtain ⟨w1, w2⟩ := w_isY (T := T) hi hT hb hend hn
  obtain ⟨M', c1, c2, c3⟩ := s_adv h.1 hT
  subst w2
  unfold f_X5_readKeyword
  rw [r_2_0 h.1, Option.bind_some, w1, Option.bind_some, if_pos (by decide), Option.bind_some, c1, Option.bind_some]
  exact ⟨M', rfl, c2, c3⟩
theorem dg_ok (hv : v ≤ 9999) : ldg (dg v) ∧ (dg v).length ≤ 4 := by
  unfold dg
  by_cases h1 : v < 10
  · rw [if_pos h1]
    refine ⟨⟨by simp, fun i hi => ?_⟩, by simp⟩
    simp at hi
    subst hi
    simp
    omega
  · rw [if_neg h1]
    by_cases h2 : v < 100
    · rw [if_pos h2]
      refine ⟨⟨by simp, fun i hi => ?_⟩, by simp⟩
      simp at hi
      rcases (show i = 0 ∨ i = 1 by omega) with rfl | rfl <;> simp <;> omega
    · rw [if_neg h2]
      by_cases h3 : v < 1000
      · rw [if_pos h3]
        refine ⟨⟨by simp, fun i hi => ?_⟩, by simp⟩
        simp at hi
        rcases (show i = 0 ∨ i = 1 ∨ i = 2 by omega) with rfl | rfl | rfl <;> simp <;> omega
      · rw [if_neg h3]
        refine ⟨⟨by simp, fun i hi => ?_⟩, by simp⟩
        simp at hi
        rcases (show i = 0 ∨ i = 1 ∨ i = 2 ∨ i = 3 by omega) with rfl | rfl | rfl | rfl <;> simp <;> omega
theorem nv_dg (hv : v ≤ 9999) (hb : bs B s (dg v)) : nv B s (dg v).length = v := by
  unfold dg at hb ⊢
  by_cases h1 : v < 10
  · rw [if_pos h1] at hb ⊢
    have b0 := hb 0 (by simp)
    simp at b0
    simp [nv, b0]
    omega
  · rw [if_neg h1] at hb ⊢
    by_cases h2 : v < 100
    · rw [if_pos h2] at hb ⊢
      have b0 := hb 0 (by simp)
      have b1 := hb 1 (by simp)
      simp at b0 b1
      simp [nv, b0, b1]
      omega
    · rw [if_neg h2] at hb ⊢
      by_cases h3 : v < 1000
      · rw [if_pos h3] at hb ⊢
        have b0 := hb 0 (by simp)
        have b1 := hb 1 (by simp)
        have b2 := hb 2 (by simp)
        simp at b0 b1 b2
        simp [nv, b0, b1, b2]
        omega
      · rw [if_neg h3] at hb ⊢
        have b0 := hb 0 (by simp)
        have b1 := hb 1 (by simp)
        have b2 := hb 2 (by simp)
        have b3 := hb 3 (by simp)
        simp at b0 b1 b2 b3
        simp [nv, b0, b1, b2, b3]
        omega
theorem s_num (hv : v ≤ 9999) (hvh : v ≤ hi) (hh : hi < 2 ^ 31) (h : aT T M B n p) (hk : ∀ j, j < k → B (p + j) = 32) (hb : bs B (p + k) (dg v)) (hend : ¬ isD (B (p + k + (dg v).length))) (hn : p + k + (dg v).length < n) : (∃ e, cT M B n (p + k) e) ∧ gi M 3 3 = 2 ∧ ∃ M', f_X5_readNumber T M 2 (nI hi) = some (1, M') ∧ gi M' 2 8 = nI v ∧ aT T M' B n (p + k + (dg v).length) ∧ fz cS0 tL M M' := by
  obtain ⟨hd, hl4⟩ := dg_ok hv
  have hB : B (p + k) ≠ 32 := by
    have := hb 0 (by have := hd.1; omega)
    rw [Nat.add_zero] at this
    rw [this]
    exact isD_32 (hd.2 0 (by have := hd.1; omega))
  obtain ⟨e, hT⟩ := aT_at h hk hB (by omega)
  obtain ⟨z1, z2, z3⟩ := cT_n hT hd hb hend hn
  rw [nv_dg hv hb] at z3
  subst z1
  refine ⟨⟨_, hT⟩, z2, ?_⟩
  have hX2 : gFx T (si M 2 8 (gi M 3 6)) := gFx_gr h.1 (fun _ _ => rfl)
  obtain ⟨M', c1, c2, c3⟩ := s_adv hX2 (cT_2 (j := 8) (x := gi M 3 6) hT)
  unfold f_X5_readNumber
  rw [r_2_0 h.1, Option.bind_some, z2, if_pos rfl, Option.bind_some, if_pos (show gi M 3 6 ≤ nI hi by rw [z3]; exact nI_le hvh hh), Option.bind_some, r_2_0 hX2, Option.bind_some, c1, Option.bind_some]
  refine ⟨M', rfl, ?_, c2, fz_trans (fz_si fz_refl (Or.inr ⟨rfl, Or.inl rfl⟩)) (cP_t c3)⟩
  rw [c3.2.2 2 8 (fun q => by unfold tS at q; omega), gi_si, if_pos ⟨rfl, rfl⟩, z3]
theorem s_new (h : aT T M B n p) (hk : ∀ j, j < k → B (p + j) = 32) (hw : lw w) (hb : bs B (p + k) w) (hend : ¬ isL (B (p + k + w.length))) (hn : p + k + w.length < n) (haT : T[a]? = some (12, n0)) (hc : cnt < n0) (hn0 : n0 ≤ 12) (ha3 : a ≠ 3) (hno : ∀ i, i < cnt → gl M a i ≠ wv w) : ∃ M', f_X5_readNewWord T M 2 a (nI cnt) = some (1, M') ∧ gl M' a cnt = wv w ∧ aT T M' B n (p + k + w.length) ∧ fz tS (fun b j => tL b j ∨ (b = a ∧ j = cnt)) M M' := by
  obtain ⟨e, hT⟩ := aT_at h hk (isL_32 (w_first hw hb)) (by omega)
  obtain ⟨z1, z2, z3⟩ := cT_w hT hw hb hend hn
  subst z1
  have hX2 : gFx T (sl M a cnt (wv w)) := gFx_gr h.1 (fun _ _ => rfl)
  have hT2 : cT (sl M a cnt (wv w)) B n (p + k) (p + k + w.length) := cT_eq hT (fun _ => rfl) (fun _ => rfl) (by rw [gl_sl, if_neg (fun z => ha3 z.1.symm)])
  obtain ⟨M', c1, c2, c3⟩ := s_adv hX2 hT2
  have hf : fstN (fun i => decide (gl M a i = gl M 3 5)) cnt = none := fstN_none (fun j hj => decide_eq_false (by rw [z3]; exact hno j hj))
  unfold f_X5_readNewWord
  rw [r_2_0 h.1, Option.bind_some, z2, if_pos rfl, c_index h.1 haT (by omega) hn0, Option.bind_some, hf, if_pos (show oI none = -1 from rfl), Option.bind_some, z3, astl_ok haT hc (by omega), Option.bind_some, r_2_0 hX2, Option.bind_some, c1, Option.bind_some]
  refine ⟨M', rfl, ?_, c2, fz_trans (fz_sl fz_refl (Or.inr ⟨rfl, rfl⟩)) (fz_mono c3 (fun _ _ q => q) (fun _ _ q => Or.inl q))⟩
  rw [c3.2.1 a cnt (fun q => ha3 q.1), gl_sl, if_pos ⟨rfl, rfl⟩]
theorem s_find (h : aT T M B n p) (hk : ∀ j, j < k → B (p + j) = 32) (hw : lw w) (hb : bs B (p + k) w) (hend : ¬ isL (B (p + k + w.length))) (hn : p + k + w.length < n) (haT : T[a]? = some (12, n0)) (hc : cnt ≤ n0) (hn0 : n0 ≤ 12) (hi : i < cnt) (hy : gl M a i = wv w) (hno : ∀ j, j < i → gl M a j ≠ wv w) : f_X5_findWord T M 2 a (nI cnt) = some (1, si M 2 8 (nI i)) ∧ cT (si M 2 8 (nI i)) B n (p + k) (p + k + w.length) := by
  obtain ⟨e, hT⟩ := aT_at h hk (isL_32 (w_first hw hb)) (by omega)
  obtain ⟨z1, z2, z3⟩ := cT_w hT hw hb hend hn
  subst z1
  have hf : fstN (fun i => decide (gl M a i = gl M 3 5)) cnt = some i := fstN_some (k := i) (decide_eq_true (by rw [z3]; exact hy)) (fun j hj => decide_eq_false (by rw [z3]; exact hno j hj)) hi
  unfold f_X5_findWord
  rw [r_2_0 h.1, Option.bind_some, z2, if_pos rfl, c_index h.1 haT hc hn0, Option.bind_some, hf, if_pos (show ¬ oI (some i) = -1 from nI_nneg (v := i) (by omega) (by decide))]
  exact ⟨rfl, cT_2 hT⟩
end PST
