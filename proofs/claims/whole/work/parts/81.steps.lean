/-! BOTH PARSERS side by side: signs, numbers, known words -/
/-- the class stands at the token s .. e, the reference before it, at p; no error yet -/
def pS (T U : gT) (M R : gM) (B : Nat → Nat) (n s e p : Nat) : Prop := gFx T M ∧ gFx U R ∧ cT M B n s e ∧ rTx R B n ∧ gi R 311 4 = nI p ∧ Sy B n p s ∧ gi R 311 5 = 0 ∧ gi R 311 6 = -1
/-- both have the same error -/
def bad (M R : gM) : Prop := ∃ (c : Int32) (q : Nat), c ≠ 0 ∧ gi M 2 9 = c ∧ gi M 2 10 = nI q ∧ gi R 311 5 = c ∧ gi R 311 6 = nI q
def cS0 (b j : Nat) : Prop := tS b j ∨ (b = 2 ∧ (j = 8 ∨ j = 9 ∨ j = 10))
def rS0 (b j : Nat) : Prop := b = 311 ∧ (j = 4 ∨ j = 5 ∨ j = 6 ∨ j = 12 ∨ j = 17)
abbrev cP (M M' : gM) : Prop := fz cS0 tL M M'
abbrev rE (R R' : gM) : Prop := fz rS0 (fun _ _ => False) R R'
theorem rP_E {R R' : gM} (h : rP R R') : rE R R' := fz_mono h (fun b j q => ⟨q.1, by have := q.2; omega⟩) (fun _ _ q => q)
theorem rE_F {R R' : gM} (h : rE R R') : rF R R' := fz_mono h (fun b j q => Or.inr ⟨q.1, by have := q.2; omega⟩) (fun _ _ q => q.elim)
theorem rE_err {R R1 : gM} {c : Int32} {q : Nat} (h : rP R R1) : rE R (rerr R1 c q) := fz_si (fz_si (rP_E h) ⟨rfl, Or.inr (Or.inl rfl)⟩) ⟨rfl, Or.inr (Or.inr (Or.inl rfl))⟩
theorem cP_t {M M' : gM} (h : fz tS tL M M') : cP M M' := fz_mono h (fun _ _ q => Or.inl q) (fun _ _ q => q)
section PJS
variable {T U : gT} {M R : gM} {B : Nat → Nat} {n s e p : Nat}
theorem cT_2 {x : Int32} {j : Nat} (h : cT M B n s e) : cT (si M 2 j x) B n s e := by
  obtain ⟨⟨h1, h2, h3⟩, h4, h5, h6, h7, h8⟩ := h
  have hg : ∀ b i, b ≠ 2 → gi (si M 2 j x) b i = gi M b i := fun b i hb => by rw [gi_si, if_neg (fun q => hb q.1)]
  refine ⟨⟨(hg 3 1 (by decide)).trans h1, h2, fun i hi => ⟨(h3 i hi).1, (hg 4 i (by decide)).trans (h3 i hi).2⟩⟩, (hg 3 4 (by decide)).trans h4, (hg 3 2 (by decide)).trans h5, h6, h7, ?_⟩
  unfold cK at h8 ⊢
  rw [hg 3 3 (by decide), hg 3 6 (by decide), hg 3 7 (by decide)]
  exact h8
/-- the class goes on to the next token; the reference stands behind the last one -/
theorem j_adv (hX : gFx T M) (hXR : gFx U R) (hT : cT M B n s e) (hR : rTx R B n) (hp : gi R 311 4 = nI e) (hg : gi R 311 5 = 0) (ha : gi R 311 6 = -1) : ∃ M' s' e', f_X6_advance T M 3 = some M' ∧ pS T U M' R B n s' e' e ∧ fz tS tL M M' := by
  obtain ⟨hx, h2, h3, h4, h5, h6⟩ := hT
  obtain ⟨M', s', e', c1, c2, c3, c4⟩ := c_advance hX hx h3 h5
  exact ⟨M', s', e', c1, ⟨gFx_fz hX c4, hXR, c3, hR, hp, c2, hg, ha⟩, c4⟩
theorem c_error {c : Int32} (hX : gFx T M) (hs : gi M 3 4 = nI s) : f_X5_error T M 2 c = some (0, si (si M 2 9 c) 2 10 (nI s)) := by
  have hX1 : gFx T (si M 2 9 c) := gFx_gr hX (fun _ _ => rfl)
  unfold f_X5_error
  rw [r_2_0 hX1, Option.bind_some, gi_si, if_neg (by omega), hs]
theorem c_syn (hX : gFx T M) (hs : gi M 3 4 = nI s) : f_X5_syntaxError T M 2 = some (0, si (si M 2 9 (-2)) 2 10 (nI s)) := by
  unfold f_X5_syntaxError
  rw [c_error hX hs, Option.bind_some, chk_ok (Or.inl rfl), Option.bind_some]
theorem cP_err {c : Int32} {q : Nat} : cP M (si (si M 2 9 c) 2 10 (nI q)) := fz_si (fz_si fz_refl (Or.inr ⟨rfl, Or.inr (Or.inl rfl)⟩)) (Or.inr ⟨rfl, Or.inr (Or.inr rfl)⟩)
theorem bad_mk {R1 : gM} {c : Int32} {q : Nat} (hc : c ≠ 0) : bad (si (si M 2 9 c) 2 10 (nI q)) (rerr R1 c q) := ⟨c, q, hc, by rw [gi_si, if_neg (by omega), gi_si, if_pos ⟨rfl, rfl⟩], by rw [gi_si, if_pos ⟨rfl, rfl⟩], by rw [gi_si, if_neg (by omega), gi_si, if_pos ⟨rfl, rfl⟩], by rw [gi_si, if_pos ⟨rfl, rfl⟩]⟩
theorem bad_R {R' : gM} (h : bad M R) : gi R 311 5 ≠ 0 := by
  obtain ⟨c, q, h1, -, -, h4, -⟩ := h
  rw [h4]
  exact h1
/-- a sign; progress: the reference is behind it -/
theorem j_sign {c : Nat} (hc : sgn c) (h : pS T U M R B n s e p) : ∃ M' R', f_X9_expect U R 311 (nI c) = some R' ∧ cP M M' ∧ rE R R' ∧ ((f_X5_readSign T M 2 (nI c) = some (1, M') ∧ ∃ s' e', pS T U M' R' B n s' e' (s + 1) ∧ s < n ∧ B s = c) ∨ (f_X5_readSign T M 2 (nI c) = some (0, M') ∧ bad M' R')) := by
  obtain ⟨hX, hXR, hT, hR, hp, hsy, hg, ha⟩ := h
  obtain ⟨k1, k2⟩ := c_isSign (d := Classical.propDecidable _) hc hT
  have k3 := m_expect (d := Classical.propDecidable _) hc.1 hXR hR hg hp hsy
  unfold f_X5_readSign
  rw [r_2_0 hX, Option.bind_some, k1, Option.bind_some, k3]
  by_cases q : s < n ∧ B s = c
  · have he := k2 q
    have hFp : rP R (rpos R (s + 1)) := rP_pos
    obtain ⟨M', s', e', c1, c2, c3⟩ := j_adv (U := U) (R := rpos R (s + 1)) hX (gFx_fz hXR hFp) hT (rTx_rF hR (rP_F hFp)) (by rw [gi_si, if_pos ⟨rfl, rfl⟩, he]) (by rw [gi_si, if_neg (by omega)]; exact hg) (by rw [gi_si, if_neg (by omega)]; exact ha)
    rw [if_pos q, if_pos q, if_pos (by decide), Option.bind_some, c1, Option.bind_some]
    exact ⟨M', _, rfl, cP_t c3, rP_E hFp, Or.inl ⟨rfl, s', e', by rw [he] at c2; exact c2, q⟩⟩
  · rw [if_neg q, if_neg q, if_neg (fun z => z rfl), c_syn hX hT.2.1, Option.bind_some, chk_ok (Or.inl rfl), Option.bind_some]
    exact ⟨_, _, rfl, cP_err, rE_err rP_pos, Or.inr ⟨rfl, bad_mk (by decide)⟩⟩
/-- a number -/
theorem j_number {hi : Nat} (hh : hi < 1000000) (h : pS T U M R B n s e p) : ∃ M' R' v, f_X9_number U R 311 (0 : Int32) (nI hi) = some (v, R') ∧ cP M M' ∧ rE R R' ∧ ((f_X5_readNumber T M 2 (nI hi) = some (1, M') ∧ gi M' 2 8 = v ∧ (∃ x, x ≤ hi ∧ v = nI x) ∧ s < n ∧ isD (B s) ∧ ∃ s' e', pS T U M' R' B n s' e' e ∧ s < e) ∨ (f_X5_readNumber T M 2 (nI hi) = some (0, M') ∧ bad M' R')) := by
  obtain ⟨hX, hXR, hT, hR, hp, hsy, hg, ha⟩ := h
  obtain ⟨v, R', k1, k2⟩ := m_number hh hXR hR hg hp hsy
  have hK := hT.2.2.2.2.2
  unfold f_X5_readNumber
  rw [r_2_0 hX, Option.bind_some, k1]
  rcases k2 with ⟨e1, g1, g2, g3, g4, g5, g6, g7⟩ | ⟨e1, R1, g1, g2, g3, g4, g5, g6⟩ | ⟨g1, R1, g2, g3⟩
  · rcases hK with z | z | z | z
    · omega
    · have := z.2.1; omega
    · obtain ⟨z1, z2, z3, z4, z5⟩ := z
      have ee := rnn_uniq g3 z3
      subst ee
      have hX2 : gFx T (si M 2 8 (gi M 3 6)) := gFx_gr hX (fun _ _ => rfl)
      obtain ⟨M', s', e', c1, c2, c3⟩ := j_adv (U := U) (R := R') hX2 (gFx_fz hXR g6) (cT_2 (j := 8) (x := gi M 3 6) hT) (rTx_rF hR (rP_F g6)) g7 (by rw [g6.2.2 311 5 (fun q => by have := q.2; omega)]; exact hg) (by rw [g6.2.2 311 6 (fun q => by have := q.2; omega)]; exact ha)
      rw [z4, if_pos rfl, Option.bind_some, z5, if_pos (nI_le g4 (by omega)), Option.bind_some]
      rw [r_2_0 hX2, Option.bind_some, c1, Option.bind_some]
      refine ⟨M', R', v, rfl, fz_trans (fz_si fz_refl (Or.inr ⟨rfl, Or.inl rfl⟩)) (cP_t c3), rP_E g6, Or.inl ⟨rfl, ?_, ⟨_, g4, g5⟩, z1, z2, s', e', c2, z3.1⟩⟩
      rw [c3.2.2 2 8 (fun q => by unfold tS at q; omega), gi_si, if_pos ⟨rfl, rfl⟩, z5, g5]
    · exact absurd g2 z.2.2.2.1
  · rcases hK with z | z | z | z
    · omega
    · have := z.2.1; omega
    · obtain ⟨z1, z2, z3, z4, z5⟩ := z
      have ee := rnn_uniq g3 z3
      subst ee
      have hn9 := nv_le (B := B) (s := s) (e1 - s)
      rw [z4, if_pos rfl, Option.bind_some, z5, if_neg (nI_ge g4 (by omega)), c_error hX hT.2.1, Option.bind_some, chk_ok (Or.inl rfl), Option.bind_some, g5]
      exact ⟨_, _, v, rfl, cP_err, rE_err g6, Or.inr ⟨rfl, bad_mk (by decide)⟩⟩
    · exact absurd g2 z.2.2.2.1
  · have hk : gi M 3 3 ≠ 2 := by
      rcases hK with z | z | z | z
      · rw [z.2.2]; decide
      · rcases z.2.2.2 with y | y
        · rw [y.2.1]; decide
        · rw [y.2]; decide
      · exact absurd ⟨z.1, z.2.1⟩ g1
      · rw [z.2.2.2.2.1]; decide
    rw [if_neg hk, c_syn hX hT.2.1, Option.bind_some, chk_ok (Or.inl rfl), Option.bind_some, g2]
    exact ⟨_, _, v, rfl, cP_err, rE_err g3, Or.inr ⟨rfl, bad_mk (by decide)⟩⟩
/-- the token of a word: kind 1 just when the reference reads a word -/
theorem j_word (h : pS T U M R B n s e p) : ∃ v R', f_X9_readWord U R 311 = some (v, R') ∧ ((gi M 3 3 = 1 ∧ s < n ∧ e - s ≤ 8 ∧ rnn isL B n s e ∧ gl M 3 5 = lN (vl 256 B s (e - s)) ∧ v = lN (vl 27 (d27 B) s (e - s)) ∧ rP R R' ∧ gi R' 311 4 = nI e ∧ gi R' 311 17 = nI s) ∨ (gi M 3 3 ≠ 1 ∧ v = 0 ∧ ∃ R1, R' = rerr R1 (-2) s ∧ rP R R1)) := by
  obtain ⟨hX, hXR, hT, hR, hp, hsy, hg, ha⟩ := h
  obtain ⟨v, R', k1, k2⟩ := m_readWord hXR hR hg hp hsy
  have hK := hT.2.2.2.2.2
  refine ⟨v, R', k1, ?_⟩
  rcases k2 with ⟨e1, g1, g2, g3, g4, g5, g6, g7, g8⟩ | ⟨g1, g2, R1, g3, g4⟩
  · rcases hK with z | z | z | z
    · omega
    · have ee := rnn_uniq g3 z.2.2.1
      subst ee
      rcases z.2.2.2 with y | y
      · exact Or.inl ⟨y.2.1, g1, g4, g3, y.2.2, g5, g6, g7, g8⟩
      · omega
    · have := z.2.1; omega
    · exact absurd g2 z.2.2.1
  · refine Or.inr ⟨?_, g2, R1, g3, g4⟩
    rcases hK with z | z | z | z
    · rw [z.2.2]; decide
    · have := g1 z.1 z.2.1 e z.2.2.1
      rcases z.2.2.2 with y | y
      · omega
      · rw [y.2]; decide
    · rw [z.2.2.2.1]; decide
    · rw [z.2.2.2.2.1]; decide
/-- a word that was told before: the class stays at it, the reference goes behind it -/
theorem j_find {a b cnt n0 : Nat} (h : pS T U M R B n s e p) (haT : T[a]? = some (12, n0)) (hbT : U[b]? = some (12, n0)) (hc : cnt ≤ n0) (hn0 : n0 ≤ 12) (hw : wT M R a b cnt B) : ∃ M' R' v, f_X9_readKnown U R 311 b (nI cnt) = some (v, R') ∧ cP M M' ∧ rE R R' ∧ ((f_X5_findWord T M 2 a (nI cnt) = some (1, M') ∧ (∃ q, q < cnt ∧ v = nI q ∧ M' = si M 2 8 (nI q)) ∧ s < e ∧ rP R R' ∧ gi R' 311 4 = nI e ∧ gi R' 311 17 = nI s) ∨ (f_X5_findWord T M 2 a (nI cnt) = some (0, M') ∧ bad M' R')) := by
  obtain ⟨v0, R0, k1, k2⟩ := j_word h
  obtain ⟨hX, hXR, hT, hR, hp, hsy, hg, ha⟩ := h
  unfold f_X9_readKnown f_X9_readKnown_32 f_X5_findWord
  rw [k1, Option.bind_some, m_place hbT hc hn0, Option.bind_some, r_2_0 hX, Option.bind_some]
  rcases k2 with ⟨g1, g2, g3, g4, g5, g6, g7, g8, g9⟩ | ⟨g1, g2, R1, g3, g4⟩
  · have hgR : gi R0 311 5 = 0 := by rw [g7.2.2 311 5 (fun q => by have := q.2; omega)]; exact hg
    have hs := g4.1
    have hidx := j_index (M := M) (R := R) (s := s) (l := e - s) hw (by omega) g3 (fun j hj => g4.2.2.1 (s + j) (by omega) (by omega)) g5
    have hlb : ∀ i, gl R0 b i = gl R b i := fun i => g7.2.1 b i (fun q => q)
    rw [g1, if_pos rfl, c_index hX haT hc hn0, Option.bind_some, m_good hgR, Option.bind_some, if_neg (by decide), g6]
    simp only [hlb]
    rw [hidx]
    cases hf : fstN (fun i => decide (gl M a i = gl M 3 5)) cnt with
    | none =>
      have hge : gi (rerr R0 (-4) s) 311 5 ≠ 0 := by
        rw [gi_si, if_neg (by omega), gi_si, if_pos ⟨rfl, rfl⟩]
        decide
      rw [if_neg (fun q => q (show oI none = -1 from rfl)), if_neg (fun q => q (show oI none = -1 from rfl)), g9, m_report hgR, Option.bind_some, m_bad hge, Option.bind_some, if_pos rfl, c_error hX hT.2.1, Option.bind_some, chk_ok (Or.inl rfl), Option.bind_some]
      exact ⟨_, _, _, rfl, cP_err, rE_err g7, Or.inr ⟨rfl, bad_mk (by decide)⟩⟩
    | some q =>
      have hq := fstN_lt hf
      have hno : ¬ oI (some q) = -1 := nI_nneg (v := q) (by omega) (by decide)
      rw [if_pos hno, if_pos hno, Option.bind_some, if_neg (by decide)]
      exact ⟨_, R0, _, rfl, fz_si fz_refl (Or.inr ⟨rfl, Or.inl rfl⟩), rP_E g7, Or.inl ⟨rfl, ⟨q, hq, rfl, rfl⟩, hs, g7, g8, g9⟩⟩
  · have hge : gi (rerr R1 (-2) s) 311 5 ≠ 0 := by
      rw [gi_si, if_neg (by omega), gi_si, if_pos ⟨rfl, rfl⟩]
      decide
    rw [if_neg g1, g3, m_bad hge, Option.bind_some, if_pos rfl, Option.bind_some, if_pos rfl, c_syn hX hT.2.1, Option.bind_some, chk_ok (Or.inl rfl), Option.bind_some]
    exact ⟨_, _, _, rfl, cP_err, rE_err g4, Or.inr ⟨rfl, bad_mk (by decide)⟩⟩
end PJS
