/-! THE REFERENCE READS numbers and words -/
def rw4 (b j : Nat) : Prop := b = 311 ∧ (j = 4 ∨ j = 12 ∨ j = 17)
/-- only the position and the starts are other ones -/
abbrev rP (R R' : gM) : Prop := fz rw4 (fun _ _ => False) R R'
abbrev rQ (R R' : gM) : Prop := fz (fun b j => b = 311 ∧ j = 4) (fun _ _ => False) R R'
theorem rQ_P {R R' : gM} (h : rQ R R') : rP R R' := fz_mono h (fun b j q => ⟨q.1, Or.inl q.2⟩) (fun _ _ q => q)
theorem rP_F {R R' : gM} (h : rP R R') : rF R R' := fz_mono h (fun b j q => Or.inr ⟨q.1, by have := q.2; omega⟩) (fun _ _ q => q.elim)
section PMR
variable {T : gT} {R : gM} {B : Nat → Nat} {n p s e j : Nat}
theorem rP_pos {q : Nat} : rP R (rpos R q) := fz_si fz_refl ⟨rfl, Or.inl rfl⟩
theorem m_isDig (hx : rTx R B n) : f_X9_isDigit T R (if j < n then nI (B j) else -1) = some (if j < n ∧ isD (B j) then 1 else 0) := by
  unfold f_X9_isDigit
  rw [show (48 : Int32) = nI 48 from rfl, show (57 : Int32) = nI 57 from rfl, m_inAt hx 48 57 (by decide) (by decide), Option.bind_some]
  by_cases c : j < n ∧ isD (B j)
  · rw [if_pos c, chk_ok (Or.inr rfl), Option.bind_some]
  · rw [if_neg c, chk_ok (Or.inl rfl), Option.bind_some]
theorem m_numLoop (hX : gFx T R) (hx : rTx R B n) (hp : gi R 311 4 = nI s) (hsn : s ≤ n) {lo hi : Int32} : ∃ x, gloop (fun x => f_X9_number_B41 T x.2 311 lo hi x.1) gFU ((0 : Int32), R) = some x ∧ ∃ e, s ≤ e ∧ e ≤ n ∧ (∀ j, s ≤ j → j < e → isD (B j)) ∧ (e = n ∨ ¬ isD (B e)) ∧ x.1 = nI (nv B s (e - s)) ∧ rQ R x.2 ∧ gi x.2 311 4 = nI e := by
  have h8 := hx.2.1
  refine gloop_ex (P := fun t y => s + t ≤ n ∧ y.1 = nI (nv B s t) ∧ rQ R y.2 ∧ gi y.2 311 4 = nI (s + t) ∧ ∀ j, s ≤ j → j < s + t → isD (B j)) (fu := gFU) (n - s) (Nat.lt_of_le_of_lt (show n - s ≤ 800 by omega) (by decide)) ⟨hsn, rfl, fz_refl, hp, fun j h1 h2 => by omega⟩ (fun t y _ hP => ?_)
  obtain ⟨y1, N⟩ := y
  obtain ⟨ht, rfl, hF, h4, hr⟩ := hP
  dsimp only at hF h4
  have hXN := gFx_fz hX hF
  have hxN := rTx_rF hx (rP_F (rQ_P hF))
  have hn9 := nv_le (B := B) (s := s) t
  show (∃ e, f_X9_number_B41 T N 311 lo hi (nI (nv B s t)) = some (.inl e) ∧ _) ∨ _
  unfold f_X9_number_B41
  rw [h4, m_byteAt hXN hxN (by omega), Option.bind_some, m_isDig hxN, Option.bind_some]
  by_cases c : s + t < n ∧ isD (B (s + t))
  · rw [if_pos c, if_neg (by decide), Option.bind_some, if_pos c.1]
    have e1 : ((10 : Int32) * nI (nv B s t) + nI (B (s + t))) - (48 : Int32) = nI (nv B s t * 10 + (B (s + t) - 48)) := by
      rw [show (10 : Int32) = nI 10 from rfl, show (48 : Int32) = nI 48 from rfl, nI_mul, nI_add, pk_sub (by have := c.2.1; omega)]
      congr 1
      have := c.2.1
      omega
    have e2 : f_X9_min T N (1000000 : Int32) (nI (nv B s t * 10 + (B (s + t) - 48))) = some (nI (nv B s (t + 1))) := by
      have hb := c.2.2
      unfold f_X9_min
      show _ = some (nI (min 1000000 (nv B s t * 10 + (B (s + t) - 48))))
      by_cases q : nv B s t * 10 + (B (s + t) - 48) ≤ 1000000
      · rw [if_pos (show nI (nv B s t * 10 + (B (s + t) - 48)) ≤ (1000000 : Int32) from nI_le (b := 1000000) q (by decide)), Nat.min_eq_right q]
      · rw [if_neg (show ¬ nI (nv B s t * 10 + (B (s + t) - 48)) ≤ (1000000 : Int32) from nI_ge (a := 1000000) (by omega) (by omega)), Nat.min_eq_left (by omega)]
        rfl
    rw [e1, e2, Option.bind_some, nI_1]
    refine Or.inr ⟨by omega, _, rfl, by omega, rfl, fz_si hF ⟨rfl, rfl⟩, ?_, fun j h1 h2 => ?_⟩
    · show gi (si N 311 4 _) 311 4 = _
      rw [gi_si, if_pos ⟨rfl, rfl⟩]
      rfl
    · by_cases ej : j = s + t
      · rw [ej]
        exact c.2
      · exact hr j h1 (by omega)
  · rw [if_neg c, if_pos rfl]
    refine Or.inl ⟨_, rfl, s + t, by omega, ht, hr, ?_, by rw [show s + t - s = t by omega], hF, h4⟩
    by_cases z : s + t = n
    · exact Or.inl z
    · exact Or.inr (fun y => c ⟨by omega, y⟩)
theorem m_number {hi : Nat} (hh : hi < 1000000) (hX : gFx T R) (hx : rTx R B n) (hg : gi R 311 5 = 0) (hp : gi R 311 4 = nI p) (hsy : Sy B n p s) : ∃ v R', f_X9_number T R 311 (0 : Int32) (nI hi) = some (v, R') ∧ ((∃ e, s < n ∧ isD (B s) ∧ rnn isD B n s e ∧ nv B s (e - s) ≤ hi ∧ v = nI (nv B s (e - s)) ∧ rP R R' ∧ gi R' 311 4 = nI e) ∨ (∃ e R1, s < n ∧ isD (B s) ∧ rnn isD B n s e ∧ hi < nv B s (e - s) ∧ R' = rerr R1 (-3) s ∧ rP R R1) ∨ (¬ (s < n ∧ isD (B s)) ∧ ∃ R1, R' = rerr R1 (-2) s ∧ rP R R1)) := by
  have h8 := hx.2.1
  have hs8 := hsy.2.1
  have hX1 : gFx T (rpos R s) := gFx_gr hX (fun _ _ => rfl)
  have hx1 := rTx_rF hx (rF_pos (R := R) (q := s))
  have hp1 : gi (rpos R s) 311 4 = nI s := by rw [gi_si, if_pos ⟨rfl, rfl⟩]
  have hg1 : gi (rpos R s) 311 5 = 0 := by rw [gi_si, if_neg (by omega)]; exact hg
  unfold f_X9_number
  rw [m_good hg, Option.bind_some, if_pos (by decide), m_next hX hx hp hsy, Option.bind_some]
  dsimp only
  rw [m_isDig hx1, Option.bind_some, hp1]
  by_cases c : s < n ∧ isD (B s)
  · rw [if_pos c, if_pos (by decide)]
    have hF0 : rP R (si (rpos R s) 311 12 (nI s)) := fz_si rP_pos ⟨rfl, Or.inr (Or.inl rfl)⟩
    obtain ⟨⟨v, R'⟩, d1, e, d2, d3, d4, d5, d6, d7, d8⟩ := m_numLoop (lo := 0) (hi := nI hi) (gFx_fz hX hF0) (rTx_rF hx (rP_F hF0)) (s := s) (by rw [gi_si, if_neg (by omega)]; exact hp1) hs8
    dsimp only at d6 d7 d8
    have hFR := fz_trans hF0 (rQ_P d7)
    have hse : s < e := by
      rcases Nat.lt_or_ge s e with z | z
      · exact z
      · have : e = s := by omega
        subst this
        rcases d5 with y | y
        · omega
        · exact absurd c.2 y
    have hn9 := nv_le (B := B) (s := s) (e - s)
    have hgR : gi R' 311 5 = 0 := by rw [hFR.2.2 311 5 (fun q => by have := q.2; omega)]; exact hg
    rw [d1, Option.bind_some]
    dsimp only
    rw [d6, p_X9_in]
    by_cases c2 : nv B s (e - s) ≤ hi
    · rw [if_pos ⟨nI_pos (by omega), nI_nlt c2 (by omega)⟩, Option.bind_some, if_pos (by decide)]
      exact ⟨_, R', rfl, Or.inl ⟨e, c.1, c.2, ⟨hse, d3, d4, d5⟩, c2, rfl, hFR, d8⟩⟩
    · have e12 : gi R' 311 12 = nI s := by rw [d7.2.2 311 12 (fun q => by omega), gi_si, if_pos ⟨rfl, rfl⟩]
      rw [if_neg (fun q => q.2 (nI_lt (by omega) (by omega))), Option.bind_some, if_neg (fun q => q rfl), e12, m_report hgR, Option.bind_some]
      exact ⟨_, _, rfl, Or.inr (Or.inl ⟨e, R', c.1, c.2, ⟨hse, d3, d4, d5⟩, by omega, rfl, hFR⟩)⟩
  · rw [if_neg c, if_neg (fun q => q rfl), m_report hg1, Option.bind_some]
    exact ⟨_, _, rfl, Or.inr (Or.inr ⟨c, _, rfl, rP_pos⟩)⟩
theorem m_number_bad {lo hi : Int32} (h : gi R 311 5 ≠ 0) : f_X9_number T R 311 lo hi = some (0, R) := by
  unfold f_X9_number
  rw [m_bad h, Option.bind_some, if_neg (fun q => q rfl)]
/-- letters as digits 1 .. 26 -/
def d27 (B : Nat → Nat) (j : Nat) : Nat := B j - 96
theorem m_wordLoop (hX : gFx T R) (hx : rTx R B n) (hp : gi R 311 4 = nI s) (h17 : gi R 311 17 = nI s) (hsn : s ≤ n) : ∃ x, gloop (fun x => f_X9_readWord_B24 T x.2 311 x.1) gFU ((0 : Int64), R) = some x ∧ ∃ e, s ≤ e ∧ e ≤ n ∧ (∀ j, s ≤ j → j < e → isL (B j)) ∧ (e = n ∨ ¬ isL (B e)) ∧ (e - s ≤ 8 → x.1 = lN (vl 27 (d27 B) s (e - s))) ∧ rQ R x.2 ∧ gi x.2 311 4 = nI e := by
  have h8 := hx.2.1
  refine gloop_ex (P := fun t y => s + t ≤ n ∧ (t ≤ 8 → y.1 = lN (vl 27 (d27 B) s t)) ∧ rQ R y.2 ∧ gi y.2 311 4 = nI (s + t) ∧ ∀ j, s ≤ j → j < s + t → isL (B j)) (fu := gFU) (n - s) (Nat.lt_of_le_of_lt (show n - s ≤ 800 by omega) (by decide)) ⟨hsn, fun _ => rfl, fz_refl, hp, fun j h1 h2 => by omega⟩ (fun t y _ hP => ?_)
  obtain ⟨v, N⟩ := y
  obtain ⟨ht, hv, hF, h4, hr⟩ := hP
  dsimp only at hF h4 hv
  have hXN := gFx_fz hX hF
  have hxN := rTx_rF hx (rP_F (rQ_P hF))
  have h17N : gi N 311 17 = nI s := by rw [hF.2.2 311 17 (fun q => by omega)]; exact h17
  show (∃ e, f_X9_readWord_B24 T N 311 v = some (.inl e) ∧ _) ∨ _
  unfold f_X9_readWord_B24 f_X9_readWord_81
  rw [h4, m_byteAt hXN hxN (by omega), Option.bind_some, show f_X9_in T N (if s + t < n then nI (B (s + t)) else -1) (97 : Int32) (122 : Int32) = _ from m_inAt (j := s + t) hxN 97 122 (by decide) (by decide), Option.bind_some]
  by_cases c : s + t < n ∧ 97 ≤ B (s + t) ∧ B (s + t) ≤ 122
  · have fin : ∀ w : Int64, (t + 1 ≤ 8 → w = lN (vl 27 (d27 B) s (t + 1))) → t < n - s ∧ ∃ y', some (Sum.inr (α := Int64 × gM) (w, si N 311 4 (nI (s + t) + 1))) = some (.inr y') ∧ (s + (t + 1) ≤ n ∧ (t + 1 ≤ 8 → y'.1 = lN (vl 27 (d27 B) s (t + 1))) ∧ rQ R y'.2 ∧ gi y'.2 311 4 = nI (s + (t + 1)) ∧ ∀ j, s ≤ j → j < s + (t + 1) → isL (B j)) := fun w hw => by
      refine ⟨by omega, _, rfl, by omega, hw, fz_si hF ⟨rfl, rfl⟩, ?_, fun j h1 h2 => ?_⟩
      · show gi (si N 311 4 _) 311 4 = _
        rw [gi_si, if_pos ⟨rfl, rfl⟩, nI_1]
        rfl
      · by_cases ej : j = s + t
        · rw [ej]
          exact c.2
        · exact hr j h1 (by omega)
    rw [if_pos c, if_neg (by decide), h17N, pk_sub (by omega), show s + t - s = t by omega]
    by_cases c8 : 8 ≤ t
    · rw [if_pos (show (8 : Int32) ≤ nI t from nI_le (a := 8) c8 (by omega))]
      exact Or.inr (fin v (fun h => by omega))
    · rw [if_neg (show ¬ (8 : Int32) ≤ nI t from nI_ge (b := 8) (by omega) (by decide)), Option.bind_some, if_pos c.1]
      refine Or.inr (fin _ (fun _ => ?_))
      have hlt : vl 27 (d27 B) s t < 27 ^ t := vl_lt (by decide) (fun j hj => by
        have := hr (s + j) (by omega) (by omega)
        unfold d27
        omega)
      have hp8 : 27 ^ t ≤ 27 ^ 8 := Nat.pow_le_pow_right (by decide) (by omega)
      have e8 : (27 : Nat) ^ 8 = 282429536481 := by decide
      rw [hv (by omega)]
      exact lN_27 c.2.1 c.2.2 (by omega)
  · rw [if_neg c, if_pos rfl]
    refine Or.inl ⟨_, rfl, s + t, by omega, ht, hr, ?_, by rw [show s + t - s = t by omega]; exact hv, hF, h4⟩
    by_cases z : s + t = n
    · exact Or.inl z
    · exact Or.inr (fun y => c ⟨by omega, y⟩)
/-- readWord: a word; or an error at s -/
theorem m_readWord (hX : gFx T R) (hx : rTx R B n) (hg : gi R 311 5 = 0) (hp : gi R 311 4 = nI p) (hsy : Sy B n p s) : ∃ v R', f_X9_readWord T R 311 = some (v, R') ∧ ((∃ e, s < n ∧ isL (B s) ∧ rnn isL B n s e ∧ e - s ≤ 8 ∧ v = lN (vl 27 (d27 B) s (e - s)) ∧ rP R R' ∧ gi R' 311 4 = nI e ∧ gi R' 311 17 = nI s) ∨ ((s < n → isL (B s) → ∀ e, rnn isL B n s e → 8 < e - s) ∧ v = 0 ∧ ∃ R1, R' = rerr R1 (-2) s ∧ rP R R1)) := by
  have h8 := hx.2.1
  have hs8 := hsy.2.1
  have hp1 : gi (rpos R s) 311 4 = nI s := by rw [gi_si, if_pos ⟨rfl, rfl⟩]
  unfold f_X9_readWord
  rw [m_good hg, Option.bind_some, if_pos (by decide), m_next hX hx hp hsy, Option.bind_some]
  dsimp only
  rw [hp1]
  have hF0 : rP R (si (rpos R s) 311 17 (nI s)) := fz_si rP_pos ⟨rfl, Or.inr (Or.inr rfl)⟩
  obtain ⟨⟨v, R'⟩, d1, e, d2, d3, d4, d5, d6, d7, d8⟩ := m_wordLoop (gFx_fz hX hF0) (rTx_rF hx (rP_F hF0)) (s := s) (by rw [gi_si, if_neg (by omega)]; exact hp1) (by rw [gi_si, if_pos ⟨rfl, rfl⟩]) hs8
  dsimp only at d6 d7 d8
  have hFR := fz_trans hF0 (rQ_P d7)
  have hgR : gi R' 311 5 = 0 := by rw [hFR.2.2 311 5 (fun q => by have := q.2; omega)]; exact hg
  have h17 : gi R' 311 17 = nI s := by rw [d7.2.2 311 17 (fun q => by omega), gi_si, if_pos ⟨rfl, rfl⟩]
  have hge : ∀ q, gi (rerr R' (-2) q) 311 5 ≠ 0 := fun q => by
    rw [gi_si, if_neg (by omega), gi_si, if_pos ⟨rfl, rfl⟩]
    decide
  rw [d1, Option.bind_some]
  dsimp only
  rw [d8, h17]
  unfold f_X9_readWord_120 f_X9_readWord_130
  by_cases c1 : e = s
  · rw [if_pos (by rw [c1]), h17, m_report hgR, Option.bind_some, m_bad (hge s), Option.bind_some, if_pos rfl]
    refine ⟨_, _, rfl, Or.inr ⟨fun h1 h2 e2 h3 => ?_, rfl, R', rfl, hFR⟩⟩
    subst c1
    rcases d5 with y | y
    · omega
    · exact absurd h2 y
  · rw [if_neg (fun q => c1 ((nI_eq (by omega) (by omega)).mp q)), pk_sub d2]
    have hr : rnn isL B n s e := ⟨by omega, d3, d4, d5⟩
    by_cases c2 : e - s ≤ 8
    · rw [if_pos (show nI (e - s) ≤ (8 : Int32) from nI_le (b := 8) c2 (by decide)), m_good hgR, Option.bind_some, if_neg (by decide)]
      exact ⟨_, _, rfl, Or.inl ⟨e, by omega, d4 s (Nat.le_refl s) (by omega), hr, c2, d6 c2, hFR, d8, h17⟩⟩
    · rw [if_neg (show ¬ nI (e - s) ≤ (8 : Int32) from nI_ge (a := 8) (by omega) (by omega)), h17, m_report hgR, Option.bind_some, m_bad (hge s), Option.bind_some, if_pos rfl]
      exact ⟨_, _, rfl, Or.inr ⟨fun _ _ e2 h3 => by have := rnn_uniq hr h3; omega, rfl, R', rfl, hFR⟩⟩
theorem m_readWord_bad (h : gi R 311 5 ≠ 0) : f_X9_readWord T R 311 = some (0, R) := by
  unfold f_X9_readWord
  rw [m_bad h, Option.bind_some, if_neg (fun q => q rfl)]
end PMR
