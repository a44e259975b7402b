/-! THE REFERENCE READS: bytes, spaces, words, numbers -/
def rTx (R : gM) (B : Nat → Nat) (n : Nat) : Prop := gi R 311 3 = nI n ∧ n ≤ 800 ∧ ∀ j, j < n → B j < 256 ∧ gi R 312 j = nI (B j)
def rS (b j : Nat) : Prop := b = 314 ∨ (b = 311 ∧ (j = 4 ∨ j = 5 ∨ j = 6 ∨ j = 12 ∨ j = 13 ∨ j = 14 ∨ j = 17))
def rL (b _ : Nat) : Prop := b = 324 ∨ b = 325
abbrev rF (R R' : gM) : Prop := fz rS rL R R'
theorem si_id {M : gM} {a k : Nat} {x : Int32} (h : gi M a k = x) : si M a k x = M := gM_ext (fun b j => by
  rw [gi_si]
  by_cases e : b = a ∧ j = k
  · rw [if_pos e, e.1, e.2, h]
  · rw [if_neg e]) (fun _ _ => rfl) (fun _ _ => rfl)
theorem si_two {M : gM} {a k : Nat} {x y : Int32} : si (si M a k x) a k y = si M a k y := gM_ext (fun b j => by
  rw [gi_si, gi_si, gi_si]
  by_cases e : b = a ∧ j = k
  · rw [if_pos e, if_pos e]
  · rw [if_neg e, if_neg e, if_neg e]) (fun _ _ => rfl) (fun _ _ => rfl)
/-- the reference at position q -/
abbrev rpos (R : gM) (q : Nat) : gM := si R 311 4 (nI q)
/-- an error is recorded -/
abbrev rerr (R : gM) (c : Int32) (q : Nat) : gM := si (si R 311 5 c) 311 6 (nI q)
section PRT
variable {T : gT} {R : gM} {B : Nat → Nat} {n p s e j : Nat}
theorem rTx_rF {R' : gM} (h : rTx R B n) (hF : rF R R') : rTx R' B n := ⟨(hF.2.2 311 3 (fun q => by unfold rS at q; omega)).trans h.1, h.2.1, fun j hj => ⟨(h.2.2 j hj).1, (hF.2.2 312 j (fun q => by unfold rS at q; omega)).trans (h.2.2 j hj).2⟩⟩
theorem rF_pos {q : Nat} : rF R (rpos R q) := fz_si fz_refl (Or.inr ⟨rfl, Or.inl rfl⟩)
theorem rF_err {c : Int32} {q : Nat} : rF R (rerr R c q) := fz_si (fz_si fz_refl (Or.inr ⟨rfl, Or.inr (Or.inl rfl)⟩)) (Or.inr ⟨rfl, Or.inr (Or.inr (Or.inl rfl))⟩)
theorem m_byteAt (hX : gFx T R) (hx : rTx R B n) (hj : j < 2000) : f_X9_byteAt T R 311 (nI j) = some (if j < n then nI (B j) else -1) := by
  obtain ⟨h1, h2, h3⟩ := hx
  unfold f_X9_byteAt
  rw [h1]
  by_cases c : j < n
  · rw [if_neg (nI_ge c (by omega)), if_pos c, r_311_1 hX, Option.bind_some, ald_ok (s_312 hX) (show j < 800 by omega) (by decide), Option.bind_some, (h3 j c).2]
  · rw [if_pos (nI_le (by omega) (by omega)), if_neg c]
theorem m_next (hX : gFx T R) (hx : rTx R B n) (hp : gi R 311 4 = nI p) (hsy : Sy B n p s) : f_X9_next T R 311 = some (if s < n then nI (B s) else -1, rpos R s) := by
  have h8 := hx.2.1
  obtain ⟨y1, y2, y3, y4⟩ := hsy
  unfold f_X9_next
  have st : ∀ q, gFx T (rpos R q) ∧ rTx (rpos R q) B n ∧ gi (rpos R q) 311 4 = nI q := fun q => ⟨gFx_gr hX (fun _ _ => rfl), rTx_rF hx rF_pos, by rw [gi_si, if_pos ⟨rfl, rfl⟩]⟩
  have hL := gloop_for (B := fun x => f_X9_next_B0 T x 311) (fu := gFU) (e := rpos R s) (fun t => rpos R (p + t)) (s - p) (Nat.lt_of_le_of_lt (show s - p ≤ 800 by omega) (by decide)) (fun t ht => ?_) ?_
  · have e0 : R = rpos R (p + 0) := (si_id hp).symm
    have hL2 : gloop (fun x => f_X9_next_B0 T x 311) gFU R = some (rpos R s) := (congrArg (gloop (fun x => f_X9_next_B0 T x 311) gFU) e0).trans hL
    obtain ⟨a1, a2, a3⟩ := st s
    rw [hL2, Option.bind_some, a3, m_byteAt a1 a2 (by omega), Option.bind_some]
  · obtain ⟨a1, a2, a3⟩ := st (p + t)
    show f_X9_next_B0 T (rpos R (p + t)) 311 = _
    unfold f_X9_next_B0
    rw [a3, m_byteAt a1 a2 (by omega), Option.bind_some, if_pos (show p + t < n by omega), y3 (p + t) (by omega) (by omega), if_neg (fun q => q rfl), nI_1, si_two]
    rfl
  · obtain ⟨a1, a2, a3⟩ := st s
    show f_X9_next_B0 T (rpos R (p + (s - p))) 311 = _
    rw [show p + (s - p) = s by omega]
    unfold f_X9_next_B0
    rw [a3, m_byteAt a1 a2 (by omega), Option.bind_some, if_pos]
    rcases y4 with z | z
    · rw [if_neg (by omega)]
      decide
    · by_cases c : s < n
      · rw [if_pos c]
        exact fun q => z ((nI_eq (b := 32) (by have := (hx.2.2 s c).1; omega) (by decide)).mp q)
      · rw [if_neg c]
        decide
theorem m_good (h : gi R 311 5 = 0) : f_X9_isGood T R 311 = some 1 := by
  unfold f_X9_isGood
  rw [h, if_neg (fun q => q rfl)]
theorem m_bad (h : gi R 311 5 ≠ 0) : f_X9_isGood T R 311 = some 0 := by
  unfold f_X9_isGood
  rw [if_pos h]
theorem m_report (h : gi R 311 5 = 0) {c : Int32} {q : Nat} : f_X9_report T R 311 c (nI q) = some (rerr R c q) := by
  unfold f_X9_report
  rw [if_pos h]
theorem m_report_bad (h : gi R 311 5 ≠ 0) {c x : Int32} : f_X9_report T R 311 c x = some R := by
  unfold f_X9_report
  rw [if_neg h]
/-- letter k of the constant i -/
abbrev kc (i k : Nat) : Nat := (gStrs.getD i []).getD k 0
theorem kc_ok : ∀ i, i < 13 → 1 ≤ gSl i ∧ gSl i ≤ 7 ∧ ∀ k, k < gSl i → isL (kc i k) := by decide +kernel
/-- the word at s is the constant i -/
def isKw (B : Nat → Nat) (n s i : Nat) : Prop := s + gSl i ≤ n ∧ (∀ k, k < gSl i → B (s + k) = kc i k) ∧ (s + gSl i = n ∨ ¬ isL (B (s + gSl i)))
theorem m_in {x lo hi : Nat} (hx : x < 1000) (hl : lo < 1000) (hh : hi < 1000) : f_X9_in T R (nI x) (nI lo) (nI hi) = some (if lo ≤ x ∧ x ≤ hi then 1 else 0) := by
  rw [p_X9_in]
  congr 1
  by_cases c : lo ≤ x ∧ x ≤ hi
  · rw [if_pos c, if_pos ⟨nI_nlt c.1 (by omega), nI_nlt c.2 (by omega)⟩]
  · rw [if_neg c, if_neg (fun q => c ⟨by
      have := q.1
      rw [nI_ltI (by omega) (by omega)] at this
      omega, by
      have := q.2
      rw [nI_ltI (by omega) (by omega)] at this
      omega⟩)]
theorem m_in1 {lo hi : Nat} (hl : lo < 1000) : f_X9_in T R (-1) (nI lo) (nI hi) = some 0 := by
  rw [p_X9_in, if_neg (fun q => q.1 (by
    rw [Int32.lt_iff_toInt_lt, nI_toInt (by omega), show (-1 : Int32).toInt = -1 from rfl]
    omega))]
/-- the byte at j, read as in or not in a range -/
theorem m_inAt (hx : rTx R B n) (lo hi : Nat) (hl : lo < 1000) (hh : hi < 1000) : f_X9_in T R (if j < n then nI (B j) else -1) (nI lo) (nI hi) = some (if j < n ∧ lo ≤ B j ∧ B j ≤ hi then 1 else 0) := by
  by_cases c : j < n
  · have := (hx.2.2 j c).1
    rw [if_pos c, m_in (by omega) hl hh]
    congr 1
    by_cases c2 : lo ≤ B j ∧ B j ≤ hi
    · rw [if_pos c2, if_pos ⟨c, c2⟩]
    · rw [if_neg c2, if_neg (fun q => c2 q.2)]
  · rw [if_neg c, m_in1 hl, if_neg (fun q => c q.1)]
theorem m_takeWord {i : Nat} (hi : i < 13) (hX : gFx T R) (hx : rTx R B n) (hg : gi R 311 5 = 0) (hp : gi R 311 4 = nI p) (hsy : Sy B n p s) {d : Decidable (isKw B n s i)} : f_X9_takeWord T R 311 i = some (if isKw B n s i then (1, rpos R (s + gSl i)) else (0, rpos R s)) := by
  have h8 := hx.2.1
  have hs8 := hsy.2.1
  obtain ⟨k1, k2, k3⟩ := kc_ok i hi
  have hX1 : gFx T (rpos R s) := gFx_gr hX (fun _ _ => rfl)
  have hx1 := rTx_rF hx (rF_pos (R := R) (q := s))
  have hp1 : gi (rpos R s) 311 4 = nI s := by rw [gi_si, if_pos ⟨rfl, rfl⟩]
  have hsl : slen i = some (nI (gSl i)) := by
    unfold slen
    rw [if_pos hi]
    rfl
  unfold f_X9_takeWord
  rw [m_good hg, Option.bind_some, if_pos (by decide), m_next hX hx hp hsy, Option.bind_some]
  dsimp only
  have hL : ∃ e, gloop (fun x => f_X9_takeWord_B16 T (rpos R s) 311 i x) gFU (0 : Int32) = some e ∧ ∃ k, e = nI k ∧ k ≤ gSl i ∧ (∀ j, j < k → s + j < n ∧ B (s + j) = kc i j) ∧ (k = gSl i ∨ ¬ (s + k < n ∧ B (s + k) = kc i k)) := by
    refine gloop_ex (P := fun t y => y = nI t ∧ t ≤ gSl i ∧ ∀ j, j < t → s + j < n ∧ B (s + j) = kc i j) (fu := gFU) (gSl i) (Nat.lt_of_le_of_lt k2 (by decide)) ⟨rfl, Nat.zero_le _, fun j hj => absurd hj (Nat.not_lt_zero j)⟩ (fun t y _ hP => ?_)
    obtain ⟨rfl, ht, hm⟩ := hP
    show (∃ e, f_X9_takeWord_B16 T (rpos R s) 311 i (nI t) = some (.inl e) ∧ _) ∨ _
    unfold f_X9_takeWord_B16
    rw [hsl, Option.bind_some]
    by_cases c1 : t = gSl i
    · rw [if_pos (nI_le (by omega) (by omega))]
      exact Or.inl ⟨_, rfl, t, rfl, ht, hm, Or.inl c1⟩
    · have hlt : t < gSl i := by omega
      have hch : sch i (nI t) = some (nI (kc i t)) := by
        unfold sch
        rw [if_pos ⟨hi, nI_pos' (by omega), by rw [nI_clamp (by omega)]; exact hlt⟩, nI_clamp (by omega)]
        rfl
      rw [if_neg (nI_ge hlt (by omega)), hp1, nI_add, m_byteAt hX1 hx1 (by omega), Option.bind_some, hch, Option.bind_some]
      have hk := k3 t hlt
      by_cases c2 : s + t < n ∧ B (s + t) = kc i t
      · rw [if_pos c2.1, c2.2, if_neg (fun q => q rfl), nI_1]
        refine Or.inr ⟨hlt, _, rfl, rfl, hlt, fun j hj => ?_⟩
        by_cases ej : j = t
        · rw [ej]
          exact c2
        · exact hm j (by omega)
      · rw [if_pos (by
          by_cases c3 : s + t < n
          · rw [if_pos c3]
            have := (hx.2.2 (s + t) c3).1
            exact fun q => c2 ⟨c3, (nI_eq (by omega) (by omega)).mp q⟩
          · rw [if_neg c3]
            exact fun q => nI_nneg (v := kc i t) (by omega) (show (-1 : Int32).toInt < 0 by decide) q.symm)]
        exact Or.inl ⟨_, rfl, t, rfl, ht, hm, Or.inr c2⟩
  obtain ⟨e, c1, k, rfl, c2, c3, c4⟩ := hL
  rw [c1, Option.bind_some, hsl, Option.bind_some]
  by_cases hk : k = gSl i
  · subst hk
    have hm1 : s + gSl i ≤ n := by
      have := (c3 (gSl i - 1) (by omega)).1
      omega
    rw [if_neg (nI_nlt (Nat.le_refl _) (by omega)), hp1, nI_add, m_byteAt hX1 hx1 (by omega), Option.bind_some, show (97 : Int32) = nI 97 from rfl, show (122 : Int32) = nI 122 from rfl, m_inAt hx1 97 122 (by decide) (by decide), Option.bind_some]
    by_cases c5 : s + gSl i < n ∧ 97 ≤ B (s + gSl i) ∧ B (s + gSl i) ≤ 122
    · rw [if_pos c5, if_neg (by decide), if_neg (fun q => by
        rcases q.2.2 with z | z
        · omega
        · exact z c5.2)]
    · rw [if_neg c5, if_pos rfl, if_pos (show isKw B n s i from ⟨hm1, fun j hj => (c3 j hj).2, by
        by_cases z : s + gSl i = n
        · exact Or.inl z
        · exact Or.inr (fun y => c5 ⟨by omega, y⟩)⟩), si_two]
  · rw [if_pos (nI_lt (by omega) (by omega)), if_neg (fun q => by
      rcases c4 with z | z
      · exact hk z
      · exact z ⟨by have := q.1; omega, q.2.1 k (by omega)⟩)]
theorem m_takeWord_bad {i : Nat} (h : gi R 311 5 ≠ 0) : f_X9_takeWord T R 311 i = some (0, R) := by
  unfold f_X9_takeWord
  rw [m_bad h, Option.bind_some, if_neg (fun q => q rfl)]
theorem m_expect {c : Nat} (hc : c < 128) (hX : gFx T R) (hx : rTx R B n) (hg : gi R 311 5 = 0) (hp : gi R 311 4 = nI p) (hsy : Sy B n p s) {d : Decidable (s < n ∧ B s = c)} : f_X9_expect T R 311 (nI c) = some (if s < n ∧ B s = c then rpos R (s + 1) else rerr (rpos R s) (-2) s) := by
  have h8 := hx.2.1
  have hs8 := hsy.2.1
  have hp1 : gi (rpos R s) 311 4 = nI s := by rw [gi_si, if_pos ⟨rfl, rfl⟩]
  have hg1 : gi (rpos R s) 311 5 = 0 := by rw [gi_si, if_neg (by omega)]; exact hg
  unfold f_X9_expect
  rw [m_good hg, Option.bind_some, if_pos (by decide), m_next hX hx hp hsy, Option.bind_some]
  dsimp only
  rw [hp1]
  by_cases c1 : s < n ∧ B s = c
  · rw [if_pos c1, if_pos c1.1, c1.2, if_neg (fun q => q rfl), nI_1, si_two]
  · rw [if_neg c1, if_pos (by
      by_cases c3 : s < n
      · rw [if_pos c3]
        have := (hx.2.2 s c3).1
        exact fun q => c1 ⟨c3, (nI_eq (by omega) (by omega)).mp q⟩
      · rw [if_neg c3]
        exact fun q => nI_nneg (v := c) (by omega) (show (-1 : Int32).toInt < 0 by decide) q.symm), m_report hg1, Option.bind_some]
theorem m_expect_bad {x : Int32} (h : gi R 311 5 ≠ 0) : f_X9_expect T R 311 x = some R := by
  unfold f_X9_expect
  rw [m_bad h, Option.bind_some, if_neg (fun q => q rfl)]
end PRT
