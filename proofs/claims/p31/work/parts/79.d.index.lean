/-! BOTH PARSERS at one token: T, M the class's; U, R the reference's -/
theorem vl_hi {B : Nat → Nat} {s : Nat} : ∀ {l : Nat}, 1 ≤ l → (∀ j, j < l → B (s + j) ≤ 122) → vl 256 B s l < 123 * 256 ^ (l - 1)
  | 0, h, _ => by omega
  | l + 1, _, hb => by
    have hb1 := hb l (by omega)
    by_cases e0 : l = 0
    · subst e0
      show 0 * 256 + B (s + 0) < 123 * 256 ^ (0 + 1 - 1)
      rw [show (0 + 1 - 1 : Nat) = 0 from rfl, Nat.pow_zero]
      omega
    · have ih2 := vl_hi (B := B) (s := s) (l := l) (by omega) (fun j hj => hb j (by omega))
      show vl 256 B s l * 256 + B (s + l) < 123 * 256 ^ (l + 1 - 1)
      have e2 : 256 ^ (l + 1 - 1) = 256 ^ (l - 1) * 256 := by
        rw [← Nat.pow_succ]
        congr 1
        omega
      rw [e2]
      omega
theorem vl_63 {B : Nat → Nat} {s l : Nat} (h1 : 1 ≤ l) (h8 : l ≤ 8) (hb : ∀ j, j < l → isL (B (s + j))) : vl 256 B s l < 2 ^ 63 := by
  have h := vl_hi (B := B) (s := s) h1 (fun j hj => (hb j hj).2)
  have hp : 256 ^ (l - 1) ≤ 256 ^ 7 := Nat.pow_le_pow_right (by decide) (by omega)
  have e : (256 : Nat) ^ 7 = 72057594037927936 := by decide
  omega
theorem j_same {B B' : Nat → Nat} {s s' l l' : Nat} (h1 : 1 ≤ l) (h8 : l ≤ 8) (hb : ∀ j, j < l → isL (B (s + j))) (h1' : 1 ≤ l') (h8' : l' ≤ 8) (hb' : ∀ j, j < l' → isL (B' (s' + j))) : lN (vl 256 B s l) = lN (vl 256 B' s' l') ↔ l = l' ∧ ∀ j, j < l → B (s + j) = B' (s' + j) := by
  rw [lN_inj (vl_63 h1 h8 hb) (vl_63 h1' h8' hb')]
  constructor
  · intro e
    exact vl_inj (by decide) (fun j hj => by have := hb j hj; omega) (fun j hj => by have := hb' j hj; omega) e
  · rintro ⟨rfl, e⟩
    exact vl_ext e
section PJW
variable {T U : gT} {M R : gM} {B : Nat → Nat} {n s e p i : Nat}
theorem c_packed (hi : i < 13) : f_X6_packed T M i = some (lN (vl 256 (kc i) 0 (gSl i))) := by
  obtain ⟨k1, k2, k3⟩ := kc_ok i hi
  have hsl : slen i = some (nI (gSl i)) := by
    unfold slen
    rw [if_pos (show i < 34 by omega)]
    rfl
  unfold f_X6_packed
  have hL := gloop_for (B := fun x => f_X6_packed_B4 T M i x.1 x.2) (fu := gFU) (e := lN (vl 256 (kc i) 0 (gSl i))) (fun t => (lN (vl 256 (kc i) 0 t), nI t)) (gSl i) (Nat.lt_of_le_of_lt k2 (by decide)) (fun t hlt => ?_) ?_
  · rw [show (((0 : Int64), (0 : Int32)) : Int64 × Int32) = (lN (vl 256 (kc i) 0 0), nI 0) from rfl, hL, Option.bind_some]
  · show f_X6_packed_B4 T M i (lN (vl 256 (kc i) 0 t)) (nI t) = some (.inr (lN (vl 256 (kc i) 0 (t + 1)), nI (t + 1)))
    unfold f_X6_packed_B4
    have hch : sch i (nI t) = some (nI (kc i t)) := by
      unfold sch
      rw [if_pos ⟨by omega, nI_pos' (by omega), by rw [nI_clamp (by omega)]; exact hlt⟩, nI_clamp (by omega)]
      rfl
    have hk := k3 t hlt
    have hlt2 : vl 256 (kc i) 0 t < 256 ^ t := vl_lt (by decide) (fun j hj => by
      have := k3 j (by omega)
      rw [Nat.zero_add]
      omega)
    have hp7 : 256 ^ t ≤ 256 ^ 6 := Nat.pow_le_pow_right (by decide) (by omega)
    have e6 : (256 : Nat) ^ 6 = 281474976710656 := by decide
    rw [hsl, Option.bind_some, if_neg (nI_ge hlt (by omega)), hch, Option.bind_some, nI_1, lN_sh8 (by omega) (by omega)]
    show _ = some (Sum.inr (lN (vl 256 (kc i) 0 t * 256 + kc i (0 + t)), _))
    rw [Nat.zero_add]
  · show f_X6_packed_B4 T M i _ (nI (gSl i)) = _
    unfold f_X6_packed_B4
    rw [hsl, Option.bind_some, if_pos (nI_le (Nat.le_refl _) (by omega))]
/-- isWord of the class: is the token the constant -/
theorem c_isWord (hi : i < 13) (hT : cT M B n s e) {d : Decidable (isKw B n s i)} : f_X6_isWord T M 3 i = some (if isKw B n s i then 1 else 0) ∧ (isKw B n s i → e = s + gSl i) := by
  obtain ⟨k1, k2, k3⟩ := kc_ok i hi
  obtain ⟨hx, -, -, hse, hen, hK⟩ := hT
  unfold f_X6_isWord f_X6_isWord_24
  have notL : ¬ (s < n ∧ isL (B s)) → ¬ isKw B n s i := fun h q => h ⟨by have := q.1; omega, by
    have := q.2.1 0 (by omega)
    rw [Nat.add_zero] at this
    rw [this]
    exact k3 0 (by omega)⟩
  have run : isKw B n s i → rnn isL B n s (s + gSl i) := fun q => ⟨by omega, q.1, fun j h1 h2 => by
    have := q.2.1 (j - s) (by omega)
    rw [show s + (j - s) = j by omega] at this
    rw [this]
    exact k3 _ (by omega), q.2.2⟩
  rcases hK with ⟨h1, h2, h3⟩ | ⟨h1, h2, h3, h4⟩ | ⟨h1, h2, h3, h4, h5⟩ | ⟨h1, h2, h3, h4, h5, h6⟩
  · have hn := notL (fun q => by omega)
    rw [h3, if_pos (by decide), if_neg hn]
    exact ⟨rfl, fun q => absurd q hn⟩
  · rcases h4 with ⟨g1, g2, g3⟩ | ⟨g1, g2⟩
    · rw [g2, if_neg (fun q => q rfl), c_packed hi, Option.bind_some, g3]
      have hs : s < e := h3.1
      have js := j_same (B := B) (B' := kc i) (s := s) (s' := 0) (l := e - s) (l' := gSl i) (by omega) g1 (fun j hj => h3.2.2.1 (s + j) (by omega) (by omega)) k1 (by omega) (fun j hj => by rw [Nat.zero_add]; exact k3 j hj)
      have key : lN (vl 256 B s (e - s)) = lN (vl 256 (kc i) 0 (gSl i)) ↔ isKw B n s i := by
        rw [js]
        constructor
        · rintro ⟨e1, e2⟩
          have ee : s + gSl i = e := by omega
          refine ⟨by omega, fun k hk => ?_, ?_⟩
          · have := e2 k (by omega)
            rwa [Nat.zero_add] at this
          · rw [ee]
            exact h3.2.2.2
        · intro q
          have := rnn_uniq h3 (run q)
          refine ⟨by omega, fun j hj => ?_⟩
          rw [Nat.zero_add]
          exact q.2.1 j (by omega)
      by_cases hq : isKw B n s i
      · rw [if_neg (fun z => z ((lg_cmp_eq _ _).mpr (key.mpr hq))), if_pos hq]
        exact ⟨rfl, fun q => rnn_uniq h3 (run q)⟩
      · rw [if_pos (fun z => hq (key.mp ((lg_cmp_eq _ _).mp z))), if_neg hq]
        exact ⟨rfl, fun q => absurd q hq⟩
    · have hn : ¬ isKw B n s i := fun q => by
        have := rnn_uniq h3 (run q)
        omega
      rw [g2, if_pos (by decide), if_neg hn]
      exact ⟨rfl, fun q => absurd q hn⟩
  · have hn := notL (fun q => by omega)
    rw [h4, if_pos (by decide), if_neg hn]
    exact ⟨rfl, fun q => absurd q hn⟩
  · have hn := notL (fun q => h3 q.2)
    rw [h5, if_pos (by decide), if_neg hn]
    exact ⟨rfl, fun q => absurd q hn⟩
/-- a sign that is no letter, digit or space -/
def sgn (c : Nat) : Prop := c < 128 ∧ ¬ isL c ∧ ¬ isD c
theorem c_isSign {c : Nat} (hc : sgn c) (hT : cT M B n s e) {d : Decidable (s < n ∧ B s = c)} : f_X6_isSign T M 3 (nI c) = some (if s < n ∧ B s = c then 1 else 0) ∧ (s < n ∧ B s = c → e = s + 1) := by
  obtain ⟨hx, -, -, hse, hen, hK⟩ := hT
  obtain ⟨c1, c2, c3⟩ := hc
  unfold f_X6_isSign f_X6_isSign_20
  rcases hK with ⟨h1, h2, h3⟩ | ⟨h1, h2, h3, h4⟩ | ⟨h1, h2, h3, h4, h5⟩ | ⟨h1, h2, h3, h4, h5, h6⟩
  · rw [h3, if_pos (by decide), if_neg (fun q => by omega)]
    exact ⟨rfl, fun q => by omega⟩
  · have hn : ¬ (s < n ∧ B s = c) := fun q => c2 (by rw [← q.2]; exact h2)
    have hk : gi M 3 3 = 1 ∨ gi M 3 3 = 4 := h4.imp (fun q => q.2.1) (fun q => q.2)
    rw [if_pos (by rcases hk with q | q <;> (rw [q]; decide)), if_neg hn]
    exact ⟨rfl, fun q => absurd q hn⟩
  · have hn : ¬ (s < n ∧ B s = c) := fun q => c3 (by rw [← q.2]; exact h2)
    rw [h4, if_pos (by decide), if_neg hn]
    exact ⟨rfl, fun q => absurd q hn⟩
  · have hb := (hx.2.2 s h1).1
    have hq := cB_sg (B s) hb c c1
    rw [h5, if_neg (fun q => q rfl), h6]
    by_cases e1 : B s = c
    · rw [if_neg (fun q => q (hq.mpr e1)), if_pos ⟨h1, e1⟩]
      exact ⟨rfl, fun _ => h2⟩
    · rw [if_pos (fun q => e1 (hq.mp q)), if_neg (fun q => e1 q.2)]
      exact ⟨rfl, fun q => absurd q.2 e1⟩
theorem c_index {a cnt n0 : Nat} (hX : gFx T M) (ha : T[a]? = some (12, n0)) (hc : cnt ≤ n0) (hn0 : n0 ≤ 12) : f_X5_indexOfWord T M 2 a (nI cnt) = some (oI (fstN (fun i => decide (gl M a i = gl M 3 5)) cnt)) := by
  unfold f_X5_indexOfWord
  have hL : ∃ x, gloop (fun x => f_X5_indexOfWord_B2 T M 2 a (nI cnt) x) gFU (0 : Int32) = some x ∧ x = oI (fstN (fun i => decide (gl M a i = gl M 3 5)) cnt) := by
    refine gloop_ex (P := fun t y => y = nI t ∧ t ≤ cnt ∧ ∀ j, j < t → decide (gl M a j = gl M 3 5) = false) (fu := gFU) cnt (Nat.lt_of_le_of_lt (show cnt ≤ 12 by omega) (by decide)) ⟨rfl, Nat.zero_le _, fun j hj => absurd hj (Nat.not_lt_zero j)⟩ (fun t y _ hP => ?_)
    obtain ⟨rfl, ht, hno⟩ := hP
    show (∃ e, f_X5_indexOfWord_B2 T M 2 a (nI cnt) (nI t) = some (.inl e) ∧ _) ∨ _
    unfold f_X5_indexOfWord_B2
    by_cases c1 : t = cnt
    · rw [if_pos (nI_le (by omega) (by omega))]
      refine Or.inl ⟨_, rfl, ?_⟩
      rw [fstN_none (fun j hj => hno j (by omega))]
      rfl
    · rw [if_neg (nI_ge (by omega) (by omega)), aldl_ok ha (by omega) (by omega), Option.bind_some, r_2_0 hX, Option.bind_some]
      by_cases c2 : gl M a t = gl M 3 5
      · rw [if_neg (fun q => q ((lg_cmp_eq _ _).mpr c2))]
        refine Or.inl ⟨_, rfl, ?_⟩
        rw [fstN_some (k := t) (decide_eq_true c2) hno (by omega)]
        rfl
      · rw [if_pos (fun q => c2 ((lg_cmp_eq _ _).mp q)), nI_1]
        refine Or.inr ⟨by omega, _, rfl, rfl, by omega, fun j hj => ?_⟩
        by_cases ej : j = t
        · rw [ej]
          exact decide_eq_false c2
        · exact hno j (by omega)
  obtain ⟨x, h1, h2⟩ := hL
  rw [h1, Option.bind_some, h2]
theorem fstN_lt {c : Nat → Bool} {k : Nat} : ∀ {m : Nat}, fstN c m = some k → k < m
  | 0, h => by cases h
  | m + 1, h => by
    unfold fstN at h
    cases hc : fstN c m with
    | none =>
      rw [hc] at h
      dsimp only at h
      split at h
      · cases h; omega
      · cases h
    | some z =>
      rw [hc] at h
      cases h
      have := fstN_lt hc
      omega
end PJW
