/-! A SEED, and the law -/
section PSE
variable {T T0 T1 : gT} {M M0 N : gM} {rr a7 l A B : Nat} {nx : Nat} {k kk : Nat → Nat × Nat} {m c t NL nn : Nat} {n : Nat} {f : Nat → Int32} {i2 : Int32} {L R O : Nat → Nat}
theorem S1_BS [gW0] (h : S1 T M nx) : BS M T M [] nx := by
  obtain ⟨h1, h2, h3, h4, h5, h6, h7⟩ := h
  refine ⟨⟨h1, h4, fun j hj => absurd hj (Nat.not_lt_zero j), h5 0, fun j hj => absurd hj (Nat.not_lt_zero j), fun w _ => ?_⟩, h6, h7, fun _ _ _ => rfl⟩
  rw [h5]
  have hz : wd (fun i => ([] : List Nat).getD (20 * (([] : List Nat).length / 20) + 4 * w + i) 0) = 0 := by simp [wd]
  rw [hz]
  rfl
theorem q_140 (J : gW0) {a4 c0 s0 : Nat} (e0 : f_L_randomLinker T0 M0 0 a4 rr (4 : Int32) (5 : Int32) = some ((l, T, M), c0, s0)) (h : @SL J T M rr l A L R O NL nn kk m) (hT : T.length + 281692 ≤ 900000) : ∃ c s, f_L_law_140 n f T0 M0 i2 0 a4 rr 1 = some (.inr (1, i2 + 1), c, s) ∧ c ≤ c0 + 281699 ∧ s ≤ s0 + 1444469 := t_140 e0 h hT
theorem t_seed (hn : n < 2 ^ 31) (ht : t < n) (ht2 : t < 2) : ∃ c s, f_L_law_B4 n f 1 (nI t) = some (.inr (1, nI (t + 1)), c, s) ∧ c ≤ 286318 ∧ s ≤ 1554281 := by
  obtain ⟨I, hw⟩ : ∃ I : gW0, 900000 ≤ @w0 I := ⟨⟨⟨900000, by decide⟩⟩, Nat.le_refl _⟩
  obtain ⟨T, M, c1, s1, nx, h1, h2, h3, h4, h5⟩ := t_first (n := n) (f := f) hw hn ht ht2
  obtain ⟨T1, N, c2, s2, l, A, NL, nn, e1, e2, e3, e4, J, L, R, O, kk, m, e5⟩ := b_link hw (S1_BS h2) (by omega)
  obtain ⟨c3, s3, g1, g2, g3⟩ := q_140 (n := n) (f := f) (i2 := nI t) J e1 e5 (by omega)
  have h6 := h1 _ _ _ g1
  rw [nI_1] at h6
  exact ⟨_, _, h6, by omega, Nat.le_trans (Nat.add_le_add h5 (Nat.le_trans g3 (Nat.add_le_add_right e3 _))) (by decide)⟩
theorem t_law (hn : n < 2 ^ 31) : ∃ c s, f_L_law n f = some (1, c, s) ∧ c ≤ 590000 ∧ s ≤ 5000000 := by
  have hmin : min n 2 ≤ 2 := Nat.min_le_right n 2
  have hmin1 : min n 2 ≤ n := Nat.min_le_left n 2
  obtain ⟨e, c, s, h1, h2, h3, h4⟩ : ∃ e c s, gloopc (fun x : Int32 × Int32 => f_L_law_B4 n f x.1 x.2) gFU ((1 : Int32), (0 : Int32)) = some (e, c, s) ∧ e = 1 ∧ c ≤ 572636 ∧ s ≤ 3108562 := by
    refine loopc_ex (P := fun t y c s => y = (1, nI t) ∧ t ≤ min n 2 ∧ c ≤ 286318 * t ∧ s ≤ 1554281 * t) (min n 2) (Nat.lt_of_le_of_lt hmin (by decide)) ⟨rfl, Nat.zero_le _, Nat.zero_le _, Nat.zero_le _⟩ (fun t y c s _ hP => ?_)
    obtain ⟨rfl, ht, hc, hs⟩ := hP
    dsimp only
    by_cases e : t = min n 2
    · refine Or.inl ⟨1, 0, 0, ?_, rfl, by omega, by omega⟩
      unfold f_L_law_B4
      by_cases e2 : t = n
      · rw [if_pos (show Int32.ofNat n ≤ nI t from nI_le (by omega) (by omega)), chk_ok (Or.inr rfl), Option.bind_some]
      · have e3 : t = 2 := by omega
        rw [if_neg (show ¬ Int32.ofNat n ≤ nI t from nI_ge (by omega) hn), if_pos (show (2 : Int32) ≤ nI t from nI_le (a := 2) (by omega) (by omega)), chk_ok (Or.inr rfl), Option.bind_some]
    · obtain ⟨c1, s1, g1, g2, g3⟩ := t_seed (f := f) hn (show t < n by omega) (show t < 2 by omega)
      exact Or.inr ⟨by omega, _, c1, s1, g1, rfl, by omega, by omega, by omega⟩
  unfold f_L_law
  rw [h1, Option.bind_some, h2]
  dsimp only
  rw [cadd_some]
  exact ⟨c + 0, s + 0, rfl, by omega, by omega⟩
end PSE
