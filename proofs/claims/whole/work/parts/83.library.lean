/-! A LIBRARY of the text: both parsers -/
section PJL
variable {T U : gT} {M R M' R' : gM} {B : Nat → Nat} {n s e p nl nn : Nat}
theorem pD_lib (h : pD T M R B nl nn) (h8 : nl < 8) (hg : ∀ b j, gr M' b j = gr M b j) (hM : ∀ b j, dIn 5 b j → ¬ (b = 5 ∧ j = 1) → ¬ (b = 10 + 3 * nl ∨ b = 11 + 3 * nl) → gi M' b j = gi M b j) (hM1 : gi M' 5 1 = nI (nl + 1)) (tr : ∃ t, t ≤ 999 ∧ dTr M' 5 nl = nI t ∧ gi R' 314 (6 + 24 * nl) = nI t) (kp : (dKp M' 5 nl = 0 ∨ dKp M' 5 nl = 1) ∧ gi R' 314 (6 + 24 * nl + 1) = dKp M' 5 nl) (rk : dRk M' 5 nl = nI nl ∧ gi R' 314 (6 + 24 * nl + 2) = nI (nl + 1)) (pn : dPn M' 5 nl = 0 ∧ gi R' 314 (6 + 24 * nl + 3) = 0) (of : ∀ z, z < 12 → dOf M' 5 nl z = -1 ∧ gi R' 314 (6 + 24 * nl + 12 + z) = -1) (hR : ∀ j, j < 198 → j ≠ 1 → j ≠ 3 → ¬ (6 + 24 * nl ≤ j ∧ j < 30 + 24 * nl) → gi R' 314 j = gi R 314 j) (hR1 : gi R' 314 1 = nI (nl + 1)) (hR3 : gi R' 314 3 = nI (nl + 1)) (w1 : wT M' R' 34 324 (nl + 1) B) (w2 : wT M' R' 35 325 nn B) : pD T M' R' B (nl + 1) nn := by
  obtain ⟨h1, ⟨h2, h2'⟩, ⟨a1, a2, a3, a4, a5, a6⟩, h4, h5, h6, h7, h8'⟩ := h
  have hM' : ∀ i, i < 8 → i ≠ nl → ∀ b j, (b = 5 + 5 + 3 * i ∨ b = 5 + 6 + 3 * i ∨ b = 5 + 7 + 3 * i) → dIn 5 b j → gi M' b j = gi M b j := fun i hi hne b j hb hd => hM b j hd (by omega) (by omega)
  refine ⟨gDat_gr h1 hg, ⟨h8, h2'⟩, ⟨hM1, by rw [hM _ _ (dIn_hd (Or.inr (Or.inl rfl))) (by omega) (by omega)]; exact a2, hR1, by rw [hR _ (by omega) (by omega) (by omega) (by omega)]; exact a4, hR3, by rw [hR _ (by omega) (by omega) (by omega) (by omega), hM _ _ (dIn_hd (Or.inr (Or.inr rfl))) (by omega) (by omega)]; exact a6⟩, fun i hi => ?_, fun i hi hi8 => by rw [hR _ (by omega) (by omega) (by omega) (by omega)]; exact h5 i (by omega) hi8, w1, w2, fun i hi => ?_⟩
  · by_cases ei : i = nl
    · subst ei
      obtain ⟨t, t1, t2, t3⟩ := tr
      have hp0 : ∀ q, cntN (fun q => anyN (fun k => decide (dPr M' 5 i k = nI q)) 0) q = 0 := fun q => by
        induction q with
        | zero => rfl
        | succ q ih => unfold cntN; rw [ih]; rfl
      exact ⟨⟨t, t1, t2, t3⟩, kp, rk, ⟨0, pn.1, pn.2, by omega, hp0 8, rfl, fun k hk => absurd hk (Nat.not_lt_zero k)⟩, fun z hz => ⟨Or.inl (of z hz).1, (of z hz).2.trans (of z hz).1.symm⟩⟩
    · have hi2 : i < nl := by omega
      have hi8 : i < 8 := by omega
      obtain ⟨⟨t, t1, t2, t3⟩, ⟨k1, k2⟩, ⟨r1, r2⟩, ⟨pm, p1, p2, p3, p4, p5, p6⟩, o1⟩ := h4 i hi2
      have eL : ∀ j, (j = 0 ∨ j = 1 ∨ j = 2 ∨ j = 5) → gi M' (5 + 5 + 3 * i) j = gi M (5 + 5 + 3 * i) j := fun j hj => hM' i hi8 ei _ _ (Or.inl rfl) (dIn_lib hi8 hj)
      have epr : ∀ k, k < 8 → dPr M' 5 i k = dPr M 5 i k := fun k hk => hM' i hi8 ei _ _ (Or.inr (Or.inr rfl)) (dIn_prf hi8 hk)
      have eR : ∀ j, j < 24 → gi R' 314 (6 + 24 * i + j) = gi R 314 (6 + 24 * i + j) := fun j hj => hR _ (by omega) (by omega) (by omega) (by omega)
      refine ⟨⟨t, t1, (eL 0 (by omega)).trans t2, (eR 0 (by omega)).trans t3⟩, ⟨by rw [show dKp M' 5 i = dKp M 5 i from eL 1 (by omega)]; exact k1, by rw [show dKp M' 5 i = dKp M 5 i from eL 1 (by omega), eR 1 (by omega)]; exact k2⟩, ⟨(eL 2 (by omega)).trans r1, (eR 2 (by omega)).trans r2⟩, ⟨pm, (eL 5 (by omega)).trans p1, (eR 3 (by omega)).trans p2, p3, ?_, ?_, fun k hk => ?_⟩, fun z hz => ?_⟩
      · rw [cntN_ext (e := fun q => anyN (fun k => decide (dPr M 5 i k = nI q)) pm) (fun q _ => anyN_ext (fun k hk => by rw [epr k (by omega)]))]
        exact p4
      · rw [anyN_ext (e := fun k => decide (dPr M 5 i k = nI i)) (fun k hk => by rw [epr k (by omega)])]
        exact p5
      · obtain ⟨q, q1, q2, q3⟩ := p6 k hk
        refine ⟨q, by omega, (epr k (by omega)).trans q2, ?_⟩
        have := eR (4 + k) (by omega)
        rw [show 6 + 24 * i + (4 + k) = 6 + 24 * i + 4 + k by omega] at this
        exact this.trans q3
      · have := eR (12 + z) (by omega)
        rw [show 6 + 24 * i + (12 + z) = 6 + 24 * i + 12 + z by omega] at this
        rw [show dOf M' 5 i z = dOf M 5 i z from hM' i hi8 ei _ _ (Or.inr (Or.inl rfl)) (dIn_off hi8 hz), this]
        exact o1 z hz
  · by_cases ei : i = nl
    · rw [ei]
      exact kp.1
    · rw [show dKp M' 5 i = dKp M 5 i from hM' i hi ei _ _ (Or.inl rfl) (dIn_lib hi (Or.inr (Or.inl rfl)))]
      exact h8' i hi
theorem c_fill12 {a : Nat} (hT : T[a]? = some (11, 12)) : ∃ N, f_J7_fill_53178 T M a (-1) = some N ∧ fz (fun b j => b = a ∧ j < 12) (fun _ _ => False) M N ∧ ∀ x, x < 12 → gi N a x = -1 := by
  unfold f_J7_fill_53178
  rw [alen_of hT, show Int32.ofNat 12 = nI 12 from rfl]
  have hL : ∃ N, gloop (fun x => f_J7_fill_53178_B5 T x.2 a (-1) x.1 (nI 12)) gFU ((0 : Int32), M) = some N ∧ (fz (fun b j => b = a ∧ j < 12) (fun _ _ => False) M N ∧ ∀ x, x < 12 → gi N a x = -1) := by
    refine gloop_ex (P := fun t y => y.1 = nI t ∧ t ≤ 12 ∧ fz (fun b j => b = a ∧ j < 12) (fun _ _ => False) M y.2 ∧ ∀ x, x < t → gi y.2 a x = -1) (fu := gFU) 12 (by decide) ⟨rfl, Nat.zero_le _, fz_refl, fun j hj => absurd hj (Nat.not_lt_zero j)⟩ (fun t y _ hP => ?_)
    obtain ⟨y1, N⟩ := y
    obtain ⟨rfl, ht, hF, hz⟩ := hP
    dsimp only at hF hz
    show (∃ e, f_J7_fill_53178_B5 T N a (-1) (nI t) (nI 12) = some (.inl e) ∧ _) ∨ _
    unfold f_J7_fill_53178_B5
    by_cases e : t = 12
    · subst e
      rw [if_pos (nI_le (Nat.le_refl _) (by decide))]
      exact Or.inl ⟨N, rfl, hF, hz⟩
    · have hlt : t < 12 := by omega
      rw [if_neg (nI_ge (by omega) (by decide)), ast_ok hT (by omega) (by decide), Option.bind_some, nI_1]
      refine Or.inr ⟨hlt, _, rfl, rfl, hlt, fz_si hF ⟨rfl, hlt⟩, fun x hx => ?_⟩
      show gi (si N a t (-1)) a x = -1
      rw [gi_si]
      by_cases ex : x = t
      · rw [if_pos ⟨rfl, ex⟩]
      · rw [if_neg (fun q => ex q.2)]
        exact hz x (by omega)
  obtain ⟨N, c1, c2⟩ := hL
  rw [c1, Option.bind_some]
  exact ⟨N, rfl, c2⟩
theorem c_startAs {i : Nat} {t r : Int32} (hD : gDat T M 5) (hi : i < 8) : ∃ N, f_X3_startAs T M (5 + 5 + 3 * i) t r = some N ∧ fz (fun b j => (b = 10 + 3 * i ∧ (j = 0 ∨ j = 1 ∨ j = 2 ∨ j = 5)) ∨ (b = 11 + 3 * i ∧ j < 12)) (fun _ _ => False) M N ∧ dTr N 5 i = t ∧ dKp N 5 i = 0 ∧ dRk N 5 i = r ∧ dPn N 5 i = 0 ∧ ∀ z, z < 12 → dOf N 5 i z = -1 := by
  unfold f_X3_startAs
  obtain ⟨t1, t2, t3, t4⟩ := hD.2.2.2 i hi
  have hF0 : fz (fun b j => (b = 10 + 3 * i ∧ (j = 0 ∨ j = 1 ∨ j = 2 ∨ j = 5)) ∨ (b = 11 + 3 * i ∧ j < 12)) (fun _ _ => False) M (si (si (si M (5 + 5 + 3 * i) 0 t) (5 + 5 + 3 * i) 1 0) (5 + 5 + 3 * i) 2 r) := fz_si (fz_si (fz_si fz_refl (Or.inl ⟨by omega, by omega⟩)) (Or.inl ⟨by omega, by omega⟩)) (Or.inl ⟨by omega, by omega⟩)
  obtain ⟨N, c1, c2, c3⟩ := c_fill12 (T := T) (M := si (si (si M (5 + 5 + 3 * i) 0 t) (5 + 5 + 3 * i) 1 0) (5 + 5 + 3 * i) 2 r) t1.2.1
  rw [ldr_ok (show gr (si (si (si M (5 + 5 + 3 * i) 0 t) (5 + 5 + 3 * i) 1 0) (5 + 5 + 3 * i) 2 r) (5 + 5 + 3 * i) 3 = some (5 + 6 + 3 * i) from t3) t1.2.1, Option.bind_some, c1, Option.bind_some]
  have hN : ∀ j, gi N (5 + 5 + 3 * i) j = gi (si (si (si M (5 + 5 + 3 * i) 0 t) (5 + 5 + 3 * i) 1 0) (5 + 5 + 3 * i) 2 r) (5 + 5 + 3 * i) j := fun j => c2.2.2 _ j (fun q => by omega)
  refine ⟨_, rfl, fz_si (fz_trans hF0 (fz_mono c2 (fun b j q => Or.inr ⟨by omega, q.2⟩) (fun _ _ q => q))) (Or.inl ⟨by omega, by omega⟩), ?_, ?_, ?_, ?_, fun z hz => ?_⟩
  · show gi (si N (5 + 5 + 3 * i) 5 0) (5 + 5 + 3 * i) 0 = t
    rw [gi_si, if_neg (by omega), hN, gi_si, if_neg (by omega), gi_si, if_neg (by omega), gi_si, if_pos ⟨rfl, rfl⟩]
  · show gi (si N (5 + 5 + 3 * i) 5 0) (5 + 5 + 3 * i) 1 = 0
    rw [gi_si, if_neg (by omega), hN, gi_si, if_neg (by omega), gi_si, if_pos ⟨rfl, rfl⟩]
  · show gi (si N (5 + 5 + 3 * i) 5 0) (5 + 5 + 3 * i) 2 = r
    rw [gi_si, if_neg (by omega), hN, gi_si, if_pos ⟨rfl, rfl⟩]
  · show gi (si N (5 + 5 + 3 * i) 5 0) (5 + 5 + 3 * i) 5 = 0
    rw [gi_si, if_pos ⟨rfl, rfl⟩]
  · show gi (si N (5 + 5 + 3 * i) 5 0) (5 + 6 + 3 * i) z = -1
    rw [gi_si, if_neg (by omega)]
    exact c3 z hz
/-- the reference's row of a new library, and its counts -/
theorem m_lib111 {kx : Int32} (hX : gFx U R) (h8 : nl < 8) (h1 : gi R 314 1 = nI nl) : ∃ N, f_X9_readLibrary_111 U R 311 (nI nl) (nI (6 + 24 * nl)) 314 (nI (6 + 24 * nl) + 1) kx = some N ∧ fz (fun b j => b = 314 ∧ (j = 1 ∨ j = 3 ∨ (6 + 24 * nl + 1 ≤ j ∧ j ≤ 6 + 24 * nl + 2) ∨ (6 + 24 * nl + 12 ≤ j ∧ j < 6 + 24 * nl + 24))) (fun _ _ => False) R N ∧ gi N 314 (6 + 24 * nl + 1) = kx ∧ gi N 314 (6 + 24 * nl + 2) = nI (nl + 1) ∧ gi N 314 1 = nI (nl + 1) ∧ gi N 314 3 = nI (nl + 1) ∧ ∀ z, z < 12 → gi N 314 (6 + 24 * nl + 12 + z) = -1 := by
  unfold f_X9_readLibrary_111
  have hXa : gFx U (si R 314 (6 + 24 * nl + 1) kx) := gFx_gr hX (fun _ _ => rfl)
  have hXb : gFx U (si (si R 314 (6 + 24 * nl + 1) kx) 314 (6 + 24 * nl + 2) (nI (nl + 1))) := gFx_gr hX (fun _ _ => rfl)
  rw [nI_1, t314 hX (by omega), Option.bind_some, r_311_9 hXa, Option.bind_some, show (2 : Int32) = nI 2 from rfl, nI_add, nI_1, t314 hXa (by omega), Option.bind_some]
  have hF0 : fz (fun b j => b = 314 ∧ (j = 1 ∨ j = 3 ∨ (6 + 24 * nl + 1 ≤ j ∧ j ≤ 6 + 24 * nl + 2) ∨ (6 + 24 * nl + 12 ≤ j ∧ j < 6 + 24 * nl + 24))) (fun _ _ => False) R (si (si R 314 (6 + 24 * nl + 1) kx) 314 (6 + 24 * nl + 2) (nI (nl + 1))) := fz_si (fz_si fz_refl ⟨rfl, by omega⟩) ⟨rfl, by omega⟩
  have hL : ∃ N, gloop (fun x => f_X9_readLibrary_B128 U x.2 311 (nI (6 + 24 * nl)) x.1) gFU ((0 : Int32), si (si R 314 (6 + 24 * nl + 1) kx) 314 (6 + 24 * nl + 2) (nI (nl + 1))) = some N ∧ (fz (fun b j => b = 314 ∧ 6 + 24 * nl + 12 ≤ j ∧ j < 6 + 24 * nl + 24) (fun _ _ => False) (si (si R 314 (6 + 24 * nl + 1) kx) 314 (6 + 24 * nl + 2) (nI (nl + 1))) N ∧ ∀ z, z < 12 → gi N 314 (6 + 24 * nl + 12 + z) = -1) := by
    refine gloop_ex (P := fun t y => y.1 = nI t ∧ t ≤ 12 ∧ fz (fun b j => b = 314 ∧ 6 + 24 * nl + 12 ≤ j ∧ j < 6 + 24 * nl + 24) (fun _ _ => False) (si (si R 314 (6 + 24 * nl + 1) kx) 314 (6 + 24 * nl + 2) (nI (nl + 1))) y.2 ∧ ∀ z, z < t → gi y.2 314 (6 + 24 * nl + 12 + z) = -1) (fu := gFU) 12 (by decide) ⟨rfl, Nat.zero_le _, fz_refl, fun j hj => absurd hj (Nat.not_lt_zero j)⟩ (fun t y _ hP => ?_)
    obtain ⟨y1, N⟩ := y
    obtain ⟨rfl, ht, hF, hz⟩ := hP
    dsimp only at hF hz
    have hXN := gFx_fz hXb hF
    show (∃ e, f_X9_readLibrary_B128 U N 311 (nI (6 + 24 * nl)) (nI t) = some (.inl e) ∧ _) ∨ _
    unfold f_X9_readLibrary_B128
    by_cases e : t = 12
    · subst e
      rw [if_pos (show (12 : Int32) ≤ nI 12 from nI_le (Nat.le_refl _) (by decide))]
      exact Or.inl ⟨N, rfl, hF, hz⟩
    · have hlt : t < 12 := by omega
      rw [if_neg (show ¬ (12 : Int32) ≤ nI t from nI_ge (b := 12) hlt (by decide)), r_311_9 hXN, Option.bind_some, show (12 : Int32) = nI 12 from rfl, nI_add, nI_add, t314 hXN (by omega), Option.bind_some, nI_1]
      refine Or.inr ⟨hlt, _, rfl, rfl, hlt, fz_si hF ⟨rfl, by omega, by omega⟩, fun z hz2 => ?_⟩
      show gi (si N 314 (6 + 24 * nl + 12 + t) (-1)) 314 (6 + 24 * nl + 12 + z) = -1
      rw [gi_si]
      by_cases ez : z = t
      · rw [if_pos ⟨rfl, by omega⟩]
      · rw [if_neg (by omega)]
        exact hz z (by omega)
  obtain ⟨N, c1, c2, c3⟩ := hL
  have hXN := gFx_fz hXb c2
  have e1 : gi N 314 1 = nI nl := by rw [c2.2.2 314 1 (fun q => by omega), gi_si, if_neg (by omega), gi_si, if_neg (by omega)]; exact h1
  have hXc : gFx U (si N 314 1 (nI (nl + 1))) := gFx_gr hXN (fun _ _ => rfl)
  rw [c1, Option.bind_some, r_311_9 hXN, Option.bind_some, show (1 : Int32) = nI 1 from rfl, a314 hXN (by omega), Option.bind_some, e1, nI_add, t314 hXN (by omega), Option.bind_some, r_311_9 hXc, Option.bind_some, Option.bind_some, a314 hXc (by omega), Option.bind_some, show (3 : Int32) = nI 3 from rfl, t314 hXc (by omega), Option.bind_some, gi_si, if_pos ⟨rfl, rfl⟩]
  have hN : ∀ j, ¬ (j = 1) → ¬ (j = 3) → gi (si (si N 314 1 (nI (nl + 1))) 314 3 (nI (nl + 1))) 314 j = gi N 314 j := fun j q1 q2 => by rw [gi_si, if_neg (by omega), gi_si, if_neg (by omega)]
  refine ⟨_, rfl, fz_si (fz_si (fz_trans hF0 (fz_mono c2 (fun b j q => ⟨q.1, by have := q.2; omega⟩) (fun _ _ q => q))) ⟨rfl, by omega⟩) ⟨rfl, by omega⟩, ?_, ?_, ?_, ?_, fun z hz => ?_⟩
  · rw [hN _ (by omega) (by omega), c2.2.2 314 _ (fun q => by omega), gi_si, if_neg (by omega), gi_si, if_pos ⟨rfl, rfl⟩]
  · rw [hN _ (by omega) (by omega), c2.2.2 314 _ (fun q => by omega), gi_si, if_pos ⟨rfl, rfl⟩]
  · rw [gi_si, if_neg (by omega), gi_si, if_pos ⟨rfl, rfl⟩]
  · rw [gi_si, if_pos ⟨rfl, rfl⟩]
  · rw [hN _ (by omega) (by omega)]
    exact c3 z hz
end PJL
