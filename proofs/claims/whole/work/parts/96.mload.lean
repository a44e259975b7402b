/-! HOW THE REFERENCE BEGINS A LOAD, and how it ends it -/
def rTail (U : gT) (x10 : gM) : Option (Int32 × gM) :=
  (f_X9_isGood U (si x10 311 7 (gi x10 311 6)) 311).bind fun x11 =>
  if ¬ x11 = 0 then
  (
    (f_X9_remember U (si x10 311 7 (gi x10 311 6)) 311).bind fun x13 =>
    (ldr U x13 311 9 11).bind fun b14 =>
    (ldr U x13 311 8 11).bind fun b15 =>
    (f_X9_copy U x13 b14 b15).bind fun x16 =>
    (ldr U x16 311 8 11).bind fun b17 =>
    (ald U x16 b17 (1 : Int32)).bind fun v18 =>
    some (v18, x16)
  )
  else
  (
    some ((gi (si x10 311 7 (gi x10 311 6)) 311 5), (si x10 311 7 (gi x10 311 6)))
  )
/-- the places that the beginning of a load writes -/
def rS0L (b j : Nat) : Prop := b = 314 ∨ (b = 311 ∧ (j = 0 ∨ j = 2 ∨ j = 3 ∨ j = 4 ∨ j = 5 ∨ j = 6 ∨ j = 13 ∨ j = 14))
section PJG
variable {U : gT} {R : gM} {n q : Nat}
theorem m_zero (hX : gFx U R) : ∃ N, gloop (fun x => f_X9_load_B69 U x.2 311 x.1) gFU ((0 : Int32), R) = some N ∧ fz (fun b j => b = 314 ∧ j < 1498) (fun _ _ => False) R N ∧ ∀ j, j < 1498 → gi N 314 j = 0 := by
  refine gloop_ex (P := fun t y => y.1 = nI t ∧ t ≤ 1498 ∧ fz (fun b j => b = 314 ∧ j < 1498) (fun _ _ => False) R y.2 ∧ ∀ j, j < t → gi y.2 314 j = 0) (fu := gFU) 1498 (by decide) ⟨rfl, Nat.zero_le _, fz_refl, fun j hj => absurd hj (Nat.not_lt_zero j)⟩ (fun t y _ hP => ?_)
  obtain ⟨y1, N⟩ := y
  obtain ⟨rfl, ht, hF, hz⟩ := hP
  dsimp only at hF hz
  have hXN := gFx_fz hX hF
  show (∃ e, f_X9_load_B69 U N 311 (nI t) = some (.inl e) ∧ _) ∨ _
  unfold f_X9_load_B69
  by_cases e : t = 1498
  · subst e
    rw [if_pos (show (1498 : Int32) ≤ nI 1498 from nI_le (Nat.le_refl _) (by decide))]
    exact Or.inl ⟨N, rfl, hF, hz⟩
  · have hlt : t < 1498 := by omega
    rw [if_neg (show ¬ (1498 : Int32) ≤ nI t from nI_ge (b := 1498) hlt (by decide)), r_311_9 hXN, Option.bind_some, t314 hXN hlt, Option.bind_some, nI_1]
    refine Or.inr ⟨hlt, _, rfl, rfl, hlt, fz_si hF ⟨rfl, hlt⟩, fun j hj => ?_⟩
    show gi (si N 314 t 0) 314 j = 0
    rw [gi_si]
    by_cases ej : j = t
    · rw [if_pos ⟨rfl, ej⟩]
    · rw [if_neg (fun z => ej z.2)]
      exact hz j (by omega)
theorem m_load (hX : gFx U R) (hq : gi R 311 2 = nI q) (hn : n ≤ q) (hq8 : q ≤ 800) : ∃ R1, f_X9_load U R 311 (nI n) = rText U R1 (rTail U) ∧ fz rS0L (fun _ _ => False) R R1 ∧ gi R1 311 0 = 0 ∧ gi R1 311 2 = 0 ∧ gi R1 311 3 = nI n ∧ gi R1 311 4 = nI 0 ∧ gi R1 311 5 = 0 ∧ gi R1 311 6 = -1 ∧ gi R1 311 13 = nI 0 ∧ gi R1 311 14 = nI 0 ∧ gi R1 314 0 = 50 ∧ ∀ j, 1 ≤ j → j < 1498 → gi R1 314 j = 0 := by
  generalize hRa : si (si (si (si (si (si (si (si R 311 0 0) 311 2 0) 311 3 (nI n)) 311 4 0) 311 5 0) 311 6 (-1)) 311 13 0) 311 14 0 = Ra
  have fa : fz rS0L (fun _ _ => False) R Ra := by
    rw [← hRa]
    exact fz_si (fz_si (fz_si (fz_si (fz_si (fz_si (fz_si (fz_si fz_refl (Or.inr ⟨rfl, by omega⟩)) (Or.inr ⟨rfl, by omega⟩)) (Or.inr ⟨rfl, by omega⟩)) (Or.inr ⟨rfl, by omega⟩)) (Or.inr ⟨rfl, by omega⟩)) (Or.inr ⟨rfl, by omega⟩)) (Or.inr ⟨rfl, by omega⟩)) (Or.inr ⟨rfl, by omega⟩)
  have v0 : gi Ra 311 0 = 0 := by rw [← hRa]; rfl
  have v2 : gi Ra 311 2 = 0 := by rw [← hRa]; rfl
  have v3 : gi Ra 311 3 = nI n := by rw [← hRa]; rfl
  have v4 : gi Ra 311 4 = nI 0 := by rw [← hRa]; rfl
  have v5 : gi Ra 311 5 = 0 := by rw [← hRa]; rfl
  have v6 : gi Ra 311 6 = -1 := by rw [← hRa]; rfl
  have v13 : gi Ra 311 13 = nI 0 := by rw [← hRa]; rfl
  have v14 : gi Ra 311 14 = nI 0 := by rw [← hRa]; rfl
  have hXa := gFx_fz hX fa
  obtain ⟨N, z1, z2, z3⟩ := m_zero hXa
  have hXN := gFx_fz hXa z2
  have hN : ∀ j, gi (si N 314 0 50) 311 j = gi Ra 311 j := fun j => by rw [gi_si, if_neg (by omega)]; exact z2.2.2 311 j (fun z => by omega)
  have e0 : gi (si R 311 0 0) 311 0 = 0 := by rw [gi_si, if_pos ⟨rfl, rfl⟩]
  have e2 : gi (si R 311 0 0) 311 2 = nI q := by rw [gi_si, if_neg (by omega)]; exact hq
  refine ⟨si N 314 0 50, ?_, fz_si (fz_trans fa (fz_mono z2 (fun b j z => Or.inl z.1) (fun _ _ z => z))) (Or.inl rfl), (hN _).trans v0, (hN _).trans v2, (hN _).trans v3, (hN _).trans v4, (hN _).trans v5, (hN _).trans v6, (hN _).trans v13, (hN _).trans v14, by rw [gi_si, if_pos ⟨rfl, rfl⟩], fun j h1 h2 => by rw [gi_si, if_neg (by omega)]; exact z3 j h2⟩
  unfold f_X9_load f_X9_load_23
  rw [e2, show f_X9_in U (si R 311 0 0) (nI n) (0 : Int32) (nI q) = some (if 0 ≤ n ∧ n ≤ q then 1 else 0) from m_in (lo := 0) (by omega) (by omega) (by omega), if_pos ⟨Nat.zero_le n, hn⟩, Option.bind_some, if_pos (show ¬ ((1 : Int32) = 0) by decide), p_X9_fails0 e0, Option.bind_some]
  dsimp only
  rw [if_pos rfl, hRa, z1, Option.bind_some, r_311_9 hXN, Option.bind_some, show ast U N 314 (0 : Int32) 50 = some (si N 314 0 50) from t314 (j := 0) hXN (by omega), Option.bind_some]
  rfl
/-- an error: its code and its place -/
theorem rTail_bad {c : Int32} {x : Nat} (hc : c ≠ 0) (h5 : gi R 311 5 = c) (h6 : gi R 311 6 = nI x) : rTail U R = some (c, si R 311 7 (nI x)) := by
  have e5 : gi (si R 311 7 (nI x)) 311 5 = c := by rw [gi_si, if_neg (by omega)]; exact h5
  unfold rTail
  rw [h6, m_bad (by rw [e5]; exact hc), Option.bind_some, if_neg (fun z => z rfl), e5]
theorem rTail_good {N : gM} (hg : gi R 311 5 = 0) (h6 : gi R 311 6 = -1) (hN : f_X9_remember U (si R 311 7 (-1)) 311 = some N) (hX : gFx U N) : rTail U R = some (gi N 314 1, cpi N 314 0 313 0 1498) := by
  have hX2 : gFx U (cpi N 314 0 313 0 1498) := gFx_gr hX (fun _ _ => rfl)
  unfold rTail
  rw [h6, m_good (by rw [gi_si, if_neg (by omega)]; exact hg), Option.bind_some, if_pos (show ¬ ((1 : Int32) = 0) by decide), hN, Option.bind_some, r_311_9 hX, Option.bind_some, r_311_8 hX, Option.bind_some, p_X9_copy (s_314 hX) (s_313 hX) (by decide), Option.bind_some, r_311_8 hX2, Option.bind_some, show ald U (cpi N 314 0 313 0 1498) 313 (1 : Int32) = some (gi (cpi N 314 0 313 0 1498) 313 1) from ald_ok (k := 1) (s_313 hX2) (by decide) (by decide), Option.bind_some, gi_cpi, if_pos (by decide)]
end PJG
