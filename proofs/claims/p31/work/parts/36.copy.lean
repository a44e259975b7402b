/-! COPIES of a library and of data -/
/-- the places of a library at L -/
def lIn (L b j : Nat) : Prop := (b = L ∧ (j = 0 ∨ j = 1 ∨ j = 2 ∨ j = 5)) ∨ (b = L + 1 ∧ j < 12) ∨ (b = L + 2 ∧ j < 8)
theorem p_X3_copyFrom {T : gT} {M : gM} {L L' : Nat} (hne : L + 2 < L' ∨ L' + 2 < L) (h1 : T[L + 1]? = some (11, 12)) (h2 : T[L + 2]? = some (11, 8)) (h1' : T[L' + 1]? = some (11, 12)) (h2' : T[L' + 2]? = some (11, 8)) (r1 : gr M L 3 = some (L + 1)) (r2 : gr M L 4 = some (L + 2)) (r1' : gr M L' 3 = some (L' + 1)) (r2' : gr M L' 4 = some (L' + 2)) (hk : gi M L' 1 = 0 ∨ gi M L' 1 = 1) :
    ∃ M', f_X3_copyFrom T M L L' = some M' ∧ (∀ b j, gr M' b j = gr M b j) ∧ (∀ b j, gl M' b j = gl M b j) ∧ (∀ b j, lIn L b j → gi M' b j = gi M (b - L + L') j) ∧ ∀ b j, ¬ lIn L b j → gi M' b j = gi M b j := by
  have n0 : ¬ L' = L := by omega
  unfold f_X3_copyFrom
  rw [chk_ok (by rw [gi_si, if_neg (fun q => n0 q.1)]; exact hk), Option.bind_some]
  generalize hM1 : si (si (si M L 0 (gi M L' 0)) L 1 (gi (si M L 0 (gi M L' 0)) L' 1)) L 2 (gi (si (si M L 0 (gi M L' 0)) L 1 (gi (si M L 0 (gi M L' 0)) L' 1)) L' 2) = M1
  have g1 : ∀ b j, gr M1 b j = gr M b j := fun b j => by rw [← hM1]; rfl
  have i1 : ∀ b j, gi M1 b j = if b = L ∧ (j = 0 ∨ j = 1 ∨ j = 2) then gi M L' j else gi M b j := fun b j => by
    rw [← hM1]
    simp only [gi_si, if_neg (fun q : L' = L ∧ _ => n0 q.1)]
    by_cases hb : b = L
    · subst hb
      by_cases j2 : j = 2
      · subst j2; simp
      · by_cases j1 : j = 1
        · subst j1; simp
        · by_cases j0 : j = 0
          · subst j0; simp
          · simp [j0, j1, j2]
    · simp [hb]
  rw [ldr_ok ((g1 _ _).trans r1') h1', Option.bind_some, ldr_ok ((g1 _ _).trans r1) h1, Option.bind_some, show (0 : Int32) = nI 0 from rfl, show (12 : Int32) = nI 12 from rfl, show (8 : Int32) = nI 8 from rfl, acp_ok h1' h1 (Nat.le_of_ble_eq_true rfl) (Nat.le_of_ble_eq_true rfl) (by decide) (by decide), Option.bind_some, ldr_ok (show gr (cpi M1 (L' + 1) 0 (L + 1) 0 12) L' 4 = some (L' + 2) from (g1 _ _).trans r2') h2', Option.bind_some, ldr_ok (show gr (cpi M1 (L' + 1) 0 (L + 1) 0 12) L 4 = some (L + 2) from (g1 _ _).trans r2) h2, Option.bind_some, acp_ok h2' h2 (Nat.le_of_ble_eq_true rfl) (Nat.le_of_ble_eq_true rfl) (by decide) (by decide), Option.bind_some]
  refine ⟨_, rfl, fun b j => g1 b j, fun b j => by rw [← hM1]; rfl, fun b j hj => ?_, fun b j hj => ?_⟩
  · rcases hj with ⟨rfl, hj⟩ | ⟨rfl, hj⟩ | ⟨rfl, hj⟩
    · rw [show b - b + L' = L' by omega]
      by_cases j5 : j = 5
      · subst j5
        rw [gi_si, if_pos ⟨rfl, rfl⟩, gi_cpi, if_neg (by omega), gi_cpi, if_neg (by omega), i1, if_neg (by omega)]
      · rw [gi_si, if_neg (by omega), gi_cpi, if_neg (by omega), gi_cpi, if_neg (by omega), i1, if_pos ⟨rfl, by omega⟩]
    · rw [gi_si, if_neg (by omega), gi_cpi, if_neg (by omega), gi_cpi, if_pos (by omega), i1, if_neg (by omega), show L + 1 - L + L' = L' + 1 by omega, show 0 + (j - 0) = j by omega]
    · rw [gi_si, if_neg (by omega), gi_cpi, if_pos (by omega), gi_cpi, if_neg (by omega), i1, if_neg (by omega), show L + 2 - L + L' = L' + 2 by omega, show 0 + (j - 0) = j by omega]
  · unfold lIn at hj
    rw [gi_si, if_neg (by omega), gi_cpi, if_neg (by omega), gi_cpi, if_neg (by omega), i1, if_neg (by omega)]
