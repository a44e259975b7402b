/-! THE CLASS'S BUFFER: four bytes of a word -/
/-- byte k of the word, as the class keeps it -/
def wB (x : Int32) (k : Nat) : Int32 := (x >>> (([24, 16, 8, 0] : List Int32).getD k 0 &&& 31)).toInt8.toInt32.toInt8.toInt32
/-- the memory behind k bytes put at q -/
def pbM (M : gM) (x : Int32) (q : Nat) : Nat → gM
  | 0 => M
  | k + 1 => si (si (pbM M x q k) 1 (q + k) (wB x k)) 0 1 (nI (q + k + 1))
theorem pbM_gr {M : gM} {x : Int32} {q : Nat} : ∀ (k b j : Nat), gr (pbM M x q k) b j = gr M b j
  | 0, _, _ => rfl
  | k + 1, b, j => pbM_gr k b j
theorem pbM_cnt {M : gM} {x : Int32} {q : Nat} (h : gi M 0 1 = nI q) : ∀ k, gi (pbM M x q k) 0 1 = nI (q + k)
  | 0 => h
  | k + 1 => by
    show gi (si (si (pbM M x q k) 1 (q + k) (wB x k)) 0 1 (nI (q + k + 1))) 0 1 = _
    rw [gi_si, if_pos ⟨rfl, rfl⟩]
    rfl
theorem pbM_gi {M : gM} {x : Int32} {q : Nat} : ∀ (k b j : Nat), ¬ (b = 0 ∧ j = 1) → gi (pbM M x q k) b j = if b = 1 ∧ q ≤ j ∧ j < q + k then wB x (j - q) else gi M b j
  | 0, b, j, _ => by rw [if_neg (by omega)]; rfl
  | k + 1, b, j, h => by
    show gi (si (si (pbM M x q k) 1 (q + k) (wB x k)) 0 1 (nI (q + k + 1))) b j = _
    rw [gi_si, if_neg h, gi_si]
    by_cases h1 : b = 1 ∧ j = q + k
    · rw [if_pos h1, if_pos (by omega), show j - q = k by omega]
    · rw [if_neg h1, pbM_gi k b j h]
      by_cases h2 : b = 1 ∧ q ≤ j ∧ j < q + k
      · rw [if_pos h2, if_pos (by omega)]
      · rw [if_neg h2, if_neg (by omega)]
theorem p_X8_putBytes {T : gT} {M : gM} {x : Int32} {q : Nat} (hg : gr M 0 0 = some 1) (hT : T[1]? = some (10, 800)) (hq : gi M 0 1 = nI q) (h : q + 4 ≤ 800) : f_X8_putBytes T M 0 x = some (pbM M x q 4) := by
  unfold f_X8_putBytes
  have hL := gloop_for (B := fun y => f_X8_putBytes_B3 T y.2 0 x y.1) (fu := gFU) (e := pbM M x q 4) (fun k => (([24, 16, 8, 0, -8] : List Int32).getD k 0, pbM M x q k)) 4 (by decide) (fun k hk => ?_) ?_
  · rw [show (((24 : Int32), M) : Int32 × gM) = (([24, 16, 8, 0, -8] : List Int32).getD 0 0, pbM M x q 0) from rfl, hL]
    rfl
  · show f_X8_putBytes_B3 T (pbM M x q k) 0 x (([24, 16, 8, 0, -8] : List Int32).getD k 0) = some (.inr (([24, 16, 8, 0, -8] : List Int32).getD (k + 1) 0, pbM M x q (k + 1)))
    have hsh : ∀ k, k < 4 → ¬ (([24, 16, 8, 0, -8] : List Int32).getD k 0 < 0) ∧ ([24, 16, 8, 0, -8] : List Int32).getD k 0 + (-8 : Int32) = ([24, 16, 8, 0, -8] : List Int32).getD (k + 1) 0 ∧ ([24, 16, 8, 0, -8] : List Int32).getD k 0 = ([24, 16, 8, 0] : List Int32).getD k 0 := by decide +kernel
    obtain ⟨s1, s2, s3⟩ := hsh k hk
    unfold f_X8_putBytes_B3
    rw [if_neg s1, pbM_cnt hq, if_neg (show ¬ ((800 : Int32) ≤ nI (q + k)) from nI_ge (a := q + k) (b := 800) (by omega) (by decide)), ldr_ok ((pbM_gr k 0 0).trans hg) hT, Option.bind_some, ast_ok hT (by omega) (by decide), Option.bind_some, s2, gi_si, if_neg (by omega), pbM_cnt hq, nI_1, s3]
    rfl
  · show f_X8_putBytes_B3 T (pbM M x q 4) 0 x (-8) = _
    unfold f_X8_putBytes_B3
    rw [if_pos (by decide)]
