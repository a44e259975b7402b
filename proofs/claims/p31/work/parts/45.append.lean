/-! APPEND of the class -/
def apM (M : gM) (w0 w1 w2 w3 w4 : Int32) (q : Nat) : gM := pbM (pbM (pbM (pbM (pbM M w0 q 4) w1 (q + 4) 4) w2 (q + 8) 4) w3 (q + 12) 4) w4 (q + 16) 4
/-- the word of which byte i is -/
def apW (w0 w1 w2 w3 w4 : Int32) (i : Nat) : Int32 := if i < 4 then w0 else if i < 8 then w1 else if i < 12 then w2 else if i < 16 then w3 else w4
theorem apM_gr {M : gM} {w0 w1 w2 w3 w4 : Int32} {q b j : Nat} : gr (apM M w0 w1 w2 w3 w4 q) b j = gr M b j := by
  unfold apM
  rw [pbM_gr, pbM_gr, pbM_gr, pbM_gr, pbM_gr]
theorem apM_gi {M : gM} {w0 w1 w2 w3 w4 : Int32} {q b j : Nat} (h : ¬ (b = 0 ∧ j = 1)) : gi (apM M w0 w1 w2 w3 w4 q) b j = if b = 1 ∧ q ≤ j ∧ j < q + 20 then wB (apW w0 w1 w2 w3 w4 (j - q)) ((j - q) % 4) else gi M b j := by
  unfold apM apW
  rw [pbM_gi _ _ _ h, pbM_gi _ _ _ h, pbM_gi _ _ _ h, pbM_gi _ _ _ h, pbM_gi _ _ _ h]
  by_cases hb : b = 1 ∧ q ≤ j ∧ j < q + 20
  · rw [if_pos hb]
    by_cases h5 : q + 16 ≤ j
    · rw [if_pos (by omega), if_neg (by omega), if_neg (by omega), if_neg (by omega), if_neg (by omega), show (j - q) % 4 = j - (q + 16) by omega]
    · rw [if_neg (by omega)]
      by_cases h4 : q + 12 ≤ j
      · rw [if_pos (by omega), if_neg (by omega), if_neg (by omega), if_neg (by omega), if_pos (by omega), show (j - q) % 4 = j - (q + 12) by omega]
      · rw [if_neg (by omega)]
        by_cases h3 : q + 8 ≤ j
        · rw [if_pos (by omega), if_neg (by omega), if_neg (by omega), if_pos (by omega), show (j - q) % 4 = j - (q + 8) by omega]
        · rw [if_neg (by omega)]
          by_cases h2 : q + 4 ≤ j
          · rw [if_pos (by omega), if_neg (by omega), if_pos (by omega), show (j - q) % 4 = j - (q + 4) by omega]
          · rw [if_neg (by omega), if_pos (by omega), if_pos (by omega), show (j - q) % 4 = j - q by omega]
  · rw [if_neg hb, if_neg (by omega), if_neg (by omega), if_neg (by omega), if_neg (by omega), if_neg (by omega)]
theorem p_X8_append {T : gT} {M : gM} {w0 w1 w2 w3 w4 : Int32} {q : Nat} (hg : gr M 0 0 = some 1) (hT : T[1]? = some (10, 800)) (hq : gi M 0 1 = nI q) (h : q + 20 ≤ 800) : f_X8_append T M 0 w0 w1 w2 w3 w4 = some (nI (q + 20), apM M w0 w1 w2 w3 w4 q) := by
  unfold f_X8_append apM
  rw [hq, show (20 : Int32) = nI 20 from rfl, nI_add, if_pos (show nI (q + 20) ≤ (800 : Int32) from nI_le (a := q + 20) (b := 800) h (by decide))]
  have c1 := pbM_cnt (x := w0) hq 4
  have c2 := pbM_cnt (x := w1) c1 4
  have c3 := pbM_cnt (x := w2) c2 4
  have c4 := pbM_cnt (x := w3) c3 4
  have c5 := pbM_cnt (x := w4) c4 4
  rw [p_X8_putBytes hg hT hq (by omega), Option.bind_some, p_X8_putBytes ((pbM_gr 4 0 0).trans hg) hT c1 (by omega), Option.bind_some, p_X8_putBytes ((pbM_gr 4 0 0).trans ((pbM_gr 4 0 0).trans hg)) hT c2 (by omega), Option.bind_some, p_X8_putBytes ((pbM_gr 4 0 0).trans ((pbM_gr 4 0 0).trans ((pbM_gr 4 0 0).trans hg))) hT c3 (by omega), Option.bind_some, p_X8_putBytes ((pbM_gr 4 0 0).trans ((pbM_gr 4 0 0).trans ((pbM_gr 4 0 0).trans ((pbM_gr 4 0 0).trans hg)))) hT c4 (by omega), Option.bind_some, c5]
theorem p_X8_append_no {T : gT} {M : gM} {w0 w1 w2 w3 w4 : Int32} {q : Nat} (hq : gi M 0 1 = nI q) (hq8 : q ≤ 800) (h : ¬ q + 20 ≤ 800) : f_X8_append T M 0 w0 w1 w2 w3 w4 = some (-1, M) := by
  unfold f_X8_append
  rw [hq, show (20 : Int32) = nI 20 from rfl, nI_add, if_neg (show ¬ (nI (q + 20) ≤ (800 : Int32)) from nI_ge (a := 800) (b := q + 20) (by omega) (by omega))]
