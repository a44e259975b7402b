/-! CLASS AND REFERENCE hold the same data; the places that an election writes -/
def eA [gW0] (b : Nat) : Prop := (b ≤ 1 ∨ (67 ≤ b ∧ b ≤ 76) ∨ b = 310) ∨ gStk b
/-- the Data that hold data of the running object -/
def gD (D : Nat) : Prop := D = 37 ∨ ∃ j, j < 8 ∧ D = 78 + 29 * j
/-- the class's data alone -/
def gCls [gW0] (T : gT) (M : gM) (k : Nat → Nat × Nat) (m : Nat) : Prop := gFx T M ∧ gVal T M 37 ∧ True ∧ gWt T M 37 k m ∧ True ∧ wOK k m ∧ m ≤ 2000 ∧ True
def vW (M : gM) (D : Nat) (k : Nat → Nat × Nat) (m : Nat) : Nat → Nat := fun i => wV k m (vQ M D i)
theorem vW_le {M : gM} {D : Nat} {k : Nat → Nat × Nat} {m : Nat} : ∀ i, vW M D k m i ≤ 9999 := fun _ => wV_le
theorem dIn37 {b j : Nat} (h : dIn 37 b j) : b = 37 ∨ (42 ≤ b ∧ b ≤ 65) := by
  rcases h with ⟨rfl, -⟩ | ⟨i, hi, h⟩
  · exact Or.inl rfl
  · have := lIn_rng h
    omega
theorem gStk_no [gW0] {b : Nat} (h : gStk b) : b = 9 ∨ b = 41 ∨ (82 ≤ b ∧ b ≤ 285 ∧ (b - 82) % 29 = 0) ∨ (313 ≤ b ∧ b = w0 + 2) := by
  have := w0_ge
  rcases h with h | h | ⟨j, hj, h⟩ | h <;> omega
theorem gWa_no [gW0] {w : Nat} (h : w = 7 ∨ w = 39 ∨ (∃ j, j < 8 ∧ w = 80 + 29 * j) ∨ w = w0) : w = 7 ∨ w = 39 ∨ (80 ≤ w ∧ w ≤ 283 ∧ (w - 80) % 29 = 0) ∨ (311 ≤ w ∧ w = w0) := by
  have := w0_ge
  rcases h with h | h | ⟨j, hj, h⟩ | h <;> omega
theorem dIn_two {D b j : Nat} (h : dIn D b j) : b = D ∨ (D + 5 ≤ b ∧ b ≤ D + 28) := by
  rcases h with ⟨rfl, -⟩ | ⟨i, hi, h⟩
  · exact Or.inl rfl
  · have := lIn_rng h
    omega
theorem eA_D [gW0] {D b j : Nat} (hD : gD D) (h : dIn D b j) : ¬ eA b := by
  have h2 := dIn_two h
  rcases hD with rfl | ⟨i, hi, rfl⟩
  · rintro (q | q)
    · omega
    · have := gStk_no q
      omega
  · rintro (q | q)
    · omega
    · have := gStk_no q
      omega
theorem gDat_gr {T : gT} {M N : gM} {D : Nat} (h : gDat T M D) (hg : ∀ b j, gr N b j = gr M b j) : gDat T N D := ⟨h.1, h.2.1, (hg _ _).trans h.2.2.1, fun i hi => ⟨(h.2.2.2 i hi).1, (hg _ _).trans (h.2.2.2 i hi).2.1, (hg _ _).trans (h.2.2.2 i hi).2.2.1, (hg _ _).trans (h.2.2.2 i hi).2.2.2⟩⟩
theorem dSame_fr {M N : gM} {S : Nat → Nat → Prop} {D : Nat} (hF : fr S M N) (hS : ∀ b j, dIn D b j → ¬ S b j) : dSame N D M D := fun b j hb => by
  have := dIn_rng hb
  rw [hF.2.2 b j (hS b j hb), show b - D + D = b by omega]
section PRL
variable {T : gT} {M M0 N : gM} {D : Nat} {k : Nat → Nat × Nat} {m : Nat} {S : Nat → Nat → Prop}
theorem gWt_fr [gW0] (hW : gWt T M D k m) (hF : fr S M N) (hS : ∀ b j, S b j → eA b) : gWt T N D k m := by
  obtain ⟨w, g4, hw, g0, hc, g1, hs, hww, hk⟩ := hW
  have hwn := gWa_no hww
  refine ⟨w, (hF.1 _ _).trans g4, hw, (hF.1 _ _).trans g0, hc, (hF.1 _ _).trans g1, hs, hww, fun t ht => ?_⟩
  rw [hF.2.2 (w + 1) t (fun q => by
    have hq := hS _ _ q
    clear hww
    rcases hq with q | q
    · omega
    · have := gStk_no q
      omega)]
  exact hk t ht
theorem gCls_fr [gW0] (h : gCls T M k m) (hF : fr S M N) (hS : ∀ b j, S b j → eA b) : gCls T N k m ∧ dSame N 37 M 37 := by
  obtain ⟨hX, hV, -, hW, -, hk, hm, -⟩ := h
  have hd : dSame N 37 M 37 := dSame_fr hF (fun b j hb q => eA_D (Or.inl rfl) hb (hS b j q))
  exact ⟨⟨gFx_fr hX hF, gVal_same hd (gDat_gr hV.1 hF.1) hV, trivial, gWt_fr hW hF hS, trivial, hk, hm, trivial⟩, hd⟩
theorem eC [gW0] (h : gCls T M0 k m) (hF : fr (fun b _ => eA b) M0 M) (hN : fr S M N) (hS : ∀ b j, S b j → eA b) : fr (fun b _ => eA b) M0 N ∧ gCls T N k m ∧ dSame N 37 M0 37 := by
  have f := fr_trans hF (fr_mono hN (fun b j q => hS b j q))
  obtain ⟨r, d⟩ := gCls_fr h f (fun _ _ q => q)
  exact ⟨f, r, d⟩
theorem vW_sameV (hV : gVal T M D) (hd : dSame N D M D) : ∀ i, i < dNl M D → vW N D k m i = vW M D k m i := fun i hi => by
  unfold vW
  rw [vQ_same hd hV hi]
theorem vW_sameC [gW0] (h : gCls T M k m) (hd : dSame N 37 M 37) : ∀ i, i < dNl M 37 → vW N 37 k m i = vW M 37 k m i := vW_sameV h.2.1 hd
end PRL
theorem p_cell {T : gT} {M : gM} {i n : Nat} : f_X8_cellOf T M (nI i) (nI n) = some (nI (12 * i + n)) := by
  unfold f_X8_cellOf
  rw [show (12 : Int32) = nI 12 from rfl, nI_mul, nI_add, Nat.mul_comm]
theorem sumN_add {f g : Nat → Nat} : ∀ n, sumN (fun k => f k + g k) n = sumN f n + sumN g n
  | 0 => rfl
  | n + 1 => by
    show sumN (fun k => f k + g k) n + (f n + g n) = sumN f n + f n + (sumN g n + g n)
    rw [sumN_add n]
    omega
theorem sumN_zero {f : Nat → Nat} : ∀ {n : Nat}, (∀ k, k < n → f k = 0) → sumN f n = 0
  | 0, _ => rfl
  | n + 1, h => by
    show sumN f n + f n = 0
    rw [sumN_zero (fun k hk => h k (by omega)), h n (by omega)]
theorem sumN_one {f : Nat → Nat} {c w : Nat} (hc : f c = w) : ∀ {n : Nat}, (∀ k, k < n → k ≠ c → f k = 0) → c < n → sumN f n = w
  | 0, _, h => by omega
  | n + 1, ho, h => by
    show sumN f n + f n = w
    by_cases e : c = n
    · rw [sumN_zero (fun k hk => ho k (by omega) (by omega)), ← e, hc]
      omega
    · rw [sumN_one hc (fun k hk => ho k (by omega)) (show c < n by omega), ho n (by omega) (by omega)]
      omega
/-- the supports of all candidates together -/
theorem vTot_sum {T : gT} {M : gM} {D n : Nat} {W : Nat → Nat} (hV : gVal T M D) : ∀ {t : Nat}, t ≤ dNl M D → sumN (fun i => if vCd M D i n then vSup W M D n i t else 0) (dNl M D) = vTot W M D n t
  | 0, _ => sumN_zero (fun k _ => by split <;> rfl)
  | t + 1, ht => by
    have h8 := hV.2.1
    have ih := vTot_sum (n := n) (W := W) hV (show t ≤ dNl M D by omega)
    have e : (fun i => if vCd M D i n then vSup W M D n i (t + 1) else 0) = fun i => (if vCd M D i n then vSup W M D n i t else 0) + (if vCd M D i n ∧ vVt M D t n = nI i then W t else 0) := by
      funext i
      show (if vCd M D i n then vSup W M D n i t + (if vVt M D t n = nI i then W t else 0) else 0) = _
      by_cases hc : vCd M D i n
      · rw [if_pos hc, if_pos hc]
        by_cases hv : vVt M D t n = nI i
        · rw [if_pos hv, if_pos ⟨hc, hv⟩]
        · rw [if_neg hv, if_neg (fun q => hv q.2)]
      · rw [if_neg hc, if_neg hc, if_neg (fun q => hc q.1)]
    rw [e, sumN_add, ih]
    show _ = vTot W M D n t + (if vVt M D t n = -1 then 0 else W t)
    congr 1
    by_cases hv : vVt M D t n = -1
    · rw [if_pos hv]
      refine sumN_zero (fun i hi => if_neg (fun q => ?_))
      have := q.2
      rw [hv] at this
      exact nI_nneg (v := i) (by omega) (by decide) this.symm
    · rw [if_neg hv]
      obtain ⟨c, hc, e1, e2⟩ := vVt_ok hV (show t < dNl M D by omega) hv
      refine sumN_one (f := fun i => if vCd M D i n ∧ vVt M D t n = nI i then W t else 0) (c := c) (if_pos ⟨e2, e1⟩) (fun i hi hic => if_neg (fun q => hic ?_)) hc
      have q2 := q.2
      rw [e1] at q2
      exact ((nI_eq (by omega) (by omega)).mp q2).symm
