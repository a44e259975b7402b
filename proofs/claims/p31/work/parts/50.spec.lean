/-! THE ELECTION, as numbers -/
def sumN (f : Nat → Nat) : Nat → Nat
  | 0 => 0
  | n + 1 => sumN f n + f n
theorem sumN_ext {f g : Nat → Nat} : ∀ {n : Nat}, (∀ k, k < n → f k = g k) → sumN f n = sumN g n
  | 0, _ => rfl
  | n + 1, h => by
    unfold sumN
    rw [sumN_ext (fun k hk => h k (by omega)), h n (by omega)]
theorem sumN_le {f : Nat → Nat} {c : Nat} (h : ∀ k, f k ≤ c) : ∀ n, sumN f n ≤ c * n
  | 0 => Nat.zero_le _
  | n + 1 => by
    have := sumN_le h n
    have := h n
    show sumN f n + f n ≤ c * (n + 1)
    rw [Nat.mul_succ]
    omega
theorem anyN_ext {c e : Nat → Bool} : ∀ {n : Nat}, (∀ k, k < n → c k = e k) → anyN c n = anyN e n
  | 0, _ => rfl
  | n + 1, h => by
    unfold anyN
    rw [anyN_ext (fun k hk => h k (by omega)), h n (by omega)]
theorem fstN_ext {c e : Nat → Bool} : ∀ {n : Nat}, (∀ k, k < n → c k = e k) → fstN c n = fstN e n
  | 0, _ => rfl
  | n + 1, h => by
    unfold fstN
    rw [fstN_ext (fun k hk => h k (by omega)), h n (by omega)]
def oI : Option Nat → Int32
  | none => -1
  | some k => nI k
/-- the support of library i for the name n, by the first t libraries -/
def vSup (W : Nat → Nat) (M : gM) (D n i : Nat) (t : Nat) : Nat := sumN (fun k => if vVt M D k n = nI i then W k else 0) t
def vTot (W : Nat → Nat) (M : gM) (D n : Nat) (t : Nat) : Nat := sumN (fun k => if vVt M D k n = -1 then 0 else W k) t
/-- the one that is ahead among the first t -/
def vBest (W : Nat → Nat) (M : gM) (D n : Nat) : Nat → Option Nat
  | 0 => none
  | t + 1 => if vCd M D t n then (match vBest W M D n t with
    | none => some t
    | some b => if vSup W M D n b (dNl M D) < vSup W M D n t (dNl M D) ∨ vSup W M D n t (dNl M D) = vSup W M D n b (dNl M D) ∧ dRk M D t < dRk M D b then some t else some b) else vBest W M D n t
/-- the greatest support of another one than b -/
def vMx (W : Nat → Nat) (M : gM) (D n b : Nat) : Nat → Nat
  | 0 => 0
  | t + 1 => if t ≠ b ∧ vCd M D t n then max (vMx W M D n b t) (vSup W M D n t (dNl M D)) else vMx W M D n b t
def vWin (W : Nat → Nat) (M : gM) (D n : Nat) : Int32 := oI (vBest W M D n (dNl M D))
def vMar (W : Nat → Nat) (M : gM) (D n : Nat) : Int32 := match vBest W M D n (dNl M D) with
  | none => -1
  | some b => nI (vSup W M D n b (dNl M D)) - nI (vMx W M D n b (dNl M D))
def vBig (W : Nat → Nat) (M : gM) (D i n : Nat) : Prop := vVt M D i n ≠ -1 ∧ ¬ ((100 : Int32) * nI (vSup W M D n (vVt M D i n).toNatClampNeg (dNl M D)) < gi M D 3 * nI (vTot W M D n (dNl M D)))
def vBd (W : Nat → Nat) (M : gM) (D i n : Nat) : Int32 := if dRk M D i = -1 then -1 else if dKp M D i = 1 ∧ vVt M D i n ≠ -1 ∧ ¬ ((100 : Int32) * nI (vSup W M D n (vVt M D i n).toNatClampNeg (dNl M D)) < gi M D 3 * nI (vTot W M D n (dNl M D))) then vVt M D i n else vWin W M D n
def vSp (W : Nat → Nat) (M : gM) (D i n : Nat) : Int32 := if vCd M D i n then nI (vSup W M D n i (dNl M D)) else -1
section PSP
variable {T : gT} {M N : gM} {D D' i n t : Nat} {W W' : Nat → Nat}
theorem vSup_le (hW : ∀ k, W k ≤ 9999) (t : Nat) : vSup W M D n i t ≤ 9999 * t := sumN_le (fun k => by
  split
  · exact hW k
  · exact Nat.zero_le _) t
theorem vTot_le (hW : ∀ k, W k ≤ 9999) (t : Nat) : vTot W M D n t ≤ 9999 * t := sumN_le (fun k => by
  split
  · exact Nat.zero_le _
  · exact hW k) t
theorem dNl_same (h : dSame N D M D') : dNl N D = dNl M D' := congrArg Int32.toNatClampNeg (h.hd (Or.inl rfl))
theorem dNn_same (h : dSame N D M D') : dNn N D = dNn M D' := congrArg Int32.toNatClampNeg (h.hd (Or.inr (Or.inl rfl)))
theorem dRk_same (h : dSame N D M D') (hi : i < 8) : dRk N D i = dRk M D' i := h.lib hi (Or.inr (Or.inr (Or.inl rfl)))
theorem dKp_same (h : dSame N D M D') (hi : i < 8) : dKp N D i = dKp M D' i := h.lib hi (Or.inr (Or.inl rfl))
theorem dTr_same (h : dSame N D M D') (hi : i < 8) : dTr N D i = dTr M D' i := h.lib hi (Or.inl rfl)
theorem dPk_same (h : dSame N D M D') (hi : i < 8) : dPk N D i = dPk M D' i := congrArg Int32.toNatClampNeg (h.lib hi (Or.inr (Or.inr (Or.inr rfl))))
theorem vCd_same (h : dSame N D M D') (hi : i < 8) (hn : n < 12) : vCd N D i n = vCd M D' i n := by
  unfold vCd
  rw [dRk_same h hi, h.off hi hn]
/-- a preference of a well-formed library -/
theorem gPr (hV : gVal T M D) (hi : i < dNl M D) {k : Nat} (hk : k < dPk M D i) : k < 8 ∧ dPr M D i k = nI (dPr M D i k).toNatClampNeg ∧ (dPr M D i k).toNatClampNeg < dNl M D := by
  obtain ⟨-, h8, -, -, -, hL⟩ := hV
  obtain ⟨-, -, -, ⟨-, h5⟩, h6, -⟩ := hL i hi
  obtain ⟨q, hq, e⟩ := h6 k hk
  refine ⟨by omega, ?_, ?_⟩
  · rw [e, nI_clamp (by omega)]
  · rw [e, nI_clamp (by omega)]
    exact hq
theorem vVt_same (h : dSame N D M D') (hV : gVal T M D') (hi : i < dNl M D') (hn : n < 12) : vVt N D i n = vVt M D' i n := by
  have h8 := hV.2.1
  have hi8 : i < 8 := by omega
  unfold vVt
  rw [dRk_same h hi8, h.off hi8 hn, dPk_same h hi8]
  have e : fstN (fun k => decide (vCd N D (dPr N D i k).toNatClampNeg n)) (dPk M D' i) = fstN (fun k => decide (vCd M D' (dPr M D' i k).toNatClampNeg n)) (dPk M D' i) := fstN_ext (fun k hk => by
    obtain ⟨q1, -, q3⟩ := gPr hV hi hk
    have e1 : dPr N D i k = dPr M D' i k := h.prf hi8 q1
    have e2 := vCd_same (n := n) h (show (dPr M D' i k).toNatClampNeg < 8 by omega) hn
    rw [e1]
    exact decide_eq_decide.mpr (iff_of_eq e2))
  rw [e]
  cases hf : fstN (fun k => decide (vCd M D' (dPr M D' i k).toNatClampNeg n)) (dPk M D' i) with
  | none => rfl
  | some k =>
    have hk : k < dPk M D' i := by
      have : ∀ (c : Nat → Bool) (m : Nat), fstN c m = some k → k < m := by
        intro c m
        induction m with
        | zero => intro q; cases q
        | succ m ih =>
          intro q
          unfold fstN at q
          cases hc : fstN c m with
          | none =>
            rw [hc] at q
            dsimp only at q
            split at q
            · cases q; omega
            · cases q
          | some z =>
            rw [hc] at q
            cases q
            have := ih hc
            omega
      exact this _ _ hf
    have q1 := (gPr hV hi hk).1
    dsimp only
    rw [show dPr N D i k = dPr M D' i k from h.prf hi8 q1]
theorem vFr_same (h : dSame N D M D') (hV : gVal T M D') {x : Int32} : vFr N D x = vFr M D' x := by
  have h8 := hV.2.1
  unfold vFr
  rw [dNl_same h]
  refine cntN_ext (fun k hk => ?_)
  have hk8 : k < 8 := by omega
  rw [dRk_same h hk8, dPk_same h hk8, anyN_ext (fun j hj => by
    rw [show dPr N D k j = dPr M D' k j from h.prf hk8 (gPr hV hk hj).1])]
theorem vQ_same (h : dSame N D M D') (hV : gVal T M D') (hi : i < dNl M D') : vQ N D i = vQ M D' i := by
  have h8 := hV.2.1
  have hi8 : i < 8 := by omega
  funext q
  unfold vQ
  rw [dTr_same h hi8, dRk_same h hi8, vFr_same h hV, cntN_ext (fun k hk => by rw [show dOf N D i k = dOf M D' i k from h.off hi8 hk])]
theorem vSup_same (h : dSame N D M D') (hV : gVal T M D') (hn : n < 12) (hW : ∀ i, i < dNl M D' → W i = W' i) (ht : t ≤ dNl M D') : vSup W N D n i t = vSup W' M D' n i t := sumN_ext (fun k hk => by
  rw [vVt_same h hV (by omega) hn, hW k (by omega)])
theorem vTot_same (h : dSame N D M D') (hV : gVal T M D') (hn : n < 12) (hW : ∀ i, i < dNl M D' → W i = W' i) (ht : t ≤ dNl M D') : vTot W N D n t = vTot W' M D' n t := sumN_ext (fun k hk => by
  rw [vVt_same h hV (by omega) hn, hW k (by omega)])
theorem vBest_lt {b : Nat} : ∀ {t : Nat}, vBest W M D n t = some b → b < t ∧ vCd M D b n
  | 0, h => by cases h
  | t + 1, h => by
    unfold vBest at h
    split at h
    next hc =>
      cases hb : vBest W M D n t with
      | none =>
        rw [hb] at h
        cases h
        exact ⟨by omega, hc⟩
      | some z =>
        rw [hb] at h
        dsimp only at h
        split at h
        · cases h
          exact ⟨by omega, hc⟩
        · cases h
          have := vBest_lt hb
          exact ⟨by omega, this.2⟩
    next =>
      have := vBest_lt h
      exact ⟨by omega, this.2⟩
theorem vBest_same (h : dSame N D M D') (hV : gVal T M D') (hn : n < 12) (hW : ∀ i, i < dNl M D' → W i = W' i) : ∀ {t : Nat}, t ≤ dNl M D' → vBest W N D n t = vBest W' M D' n t
  | 0, _ => rfl
  | t + 1, ht => by
    have h8 := hV.2.1
    have ih := vBest_same h hV hn hW (show t ≤ dNl M D' by omega)
    unfold vBest
    rw [ih]
    simp only [dNl_same h, vSup_same h hV hn hW (Nat.le_refl _), vCd_same h (show t < 8 by omega) hn, dRk_same h (show t < 8 by omega)]
    cases hb : vBest W' M D' n t with
    | none => rfl
    | some b =>
      have := vBest_lt hb
      simp only [dRk_same h (show b < 8 by omega)]
theorem vMx_same {b : Nat} (h : dSame N D M D') (hV : gVal T M D') (hn : n < 12) (hW : ∀ i, i < dNl M D' → W i = W' i) : ∀ {t : Nat}, t ≤ dNl M D' → vMx W N D n b t = vMx W' M D' n b t
  | 0, _ => rfl
  | t + 1, ht => by
    have h8 := hV.2.1
    have ih := vMx_same (b := b) h hV hn hW (show t ≤ dNl M D' by omega)
    unfold vMx
    rw [ih]
    simp only [dNl_same h, vSup_same h hV hn hW (Nat.le_refl _), vCd_same h (show t < 8 by omega) hn]
theorem vWin_same (h : dSame N D M D') (hV : gVal T M D') (hn : n < 12) (hW : ∀ i, i < dNl M D' → W i = W' i) : vWin W N D n = vWin W' M D' n := by
  unfold vWin
  rw [dNl_same h, vBest_same h hV hn hW (Nat.le_refl _)]
theorem vMar_same (h : dSame N D M D') (hV : gVal T M D') (hn : n < 12) (hW : ∀ i, i < dNl M D' → W i = W' i) : vMar W N D n = vMar W' M D' n := by
  unfold vMar
  rw [dNl_same h, vBest_same h hV hn hW (Nat.le_refl _)]
  simp only [vSup_same h hV hn hW (Nat.le_refl _), vMx_same h hV hn hW (Nat.le_refl _)]
theorem vBd_same (h : dSame N D M D') (hV : gVal T M D') (hi : i < dNl M D') (hn : n < 12) (hW : ∀ i, i < dNl M D' → W i = W' i) : vBd W N D i n = vBd W' M D' i n := by
  have h8 := hV.2.1
  unfold vBd
  rw [dNl_same h, vWin_same h hV hn hW, vVt_same h hV hi hn, vTot_same h hV hn hW (Nat.le_refl _), vSup_same h hV hn hW (Nat.le_refl _), dRk_same h (show i < 8 by omega), dKp_same h (show i < 8 by omega), h.hd (Or.inr (Or.inr rfl))]
theorem vSp_same (h : dSame N D M D') (hV : gVal T M D') (hi : i < dNl M D') (hn : n < 12) (hW : ∀ i, i < dNl M D' → W i = W' i) : vSp W N D i n = vSp W' M D' i n := by
  have h8 := hV.2.1
  unfold vSp
  simp only [dNl_same h, vSup_same h hV hn hW (Nat.le_refl _), vCd_same h (show i < 8 by omega) hn]
/-- a vote is of a loaded library that offers the name -/
theorem vVt_ok (hV : gVal T M D) (hi : i < dNl M D) (hv : vVt M D i n ≠ -1) : ∃ c, c < dNl M D ∧ vVt M D i n = nI c ∧ vCd M D c n := by
  unfold vVt at hv ⊢
  split at hv
  · exact absurd rfl hv
  next h1 =>
    rw [if_neg h1]
    split at hv
    next h2 =>
      rw [if_pos h2]
      exact ⟨i, hi, rfl, fun q => q.elim h1 h2⟩
    next h2 =>
      rw [if_neg h2]
      have key : ∀ (c : Nat → Bool) (m k : Nat), fstN c m = some k → k < m ∧ c k = true := by
        intro c m k
        induction m with
        | zero => intro q; cases q
        | succ m ih =>
          intro q
          unfold fstN at q
          cases hc : fstN c m with
          | none =>
            rw [hc] at q
            dsimp only at q
            split at q
            next hcm => cases q; exact ⟨by omega, hcm⟩
            · cases q
          | some z =>
            rw [hc] at q
            cases q
            have := ih hc
            exact ⟨by omega, this.2⟩
      cases hf : fstN (fun k => decide (vCd M D (dPr M D i k).toNatClampNeg n)) (dPk M D i) with
      | none =>
        rw [hf] at hv
        exact absurd rfl hv
      | some k =>
        obtain ⟨k1, k2⟩ := key _ _ _ hf
        obtain ⟨-, q2, q3⟩ := gPr hV hi k1
        exact ⟨_, q3, q2, of_decide_eq_true k2⟩
end PSP
