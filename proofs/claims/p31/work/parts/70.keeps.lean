/-! SETKEEPS: no other library's binding is another one then -/
section PKE
variable {T : gT} {M N : gM} {k : Nat → Nat × Nat} {m C nx sz a : Nat} {i x : Int32} {W : Nat → Nat}
theorem kRk {q : Nat} : dRk (si M (37 + 5 + 3 * a) 1 x) 37 q = dRk M 37 q := by
  show gi (si M (37 + 5 + 3 * a) 1 x) (37 + 5 + 3 * q) 2 = _
  rw [gi_si, if_neg (by omega)]
theorem kTr {q : Nat} : dTr (si M (37 + 5 + 3 * a) 1 x) 37 q = dTr M 37 q := by
  show gi (si M (37 + 5 + 3 * a) 1 x) (37 + 5 + 3 * q) 0 = _
  rw [gi_si, if_neg (by omega)]
theorem kPk {q : Nat} : dPk (si M (37 + 5 + 3 * a) 1 x) 37 q = dPk M 37 q := by
  show (gi (si M (37 + 5 + 3 * a) 1 x) (37 + 5 + 3 * q) 5).toNatClampNeg = _
  rw [gi_si, if_neg (by omega)]
theorem kOf {q n : Nat} : dOf (si M (37 + 5 + 3 * a) 1 x) 37 q n = dOf M 37 q n := by
  show gi (si M (37 + 5 + 3 * a) 1 x) (37 + 6 + 3 * q) n = _
  rw [gi_si, if_neg (by omega)]
theorem kPr {q n : Nat} : dPr (si M (37 + 5 + 3 * a) 1 x) 37 q n = dPr M 37 q n := by
  show gi (si M (37 + 5 + 3 * a) 1 x) (37 + 7 + 3 * q) n = _
  rw [gi_si, if_neg (by omega)]
theorem kNl : dNl (si M (37 + 5 + 3 * a) 1 x) 37 = dNl M 37 := by
  show (gi (si M (37 + 5 + 3 * a) 1 x) 37 1).toNatClampNeg = _
  rw [gi_si, if_neg (by omega)]
theorem kNn : dNn (si M (37 + 5 + 3 * a) 1 x) 37 = dNn M 37 := by
  show (gi (si M (37 + 5 + 3 * a) 1 x) 37 2).toNatClampNeg = _
  rw [gi_si, if_neg (by omega)]
theorem kKp {q : Nat} (h : q ≠ a) : dKp (si M (37 + 5 + 3 * a) 1 x) 37 q = dKp M 37 q := by
  show gi (si M (37 + 5 + 3 * a) 1 x) (37 + 5 + 3 * q) 1 = _
  rw [gi_si, if_neg (by omega)]
theorem kCd {q n : Nat} : vCd (si M (37 + 5 + 3 * a) 1 x) 37 q n = vCd M 37 q n := by
  unfold vCd
  rw [kRk, kOf]
theorem kVt {q n : Nat} : vVt (si M (37 + 5 + 3 * a) 1 x) 37 q n = vVt M 37 q n := by
  unfold vVt
  rw [kRk, kOf, kPk]
  have e : (fun k => decide (vCd (si M (37 + 5 + 3 * a) 1 x) 37 (dPr (si M (37 + 5 + 3 * a) 1 x) 37 q k).toNatClampNeg n)) = fun k => decide (vCd M 37 (dPr M 37 q k).toNatClampNeg n) := by
    funext k
    exact decide_eq_decide.mpr (by rw [kPr, kCd])
  rw [e]
  cases fstN (fun k => decide (vCd M 37 (dPr M 37 q k).toNatClampNeg n)) (dPk M 37 q) with
  | none => rfl
  | some k =>
    dsimp only
    rw [kPr]
theorem kFr {y : Int32} : vFr (si M (37 + 5 + 3 * a) 1 x) 37 y = vFr M 37 y := by
  unfold vFr
  rw [kNl]
  refine cntN_ext (fun k _ => ?_)
  rw [kRk, kPk, anyN_ext (fun j _ => by rw [kPr])]
theorem kW : vW (si M (37 + 5 + 3 * a) 1 x) 37 k m = vW M 37 k m := by
  funext q
  unfold vW
  have e : vQ (si M (37 + 5 + 3 * a) 1 x) 37 q = vQ M 37 q := by
    funext z
    unfold vQ
    rw [kTr, kRk, kFr, cntN_ext (fun n _ => by rw [kOf])]
  rw [e]
theorem kSup {n c t : Nat} : vSup W (si M (37 + 5 + 3 * a) 1 x) 37 n c t = vSup W M 37 n c t := sumN_ext (fun q _ => by rw [kVt])
theorem kTot {n t : Nat} : vTot W (si M (37 + 5 + 3 * a) 1 x) 37 n t = vTot W M 37 n t := sumN_ext (fun q _ => by rw [kVt])
theorem kBest {n : Nat} : ∀ {t : Nat}, vBest W (si M (37 + 5 + 3 * a) 1 x) 37 n t = vBest W M 37 n t
  | 0 => rfl
  | t + 1 => by
    unfold vBest
    rw [kBest (t := t)]
    simp only [kNl, kSup, kCd, kRk]
theorem kBd {n q : Nat} (h : q ≠ a) : vBd W (si M (37 + 5 + 3 * a) 1 x) 37 q n = vBd W M 37 q n := by
  unfold vBd vWin
  rw [kNl, kBest, kVt, kTot, kSup, kRk, kKp h, show gi (si M (37 + 5 + 3 * a) 1 x) 37 3 = gi M 37 3 by rw [gi_si, if_neg (by omega)]]
theorem cntN_none {c : Nat → Bool} : ∀ {n : Nat}, (∀ k, k < n → c k = false) → cntN c n = 0
  | 0, _ => rfl
  | n + 1, h => by
    unfold cntN
    rw [cntN_none (fun k hk => h k (by omega)), h n (by omega)]
    rfl
end PKE
