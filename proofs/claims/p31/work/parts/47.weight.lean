/-! WEIGHTS: whole numbers of both signs; the operations of both sides -/
def iI (z : Int) : Int32 := Int32.ofInt z
def iL (z : Int) : Int64 := Int64.ofInt z
theorem iI_N (n : Nat) : iI (n : Int) = nI n := Int32.ofInt_eq_ofNat
theorem iL_toInt {z : Int} (h1 : -4000000000000000000 ≤ z) (h2 : z ≤ 4000000000000000000) : (iL z).toInt = z := Int64.toInt_ofInt_of_le (by omega) (by omega)
theorem iI_toInt {z : Int} (h1 : -1000000000 ≤ z) (h2 : z ≤ 1000000000) : (iI z).toInt = z := Int32.toInt_ofInt_of_le (by omega) (by omega)
theorem iI_L {z : Int} (h1 : -1000000000 ≤ z) (h2 : z ≤ 1000000000) : (iI z).toInt64 = iL z := Int32.toInt64_ofInt (by rw [show Int32.minValue.toInt = -2147483648 from rfl]; omega) (by rw [show Int32.maxValue.toInt = 2147483647 from rfl]; omega)
theorem iL_I {z : Int} : (iL z).toInt32 = iI z := Int64.toInt32_ofInt
/-- within a million -/
def cl (z : Int) : Int := if z < -1000000 then -1000000 else if 1000000 < z then 1000000 else z
def opr (o : Nat) (a b : Int) : Int := if o = 2 then cl (a + b) else if o = 3 then cl (a - b) else if o = 4 then cl (a * b) else if b = 0 then 0 else a.tdiv b
theorem cl_in (z : Int) : -1000000 ≤ cl z ∧ cl z ≤ 1000000 := by
  unfold cl
  split
  · omega
  · split <;> omega
theorem cl_id {z : Int} (h1 : -1000000 ≤ z) (h2 : z ≤ 1000000) : cl z = z := by
  unfold cl
  rw [if_neg (by omega), if_neg (by omega)]
theorem tdiv_in {a b : Int} (h1 : -1000000 ≤ a) (h2 : a ≤ 1000000) : -1000000 ≤ a.tdiv b ∧ a.tdiv b ≤ 1000000 := by
  have := Int.natAbs_tdiv_le_natAbs a b
  omega
theorem mul_in {a b : Int} (h1 : -1000000 ≤ a) (h2 : a ≤ 1000000) (h3 : -1000000 ≤ b) (h4 : b ≤ 1000000) : -1000000000000 ≤ a * b ∧ a * b ≤ 1000000000000 := by
  have e := Int.natAbs_mul a b
  have f : a.natAbs * b.natAbs ≤ 1000000 * 1000000 := Nat.mul_le_mul (by omega) (by omega)
  omega
theorem opr_in {o : Nat} {a b : Int} (h1 : -1000000 ≤ a) (h2 : a ≤ 1000000) : -1000000 ≤ opr o a b ∧ opr o a b ≤ 1000000 := by
  unfold opr
  split
  · exact cl_in _
  · split
    · exact cl_in _
    · split
      · exact cl_in _
      · split
        · omega
        · exact tdiv_in h1 h2
theorem opr2 {a b : Int} : opr 2 a b = cl (a + b) := by
  unfold opr
  rw [if_pos rfl]
theorem opr3 {a b : Int} : opr 3 a b = cl (a - b) := by
  unfold opr
  rw [if_neg (by decide), if_pos rfl]
theorem opr4 {a b : Int} : opr 4 a b = cl (a * b) := by
  unfold opr
  rw [if_neg (by decide), if_neg (by decide), if_pos rfl]
theorem opr5 {a b : Int} : opr 5 a b = if b = 0 then 0 else a.tdiv b := by
  unfold opr
  rw [if_neg (by decide), if_neg (by decide), if_neg (by decide)]
section PWO
variable {T : gT} {M : gM}
theorem c_limG {z : Int} {lo hi : Int32} (h1 : -4000000000000000000 ≤ z) (h2 : z ≤ 4000000000000000000) (hlh : lo.toInt ≤ hi.toInt) : f_X7_limited T M (iL z) lo hi = some (iI (if z < lo.toInt then lo.toInt else if hi.toInt < z then hi.toInt else z)) := by
  unfold f_X7_limited
  have el : lo.toInt64.toInt = lo.toInt := Int32.toInt_toInt64 lo
  have eh : hi.toInt64.toInt = hi.toInt := Int32.toInt_toInt64 hi
  have ez := iL_toInt h1 h2
  have rl : iI lo.toInt = lo := Int32.ofInt_toInt lo
  have rh : iI hi.toInt = hi := Int32.ofInt_toInt hi
  by_cases c1 : z < hi.toInt
  · rw [show lmin hi.toInt64 (iL z) = iL z from if_pos (by rw [Int64.lt_iff_toInt_lt, ez, eh]; exact c1)]
    by_cases c2 : z < lo.toInt
    · rw [show lmax lo.toInt64 (iL z) = lo.toInt64 from if_pos (by rw [Int64.lt_iff_toInt_lt, ez, el]; exact c2), if_pos c2, rl, Int32.toInt32_toInt64]
    · rw [show lmax lo.toInt64 (iL z) = iL z from if_neg (by rw [Int64.lt_iff_toInt_lt, ez, el]; exact c2), if_neg c2, if_neg (by omega), iL_I]
  · rw [show lmin hi.toInt64 (iL z) = hi.toInt64 from if_neg (by rw [Int64.lt_iff_toInt_lt, ez, eh]; exact c1)]
    rw [show lmax lo.toInt64 hi.toInt64 = hi.toInt64 from if_neg (by rw [Int64.lt_iff_toInt_lt, eh, el]; omega), Int32.toInt32_toInt64, if_neg (by omega)]
    by_cases c3 : hi.toInt < z
    · rw [if_pos c3, rh]
    · rw [if_neg c3, show z = hi.toInt by omega, rh]
theorem c_lim {z : Int} (h1 : -4000000000000000000 ≤ z) (h2 : z ≤ 4000000000000000000) : f_X7_limited T M (iL z) (-1000000 : Int32) (1000000 : Int32) = some (iI (cl z)) := c_limG h1 h2 (by decide)
theorem c_67 {z : Int} (h1 : -4000000000000000000 ≤ z) (h2 : z ≤ 4000000000000000000) : f_X7_operate_67 T M (iL z) = some (iI (cl z)) := by
  unfold f_X7_operate_67
  rw [c_lim h1 h2, Option.bind_some]
theorem iL_0 {b : Int} (h1 : -1000000 ≤ b) (h2 : b ≤ 1000000) : iL b = 0 ↔ b = 0 := by
  constructor
  · intro h
    have e : (iL b).toInt = 0 := by rw [h]; rfl
    rwa [iL_toInt (by omega) (by omega)] at e
  · rintro rfl
    rfl
theorem iL_div {a b : Int} (h1 : -1000000 ≤ a) (h2 : a ≤ 1000000) (h3 : -1000000 ≤ b) (h4 : b ≤ 1000000) : iL a / iL b = iL (a.tdiv b) := by
  have e1 : Int64.minValue.toInt = -9223372036854775808 := rfl
  have e2 : Int64.maxValue.toInt = 9223372036854775807 := rfl
  exact (Int64.ofInt_tdiv (by omega) (by omega) (by omega) (by omega)).symm
theorem c_opr {o : Nat} (ho : 2 ≤ o ∧ o ≤ 5) {a b : Int} (h1 : -1000000 ≤ a) (h2 : a ≤ 1000000) (h3 : -1000000 ≤ b) (h4 : b ≤ 1000000) : f_X7_operate T M (-3 - nI o) (iL a) (iL b) = some (iI (opr o a b)) := by
  have hm := mul_in h1 h2 h3 h4
  obtain ⟨ho1, ho2⟩ := ho
  unfold f_X7_operate
  rcases (show o = 2 ∨ o = 3 ∨ o = 4 ∨ o = 5 by omega) with rfl | rfl | rfl | rfl
  · rw [if_neg (by decide), if_neg (by decide), if_pos (by decide), show iL a + iL b = iL (a + b) from (Int64.ofInt_add a b).symm, c_67 (by omega) (by omega), opr2]
  · rw [if_neg (by decide), if_pos (by decide), show iL a - iL b = iL (a - b) from (Int64.ofInt_sub a b).symm, c_67 (by omega) (by omega), opr3]
  · rw [if_pos (by decide), show iL a * iL b = iL (a * b) from (Int64.ofInt_mul a b).symm, c_67 (by omega) (by omega), opr4]
  · rw [if_neg (by decide), if_neg (by decide), if_neg (by decide), opr5]
    unfold f_X7_operate_65
    by_cases hb : b = 0
    · subst hb
      rw [if_neg (fun q => q ((lg_cmp_eq _ _).mpr ((iL_0 h3 h4).mpr rfl))), show (0 : Int64) = iL 0 from ((iL_0 h3 h4).mpr rfl).symm, c_67 (by omega) (by omega), if_pos rfl, cl_id (by omega) (by omega)]
    · have nb : ¬ iL b = 0 := fun q => hb ((iL_0 h3 h4).mp q)
      have ht := tdiv_in (b := b) h1 h2
      rw [if_pos (fun q => nb ((lg_cmp_eq _ _).mp q)), chk_ok nb, Option.bind_some, iL_div h1 h2 h3 h4, c_67 (by omega) (by omega), cl_id ht.1 ht.2, if_neg hb]
end PWO
