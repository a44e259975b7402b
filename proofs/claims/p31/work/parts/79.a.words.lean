/-! TEXTS: bytes, runs, words as numbers, numbers. B: the bytes of the text, n: its length -/
/-- a byte as the class holds it -/
def cB (b : Nat) : Int32 := if b < 128 then nI b else nI b - 256
abbrev isL (b : Nat) : Prop := 97 ≤ b ∧ b ≤ 122
abbrev isD (b : Nat) : Prop := 48 ≤ b ∧ b ≤ 57
theorem cB_L : ∀ b, b < 256 → ((¬ cB b < 97 ∧ ¬ (122 : Int32) < cB b) ↔ isL b) := by decide +kernel
theorem cB_D : ∀ b, b < 256 → ((¬ cB b < 48 ∧ ¬ (57 : Int32) < cB b) ↔ isD b) := by decide +kernel
theorem cB_s : ∀ b, b < 256 → (cB b = 32 ↔ b = 32) := by decide +kernel
theorem cB_lo : ∀ b, b < 128 → cB b = nI b := by decide +kernel
theorem cB_sg : ∀ b, b < 256 → ∀ c, c < 128 → (cB b = nI c ↔ b = c) := by decide +kernel
theorem cB_dg : ∀ b, b < 128 → 48 ≤ b → cB b - 48 = nI (b - 48) := by decide +kernel
theorem cB_8 : ∀ b, b < 256 → (nI b).toInt8.toInt32 = cB b := by decide +kernel
theorem cB_of {x : Int32} (hx : x.toInt8.toInt32 = x) : ∃ b, b < 256 ∧ x = cB b ∧ x &&& 255 = nI b := by
  obtain ⟨b, hb, e⟩ := pk_andE x (m := 255) 8 (by decide)
  exact ⟨b, hb, ((sc_eq hx hb).mpr e).trans (cB_8 b hb), e⟩
theorem rb_in {b : Nat} (hb : b < 256) (lo hi : Nat) (hl : lo < 1000) (hh : hi < 1000) : (¬ nI b < nI lo ∧ ¬ nI hi < nI b) ↔ (lo ≤ b ∧ b ≤ hi) := by
  rw [nI_ltI (by omega) (by omega), nI_ltI (by omega) (by omega)]
  omega
/-- g s .. g (s + l - 1) as digits to the base K -/
def vl (K : Nat) (g : Nat → Nat) (s : Nat) : Nat → Nat
  | 0 => 0
  | l + 1 => vl K g s l * K + g (s + l)
theorem vl_lt {K : Nat} {g : Nat → Nat} {s : Nat} (hK : 0 < K) : ∀ {l : Nat}, (∀ j, j < l → g (s + j) < K) → vl K g s l < K ^ l
  | 0, _ => by
    show 0 < K ^ 0
    rw [Nat.pow_zero]
    omega
  | l + 1, h => by
    have ih := vl_lt (g := g) (s := s) hK (l := l) (fun j hj => h j (by omega))
    have h1 := h l (by omega)
    show vl K g s l * K + g (s + l) < K ^ (l + 1)
    have h2 : (vl K g s l + 1) * K ≤ K ^ l * K := Nat.mul_le_mul_right K ih
    rw [Nat.add_mul, Nat.one_mul] at h2
    rw [Nat.pow_succ]
    omega
theorem vl_inj {K : Nat} {g g' : Nat → Nat} {s s' : Nat} (hK : 0 < K) : ∀ {l l' : Nat}, (∀ j, j < l → 0 < g (s + j) ∧ g (s + j) < K) → (∀ j, j < l' → 0 < g' (s' + j) ∧ g' (s' + j) < K) → vl K g s l = vl K g' s' l' → l = l' ∧ ∀ j, j < l → g (s + j) = g' (s' + j)
  | 0, 0, _, _, _ => ⟨rfl, fun j hj => absurd hj (Nat.not_lt_zero j)⟩
  | 0, l' + 1, _, h', e => by
    have h2 := h' l' (by omega)
    have e2 : 0 = vl K g' s' l' * K + g' (s' + l') := e
    omega
  | l + 1, 0, h, _, e => by
    have h2 := h l (by omega)
    have e2 : vl K g s l * K + g (s + l) = 0 := e
    omega
  | l + 1, l' + 1, h, h', e => by
    have h1 := h l (by omega)
    have h2 := h' l' (by omega)
    have e2 : vl K g s l * K + g (s + l) = vl K g' s' l' * K + g' (s' + l') := e
    have m1 : (vl K g s l * K + g (s + l)) % K = g (s + l) := by
      rw [Nat.mul_comm, Nat.mul_add_mod, Nat.mod_eq_of_lt h1.2]
    have m2 : (vl K g' s' l' * K + g' (s' + l')) % K = g' (s' + l') := by
      rw [Nat.mul_comm, Nat.mul_add_mod, Nat.mod_eq_of_lt h2.2]
    have eg : g (s + l) = g' (s' + l') := by rw [← m1, ← m2, e2]
    have ev : vl K g s l = vl K g' s' l' := by
      have : vl K g s l * K = vl K g' s' l' * K := by omega
      exact Nat.eq_of_mul_eq_mul_right hK this
    obtain ⟨i1, i2⟩ := vl_inj hK (fun j hj => h j (by omega)) (fun j hj => h' j (by omega)) ev
    subst i1
    refine ⟨rfl, fun j hj => ?_⟩
    by_cases ej : j = l
    · rw [ej]
      exact eg
    · exact i2 j (by omega)
theorem vl_ext {K : Nat} {g g' : Nat → Nat} {s s' : Nat} : ∀ {l : Nat}, (∀ j, j < l → g (s + j) = g' (s' + j)) → vl K g s l = vl K g' s' l
  | 0, _ => rfl
  | l + 1, h => by
    show vl K g s l * K + g (s + l) = vl K g' s' l * K + g' (s' + l)
    rw [vl_ext (l := l) (fun j hj => h j (by omega)), h l (by omega)]
/-- the number that digits tell, at most a million -/
def nv (B : Nat → Nat) (s : Nat) : Nat → Nat
  | 0 => 0
  | l + 1 => min 1000000 (nv B s l * 10 + (B (s + l) - 48))
theorem nv_le {B : Nat → Nat} {s : Nat} : ∀ l, nv B s l ≤ 1000000
  | 0 => Nat.zero_le _
  | l + 1 => Nat.min_le_left _ _
/-- longs -/
theorem lN_tb (n : Nat) : (lN n).toBitVec = BitVec.ofNat 64 n := rfl
theorem lN_inj {a b : Nat} (ha : a < 2 ^ 63) (hb : b < 2 ^ 63) : lN a = lN b ↔ a = b := by
  constructor
  · intro h
    have e : (lN a).toBitVec.toNat = (lN b).toBitVec.toNat := by rw [h]
    rw [lN_tb, lN_tb, BitVec.toNat_ofNat, BitVec.toNat_ofNat, Nat.mod_eq_of_lt (by omega), Nat.mod_eq_of_lt (by omega)] at e
    exact e
  · rintro rfl
    rfl
theorem sh8_c : (((8 : Int32)).toInt64 &&& 63) = lN 8 := by decide +kernel
theorem sh8_sm : (BitVec.ofNat 64 8).smod 64 = BitVec.ofNat 64 8 := by decide +kernel
theorem lN_sh8 {v b : Nat} (hv : v < 2 ^ 55) (hb : b < 128) : (lN v <<< (((8 : Int32)).toInt64 &&& 63)) ||| (nI b).toInt64 = lN (v * 256 + b) := by
  rw [sh8_c, nI_l (by omega)]
  apply Int64.toBitVec_inj.mp
  rw [Int64.toBitVec_or, Int64.toBitVec_shiftLeft, lN_tb, lN_tb, lN_tb, lN_tb, sh8_sm]
  apply BitVec.eq_of_toNat_eq
  rw [BitVec.toNat_or, BitVec.shiftLeft_eq', BitVec.toNat_shiftLeft, BitVec.toNat_ofNat, BitVec.toNat_ofNat, BitVec.toNat_ofNat, BitVec.toNat_ofNat, Nat.mod_eq_of_lt (show 8 < 2 ^ 64 by omega), Nat.mod_eq_of_lt (show v < 2 ^ 64 by omega), Nat.mod_eq_of_lt (show b < 2 ^ 64 by omega), Nat.shiftLeft_eq, Nat.mod_eq_of_lt (show v * 2 ^ 8 < 2 ^ 64 by omega), Nat.mod_eq_of_lt (show v * 256 + b < 2 ^ 64 by omega)]
  have h := Nat.two_pow_add_eq_or_of_lt (i := 8) (b := b) (by omega) v
  rw [Nat.mul_comm (2 ^ 8) v] at h
  rw [← h]
theorem lN_27 {v b : Nat} (h1 : 97 ≤ b) (h2 : b ≤ 122) (hv : v < 2 ^ 50) : ((((27 : Int64) * lN v) + (nI b).toInt64) - (97 : Int64)) + (1 : Int64) = lN (v * 27 + (b - 96)) := by
  have e0 : ∀ n : Nat, lN n = iL (n : Int) := fun n => (Int64.ofInt_eq_ofNat (n := n)).symm
  rw [nI_l (by omega), e0, e0, e0, show (27 : Int64) = iL 27 from rfl, show (97 : Int64) = iL 97 from rfl, show (1 : Int64) = iL 1 from rfl]
  unfold iL
  rw [← Int64.ofInt_mul, ← Int64.ofInt_add, ← Int64.ofInt_sub, ← Int64.ofInt_add]
  congr 1
  omega
/-- a run of c from s to e -/
def rnn (c : Nat → Prop) (B : Nat → Nat) (n s e : Nat) : Prop := s < e ∧ e ≤ n ∧ (∀ j, s ≤ j → j < e → c (B j)) ∧ (e = n ∨ ¬ c (B e))
theorem rnn_uniq {c : Nat → Prop} {B : Nat → Nat} {n s e e' : Nat} (h : rnn c B n s e) (h' : rnn c B n s e') : e = e' := by
  obtain ⟨a1, a2, a3, a4⟩ := h
  obtain ⟨b1, b2, b3, b4⟩ := h'
  rcases Nat.lt_trichotomy e e' with q | q | q
  · rcases a4 with z | z
    · omega
    · exact absurd (b3 e (by omega) q) z
  · exact q
  · rcases b4 with z | z
    · omega
    · exact absurd (a3 e' (by omega) q) z
/-- from p the next thing is at s -/
def Sy (B : Nat → Nat) (n p s : Nat) : Prop := p ≤ s ∧ s ≤ n ∧ (∀ j, p ≤ j → j < s → B j = 32) ∧ (s = n ∨ B s ≠ 32)
