/-! FUNCTIONS ALONE: loops, reads and writes that succeed -/
theorem gloop_from {α β : Type} {B : α → Option (β ⊕ α)} (st : Nat → α) (n : Nat) {e : β} (step : ∀ i, i < n → B (st i) = some (.inr (st (i + 1)))) (last : B (st n) = some (.inl e)) : ∀ (m k fu : Nat), k + m = n → m < fu → gloop B fu (st k) = some e
  | 0, k, fu, hk, hf => by
    obtain ⟨f, rfl⟩ : ∃ f, fu = f + 1 := ⟨fu - 1, by omega⟩
    rw [show k = n by omega]
    unfold gloop
    rw [last]
  | m + 1, k, fu, hk, hf => by
    obtain ⟨f, rfl⟩ : ∃ f, fu = f + 1 := ⟨fu - 1, by omega⟩
    unfold gloop
    rw [step k (by omega)]
    exact gloop_from st n step last m (k + 1) f (by omega) (by omega)
/-- a loop whose states are known: st 0 .. st n, and it leaves at st n with e -/
theorem gloop_for {α β : Type} {B : α → Option (β ⊕ α)} {fu : Nat} {e : β} (st : Nat → α) (n : Nat) (hf : n < fu) (step : ∀ i, i < n → B (st i) = some (.inr (st (i + 1)))) (last : B (st n) = some (.inl e)) : gloop B fu (st 0) = some e := gloop_from st n step last n 0 fu (Nat.zero_add n) hf
/-- a loop with an invariant that counts its rounds -/
theorem gloop_inv {α β : Type} {B : α → Option (β ⊕ α)} {P : Nat → α → Prop} {Q : β → Prop} (n : Nat) (step : ∀ (i : Nat) (y : α), i ≤ n → P i y → (∃ e, B y = some (.inl e) ∧ Q e) ∨ (i < n ∧ ∃ y', B y = some (.inr y') ∧ P (i + 1) y')) : ∀ (m k fu : Nat) (x : α), k + m = n → m < fu → P k x → ∃ e, gloop B fu x = some e ∧ Q e
  | 0, k, fu, x, hk, hf, hP => by
    obtain ⟨f, rfl⟩ : ∃ f, fu = f + 1 := ⟨fu - 1, by omega⟩
    rcases step k x (by omega) hP with ⟨e, h1, h2⟩ | ⟨h1, -⟩
    · refine ⟨e, ?_, h2⟩
      unfold gloop
      rw [h1]
    · omega
  | m + 1, k, fu, x, hk, hf, hP => by
    obtain ⟨f, rfl⟩ : ∃ f, fu = f + 1 := ⟨fu - 1, by omega⟩
    rcases step k x (by omega) hP with ⟨e, h1, h2⟩ | ⟨-, y, h1, h2⟩
    · refine ⟨e, ?_, h2⟩
      unfold gloop
      rw [h1]
    · obtain ⟨e, h3, h4⟩ := gloop_inv n step m (k + 1) f y (by omega) (by omega) h2
      refine ⟨e, ?_, h4⟩
      unfold gloop
      rw [h1]
      exact h3
theorem gloop_ex {α β : Type} {B : α → Option (β ⊕ α)} {P : Nat → α → Prop} {Q : β → Prop} {fu : Nat} {x : α} (n : Nat) (hf : n < fu) (h0 : P 0 x) (step : ∀ (i : Nat) (y : α), i ≤ n → P i y → (∃ e, B y = some (.inl e) ∧ Q e) ∨ (i < n ∧ ∃ y', B y = some (.inr y') ∧ P (i + 1) y')) : ∃ e, gloop B fu x = some e ∧ Q e := gloop_inv n step n 0 fu x (Nat.zero_add n) hf h0
section POK
variable {T : gT} {M : gM} {a b kd n k : Nat} {x : Int32} {y : Int64}
theorem ald_ok (hT : T[a]? = some (kd, n)) (hk : k < n) (hn : n < 2 ^ 31) : ald T M a (nI k) = some (gi M a k) := by
  unfold ald
  rw [alen_of hT, if_neg (nI_in hk hn), nI_clamp (Nat.lt_trans hk hn)]
theorem aldl_ok (hT : T[a]? = some (kd, n)) (hk : k < n) (hn : n < 2 ^ 31) : aldl T M a (nI k) = some (gl M a k) := by
  unfold aldl
  rw [alen_of hT, if_neg (nI_in hk hn), nI_clamp (Nat.lt_trans hk hn)]
theorem ast_ok (hT : T[a]? = some (kd, n)) (hk : k < n) (hn : n < 2 ^ 31) : ast T M a (nI k) x = some (si M a k x) := by
  unfold ast
  rw [alen_of hT, if_neg (nI_in hk hn), nI_clamp (Nat.lt_trans hk hn)]
theorem astl_ok (hT : T[a]? = some (kd, n)) (hk : k < n) (hn : n < 2 ^ 31) : astl T M a (nI k) y = some (sl M a k y) := by
  unfold astl
  rw [alen_of hT, if_neg (nI_in hk hn), nI_clamp (Nat.lt_trans hk hn)]
theorem ldr_ok (hg : gr M a k = some b) (hT : T[b]? = some (kd, n)) : ldr T M a k kd = some b := by
  unfold ldr
  rw [hg]
  dsimp only
  rw [hT]
  exact if_pos rfl
theorem aldr_ok {c m kc : Nat} (hT : T[a]? = some (kd, n)) (hk : k < n) (hn : n < 2 ^ 31) (hg : gr M a k = some c) (hc : T[c]? = some (kc, m)) : aldr T M a (nI k) kc = some c := by
  unfold aldr
  rw [alen_of hT, if_neg (nI_in hk hn), nI_clamp (Nat.lt_trans hk hn)]
  exact ldr_ok hg hc
theorem chk_ok {c : Prop} {d : Decidable c} (h : c) : @chk c d = some () := if_pos h
theorem acp_ok {k1 n1 s0 d0 m : Nat} (hb : T[b]? = some (kd, n)) (ha : T[a]? = some (k1, n1)) (h1 : s0 + m ≤ n) (h2 : d0 + m ≤ n1) (hn : n < 2 ^ 31) (hn1 : n1 < 2 ^ 31) : acp T M b (nI s0) a (nI d0) (nI m) = some (cpi M b s0 a d0 m) := by
  unfold acp
  rw [alen_of hb, alen_of ha, nI_clamp (by omega), nI_clamp (by omega), nI_clamp (by omega), if_neg]
  rintro (h | h | h | h | h)
  · exact nI_pos (by omega) h
  · exact nI_pos (by omega) h
  · exact nI_pos (by omega) h
  · omega
  · omega
end POK
theorem gM_ext {M N : gM} (h1 : ∀ b j, gi M b j = gi N b j) (h2 : ∀ b j, gl M b j = gl N b j) (h3 : ∀ b j, gr M b j = gr N b j) : M = N := by
  obtain ⟨M1, M2, M3⟩ := M
  obtain ⟨N1, N2, N3⟩ := N
  have e1 : M1 = N1 := funext fun b => funext fun j => h1 b j
  have e2 : M2 = N2 := funext fun b => funext fun j => h2 b j
  have e3 : M3 = N3 := funext fun b => funext fun j => h3 b j
  rw [e1, e2, e3]
theorem cpi_0 {M : gM} {s p d q : Nat} : cpi M s p d q 0 = M := gM_ext (fun b j => by rw [gi_cpi, if_neg (by omega)]) (fun _ _ => rfl) (fun _ _ => rfl)
theorem cpi_succ {M : gM} {s p d q n : Nat} : si (cpi M s p d q n) d (q + n) (gi M s (p + n)) = cpi M s p d q (n + 1) := gM_ext (fun b j => by
  rw [gi_si, gi_cpi, gi_cpi]
  by_cases h1 : b = d ∧ j = q + n
  · rw [if_pos h1, if_pos (by omega), h1.2, show q + n - q = n by omega]
  · rw [if_neg h1]
    by_cases h2 : b = d ∧ q ≤ j ∧ j < q + n
    · rw [if_pos h2, if_pos (by omega)]
    · rw [if_neg h2, if_neg (by omega)]) (fun _ _ => rfl) (fun _ _ => rfl)
/-- M with the ints of a, below n, as g has them -/
def upi (M : gM) (a n : Nat) (g : Nat → Int32) : gM := (fun b j => if b = a ∧ j < n then g j else M.1 b j, M.2.1, M.2.2)
theorem gi_upi {M : gM} {a n : Nat} {g : Nat → Int32} {b j : Nat} : gi (upi M a n g) b j = if b = a ∧ j < n then g j else gi M b j := rfl
theorem gl_upi {M : gM} {a n : Nat} {g : Nat → Int32} {b j : Nat} : gl (upi M a n g) b j = gl M b j := rfl
theorem gr_upi {M : gM} {a n : Nat} {g : Nat → Int32} {b j : Nat} : gr (upi M a n g) b j = gr M b j := rfl
theorem upi_0 {M : gM} {a : Nat} {g : Nat → Int32} : upi M a 0 g = M := gM_ext (fun b j => by rw [gi_upi, if_neg (by omega)]) (fun _ _ => rfl) (fun _ _ => rfl)
theorem upi_succ {M : gM} {a n : Nat} {g : Nat → Int32} : si (upi M a n g) a n (g n) = upi M a (n + 1) g := gM_ext (fun b j => by
  rw [gi_si, gi_upi, gi_upi]
  by_cases h1 : b = a ∧ j = n
  · rw [if_pos h1, if_pos (by omega), h1.2]
  · rw [if_neg h1]
    by_cases h2 : b = a ∧ j < n
    · rw [if_pos h2, if_pos (by omega)]
    · rw [if_neg h2, if_neg (by omega)]) (fun _ _ => rfl) (fun _ _ => rfl)
/-! the reference's copy; Arrays.fill -/
