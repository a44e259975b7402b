/-! WHAT A METHOD OF THE LAW LEAVES: new things behind the old ones, the old ones as they were; how many -/
def gAg (T : gT) (M N : gM) : Prop := ∀ b, b < T.length → (∀ j, gi N b j = gi M b j) ∧ (∀ j, gl N b j = gl M b j) ∧ ∀ j, gr N b j = gr M b j
def gTo (T : gT) (M : gM) (T' : gT) (M' : gM) (c : Nat) : Prop := gExt T T' ∧ gAg T M M' ∧ T'.length = T.length + c
theorem gExt_lt {T T' : gT} (h : gExt T T') : T.length ≤ T'.length := by
  by_cases h0 : T.length = 0
  · omega
  · have e : T[T.length - 1]? = some (T[T.length - 1]'(by omega)) := List.getElem?_eq_getElem (by omega)
    have := (List.getElem?_eq_some_iff.mp (h _ _ e)).1
    omega
theorem gTo_refl {T : gT} {M : gM} : gTo T M T M 0 := ⟨gExt.rf, fun _ _ => ⟨fun _ => rfl, fun _ => rfl, fun _ => rfl⟩, rfl⟩
theorem gTo_tr {T T1 T2 : gT} {M M1 M2 : gM} {c d : Nat} (h : gTo T M T1 M1 c) (k : gTo T1 M1 T2 M2 d) : gTo T M T2 M2 (c + d) := ⟨gExt.tr h.1 k.1, fun b hb => by
  have h1 := gExt_lt h.1
  obtain ⟨a1, a2, a3⟩ := h.2.1 b hb
  obtain ⟨b1, b2, b3⟩ := k.2.1 b (by omega)
  exact ⟨fun j => (b1 j).trans (a1 j), fun j => (b2 j).trans (a2 j), fun j => (b3 j).trans (a3 j)⟩, by rw [k.2.2, h.2.2]; omega⟩
theorem gTo_sh {T T1 : gT} {M M1 : gM} {c : Nat} (h : gTo T M T1 M1 c) {a : Nat} {x : Nat × Nat} (hx : T[a]? = some x) : T1[a]? = some x := h.1 _ _ hx
theorem sh_lt {T : gT} {a : Nat} {x : Nat × Nat} (h : T[a]? = some x) : a < T.length := (List.getElem?_eq_some_iff.mp h).1
theorem gTo_gi {T T1 : gT} {M M1 : gM} {c : Nat} (h : gTo T M T1 M1 c) {a : Nat} {x : Nat × Nat} (hx : T[a]? = some x) (j : Nat) : gi M1 a j = gi M a j := (h.2.1 a (sh_lt hx)).1 j
theorem gTo_gl {T T1 : gT} {M M1 : gM} {c : Nat} (h : gTo T M T1 M1 c) {a : Nat} {x : Nat × Nat} (hx : T[a]? = some x) (j : Nat) : gl M1 a j = gl M a j := (h.2.1 a (sh_lt hx)).2.1 j
theorem gTo_gr {T T1 : gT} {M M1 : gM} {c : Nat} (h : gTo T M T1 M1 c) {a : Nat} {x : Nat × Nat} (hx : T[a]? = some x) (j : Nat) : gr M1 a j = gr M a j := (h.2.1 a (sh_lt hx)).2.2 j
/-- writes behind the old things -/
theorem gTo_si {T T1 : gT} {M M1 : gM} {c a k : Nat} {x : Int32} (h : gTo T M T1 M1 c) (ha : T.length ≤ a) : gTo T M T1 (si M1 a k x) c := ⟨h.1, fun b hb => by
  obtain ⟨a1, a2, a3⟩ := h.2.1 b hb
  exact ⟨fun j => by rw [gi_si, if_neg (by omega)]; exact a1 j, a2, a3⟩, h.2.2⟩
theorem gTo_sl {T T1 : gT} {M M1 : gM} {c a k : Nat} {x : Int64} (h : gTo T M T1 M1 c) (ha : T.length ≤ a) : gTo T M T1 (sl M1 a k x) c := ⟨h.1, fun b hb => by
  obtain ⟨a1, a2, a3⟩ := h.2.1 b hb
  exact ⟨a1, fun j => by rw [gl_sl, if_neg (by omega)]; exact a2 j, a3⟩, h.2.2⟩
theorem gTo_sr {T T1 : gT} {M M1 : gM} {c a k : Nat} {x : Option Nat} (h : gTo T M T1 M1 c) (ha : T.length ≤ a) : gTo T M T1 (sr M1 a k x) c := ⟨h.1, fun b hb => by
  obtain ⟨a1, a2, a3⟩ := h.2.1 b hb
  exact ⟨a1, a2, fun j => by rw [gr_sr, if_neg (by omega)]; exact a3 j⟩, h.2.2⟩
theorem gnew_ok {T : gT} {M : gM} {sh : Nat × Nat} (h : T.length < 900000) : gnew T M sh = some (T.length, T ++ [sh], zr M T.length) := if_pos h
theorem gnewa_ok {T : gT} {M : gM} {kd n : Nat} (h : T.length < 900000) (hn : n ≤ 100000) : gnewa T M kd (nI n) 100000 = some (T.length, T ++ [(kd, n)], zr M T.length) := by
  unfold gnewa
  rw [nI_clamp (by omega), if_neg, gnew_ok h]
  rintro (q | q)
  · exact nI_pos (by omega) q
  · omega
theorem gTo_new {T : gT} {M : gM} {sh : Nat × Nat} : gTo T M (T ++ [sh]) (zr M T.length) 1 := ⟨gpush_ext, fun b hb => ⟨fun j => by rw [gi_zr, if_neg (by omega)], fun j => by rw [gl_zr, if_neg (by omega)], fun j => by rw [gr_zr, if_neg (by omega)]⟩, by rw [List.length_append]; rfl⟩
theorem sh_new {T : gT} {sh : Nat × Nat} : (T ++ [sh])[T.length]? = some sh := by
  rw [List.getElem?_append_right (Nat.le_refl _), Nat.sub_self]
  rfl
/-- a method's answer: v, new things T' M', c cells, s slots -/
def cR {α : Type} (T : gT) (M : gM) (r : Option ((α × gT × gM) × Nat × Nat)) (C S : Nat) (Q : α → gT → gM → Prop) : Prop := ∃ v T' M' c s, r = some ((v, T', M'), c, s) ∧ gTo T M T' M' c ∧ c ≤ C ∧ s ≤ S ∧ Q v T' M'
/-- a loop with costs: the invariant knows what was made so far -/
theorem loopc_inv {α β : Type} {B : α → Option ((β ⊕ α) × Nat × Nat)} {P : Nat → α → Nat → Nat → Prop} {Q : β → Nat → Nat → Prop} (n : Nat) (step : ∀ (i : Nat) (y : α) (c s : Nat), i ≤ n → P i y c s → (∃ e c1 s1, B y = some (.inl e, c1, s1) ∧ Q e (c + c1) (s + s1)) ∨ (i < n ∧ ∃ y' c1 s1, B y = some (.inr y', c1, s1) ∧ P (i + 1) y' (c + c1) (s + s1))) : ∀ (m k fu : Nat) (x : α) (c s : Nat), k + m = n → m < fu → P k x c s → ∃ e c1 s1, gloopc B fu x = some (e, c1, s1) ∧ Q e (c + c1) (s + s1)
  | _, _, 0, _, _, _ => fun _ h _ => absurd h (Nat.not_lt_zero _)
  | m, k, fu + 1, x, c, s => fun hk hf hP => by
    unfold gloopc
    rcases step k x c s (by omega) hP with ⟨e, c1, s1, hB, hQ⟩ | ⟨hlt, y', c1, s1, hB, hP'⟩
    · rw [hB]
      exact ⟨e, c1, s1, rfl, hQ⟩
    · rw [hB]
      obtain ⟨m', rfl⟩ : ∃ m', m = m' + 1 := ⟨m - 1, by omega⟩
      obtain ⟨e, c2, s2, h2, hQ⟩ := loopc_inv n step m' (k + 1) fu y' (c + c1) (s + s1) (by omega) (by omega) hP'
      refine ⟨e, c1 + c2, s1 + s2, ?_, by rw [← Nat.add_assoc, ← Nat.add_assoc]; exact hQ⟩
      dsimp only
      rw [h2]
      rfl
theorem loopc_ex {α β : Type} {B : α → Option ((β ⊕ α) × Nat × Nat)} {P : Nat → α → Nat → Nat → Prop} {Q : β → Nat → Nat → Prop} {fu : Nat} {x : α} (n : Nat) (hf : n < fu) (h0 : P 0 x 0 0) (step : ∀ (i : Nat) (y : α) (c s : Nat), i ≤ n → P i y c s → (∃ e c1 s1, B y = some (.inl e, c1, s1) ∧ Q e (c + c1) (s + s1)) ∨ (i < n ∧ ∃ y' c1 s1, B y = some (.inr y', c1, s1) ∧ P (i + 1) y' (c + c1) (s + s1))) : ∃ e c1 s1, gloopc B fu x = some (e, c1, s1) ∧ Q e c1 s1 := by
  obtain ⟨e, c1, s1, h1, h2⟩ := loopc_inv n step n 0 fu x 0 0 (Nat.zero_add n) hf h0
  exact ⟨e, c1, s1, h1, by rwa [Nat.zero_add, Nat.zero_add] at h2⟩
theorem gkd_ok {T : gT} {a kd n : Nat} (h : T[a]? = some (kd, n)) : gkd T a kd = some () := by
  unfold gkd
  rw [h]
  exact if_pos rfl
