/-! BOTH PARSERS side by side: signs, numbers, known words -/
def cS0 (b j : Nat) : Prop := tS b j ∨ (b = 2 ∧ (j = 8 ∨ j = 9 ∨ j = 10))
abbrev cP (M M' : gM) : Prop := fz cS0 tL M M'
theorem cP_t {M M' : gM} (h : fz tS tL M M') : cP M M' := fz_mono h (fun _ _ q => Or.inl q) (fun _ _ q => q)
section PJS
variable {T : gT} {M : gM} {B : Nat → Nat} {n s e p : Nat}
theorem cT_2 {x : Int32} {j : Nat} (h : cT M B n s e) : cT (si M 2 j x) B n s e := by
  obtain ⟨⟨h1, h2, h3⟩, h4, h5, h6, h7, h8⟩ := h
  have hg : ∀ b i, b ≠ 2 → gi (si M 2 j x) b i = gi M b i := fun b i hb => by rw [gi_si, if_neg (fun q => hb q.1)]
  refine ⟨⟨(hg 3 1 (by decide)).trans h1, h2, fun i hi => ⟨(h3 i hi).1, (hg 4 i (by decide)).trans (h3 i hi).2⟩⟩, (hg 3 4 (by decide)).trans h4, (hg 3 2 (by decide)).trans h5, h6, h7, ?_⟩
  unfold cK at h8 ⊢
  rw [hg 3 3 (by decide), hg 3 6 (by decide), hg 3 7 (by decide)]
  exact h8
theorem c_error {c : Int32} (hX : gFx T M) (hs : gi M 3 4 = nI s) : f_X5_error T M 2 c = some (0, si (si M 2 9 c) 2 10 (nI s)) := by
  have hX1 : gFx T (si M 2 9 c) := gFx_gr hX (fun _ _ => rfl)
  unfold f_X5_error
  rw [r_2_0 hX1, Option.bind_some, gi_si, if_neg (by omega), hs]
theorem c_syn (hX : gFx T M) (hs : gi M 3 4 = nI s) : f_X5_syntaxError T M 2 = some (0, si (si M 2 9 (-2)) 2 10 (nI s)) := by
  unfold f_X5_syntaxError
  rw [c_error hX hs, Option.bind_some, chk_ok (Or.inl rfl), Option.bind_some]
end PJS
