/-! APPEND, and the queries without arguments -/
section PAP
variable {T : gT} {M N : gM} {k : Nat → Nat × Nat} {m C nx sz q : Nat} {w0 w1 w2 w3 w4 : Int32}
theorem ckN_ext {v : Int64} {o b c o' b' c' : Nat → Int32} : ∀ {n : Nat}, (∀ s, s < n → o s = o' s ∧ b s = b' s ∧ c s = c' s) → ckN v o b c n = ckN v o' b' c' n
  | 0, _ => rfl
  | n + 1, h => by
    obtain ⟨h1, h2, h3⟩ := h n (Nat.lt_succ_self n)
    unfold ckN
    rw [ckN_ext (n := n) (fun s hs => h s (Nat.lt_succ_of_lt hs)), h1, h2, h3]
theorem ckL_same (hV : gVal T M 37) (hd : dSame N 37 M 37) : ∀ {t : Nat}, t ≤ dNl M 37 → ckL N 37 k m t = ckL M 37 k m t
  | 0, _ => by
    unfold ckL
    rw [hd.hd (Or.inr (Or.inr rfl))]
  | t + 1, ht => by
    have h8 := hV.2.1
    have h12 := hV.2.2.1
    unfold ckL
    rw [ckL_same hV hd (show t ≤ dNl M 37 by omega), vTl_same hV hd (show t < dNl M 37 by omega), dNn_same hd]
    exact ckN_ext (fun s hs => ⟨hd.off (by omega) (by omega), vBd_same hd hV (by omega) (by omega) (vW_sameV hV hd), by rw [vCal_same hd hV (vW_sameV hV hd) (by omega) hs]⟩)
end PAP
