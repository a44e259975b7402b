/-! A LOAD THAT SUCCEEDS: where the class stands when the text was read -/
section PLG
variable {T T' : gT} {M N M1 : gM} {k : Nat → Nat × Nat} {m C nx sz q : Nat}
theorem sT_311 {b j : Nat} (h : b = 311 ∧ j ≠ 11) : sT b j := Or.inr (Or.inr (Or.inr (Or.inr (Or.inr (Or.inr (Or.inl h))))))
theorem sT_0 {b j : Nat} (h : b = 0 ∧ (j = 1 ∨ j = 2)) : sT b j := Or.inr (Or.inr (Or.inr (Or.inr (Or.inr (Or.inl h)))))
/-- but for the reference's own count and place of error the invariant stands, with the new list of shapes -/
theorem l_go (hl : 359 ≤ T.length) (hI : gInv T M k m C nx sz) (hG : cG (si M 0 1 0) M1) (hK : kP M1) (hE : gEx T T') (h1 : ∀ b j, b < T.length → gi N b j = gi M1 b j) (h3 : ∀ b j, b < T.length → ¬ (b = 5 ∧ j = 4) → gr N b j = gr M1 b j) : gInv T' (si (si (si N 0 2 (-1)) 311 2 0) 311 7 (-1)) k m C nx sz := by
  have hn : ∀ b j, (b = 0 ∨ b = 1 ∨ b = 312) → ¬ cS11 b j := fun b j hb z => by
    have h2 := sT_no (cS11_T z)
    unfold cS11 at z
    rcases z with z | z | z | z | z
    · omega
    · omega
    · omega
    · omega
    · have := dIn_rng z; omega
  have hF : ∀ b j, ¬ sT b j → gi (si (si (si M1 0 2 (-1)) 311 2 0) 311 7 (-1)) b j = gi M b j := fun b j h => by
    rw [gi_si, if_neg (fun z => h (sT_311 ⟨z.1, by omega⟩)), gi_si, if_neg (fun z => h (sT_311 ⟨z.1, by omega⟩)), gi_si, if_neg (fun z => h (sT_0 ⟨z.1, by omega⟩)), hG.2.2 b j (fun z => h (cS11_T z)), gi_si, if_neg (fun z => h (sT_0 ⟨z.1, by omega⟩))]
  have hA : gInv T (si (si (si M1 0 2 (-1)) 311 2 0) 311 7 (-1)) k m C nx sz := by
    refine gInv_T hI (fun b j => hG.1 b j) hF (kP_S hK (fun b j hd => ?_)) ?_
    · have := d5_no hd
      rw [gi_si, if_neg (by omega), gi_si, if_neg (by omega), gi_si, if_neg (by omega)]
    · obtain ⟨q', b1, b2, b3, b4, b5⟩ := hI.2.2.2.2.2.2
      have hf : ∀ b j, (b = 1 ∨ b = 312) → gi (si (si (si M1 0 2 (-1)) 311 2 0) 311 7 (-1)) b j = gi M b j := fun b j hb => by
        rw [gi_si, if_neg (by omega), gi_si, if_neg (by omega), gi_si, if_neg (by omega), hG.2.2 b j (hn b j (by omega)), gi_si, if_neg (by omega)]
      refine ⟨0, by decide, ?_, ?_, fun j hj => by rw [hf 312 j (by omega), hf 1 j (by omega)]; exact b4 j hj, ?_⟩
      · rw [gi_si, if_neg (by omega), gi_si, if_neg (by omega), gi_si, if_neg (by omega), hG.2.2 0 1 (hn 0 1 (by omega)), gi_si, if_pos ⟨rfl, rfl⟩]
        rfl
      · rw [gi_si, if_neg (by omega), gi_si, if_pos ⟨rfl, rfl⟩]
        rfl
      · rw [gi_si, if_neg (by omega), gi_si, if_neg (by omega), gi_si, if_pos ⟨rfl, rfl⟩, gi_si, if_pos ⟨rfl, rfl⟩]
  refine gInv_ex hA hl hE (fun b j hb => ?_) (fun b j hb hj => h3 b j hb hj)
  rw [gi_si, gi_si, gi_si, gi_si, gi_si, gi_si, h1 b j hb]
end PLG
