/-! OFFER: both sides -/
section QOF
variable {T : gT} {M : gM} {i j : Int32}
theorem p_X8_offer (hg : gr M 0 4 = some 37) (hV : gVal T M 37) : f_X8_offer T M 0 i j = some (if (¬ i < 0 ∧ i < nI (dNl M 37)) ∧ ¬ j < 0 ∧ j < nI (dNn M 37) then .inr (dOf M 37 i.toNatClampNeg j.toNatClampNeg) else .inl 2) := by
  obtain ⟨hD, h8, h12, hn1, hn2, hL⟩ := hV
  unfold f_X8_offer
  rw [p_X8_reqLib hg hD.1 hn1, Option.bind_some]
  by_cases h1 : ¬ i < 0 ∧ i < nI (dNl M 37)
  · rw [if_pos h1]
    show (f_X8_requireName T M 0 j).bind _ = _
    rw [p_X8_reqName hg hD.1 hn2, Option.bind_some]
    by_cases h2 : ¬ j < 0 ∧ j < nI (dNn M 37)
    · obtain ⟨a, ha, rfl⟩ := nI_good (by omega) h1
      obtain ⟨b, hb, rfl⟩ := nI_good (by omega) h2
      rw [if_pos h2, if_pos ⟨h1, h2⟩, nI_clamp (by omega), nI_clamp (by omega)]
      show (ldr T M 0 4 0).bind _ = _
      rw [ldr_ok hg hD.1, Option.bind_some, p_row1 hD, Option.bind_some, p_row2 hD (by omega), Option.bind_some, ldr_ok (hD.2.2.2 a (by omega)).2.2.1 (hD.2.2.2 a (by omega)).1.2.1, Option.bind_some, ald_ok (hD.2.2.2 a (by omega)).1.2.1 (by omega) (by decide), Option.bind_some]
    · rw [if_neg h2, if_neg (fun q => h2 q.2)]
      rfl
  · rw [if_neg h1, if_neg (fun q => h1 q.1)]
    rfl
end QOF
