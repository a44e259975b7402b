/-! A CHANGE OF ONE PLACE, from its beginning to its end -/
/-- longs are of no matter -/
theorem gEl_l {T : gT} {M : gM} {k : Nat → Nat × Nat} {m : Nat} (hV : gVal T M 37) (hE : gEl M k m) (l : Nat → Nat → Int64) : gEl (M.1, l, M.2.2) k m := by
  have hd : dSame (M.1, l, M.2.2) 37 M 37 := fun b j hb => by
    have := dIn_rng hb
    rw [show b - 37 + 37 = b by omega]
    rfl
  have hW := vW_sameV (k := k) (m := m) hV hd
  have h8 := hV.2.1
  have h12 := hV.2.2.1
  refine ⟨fun j hj => ?_, fun n hn => ?_⟩
  · rw [dNl_same hd] at hj
    rw [show gi (M.1, l, M.2.2) 67 j = gi M 67 j from rfl, hE.1 j hj, dRk_same hd (by omega), hW j hj]
  · rw [dNn_same hd] at hn
    exact gElN_same hd hV (by omega) hW (hE.2 n hn)
theorem gInv_l {T : gT} {M : gM} {k : Nat → Nat × Nat} {m C nx sz : Nat} (h : gInv T M k m C nx sz) (l : Nat → Nat → Int64) : gInv T (M.1, l, M.2.2) k m C nx sz := ⟨h.1, h.2.1, gEl_l h.1.1 h.2.2.1 l, h.2.2.2.1, h.2.2.2.2.1, h.2.2.2.2.2.1, h.2.2.2.2.2.2⟩
theorem gMid_l {T : gT} {M M2 N : gM} {k : Nat → Nat × Nat} {m C nx sz : Nat} (h : gMid T M M2 N k m C nx sz) (l : Nat → Nat → Int64) : gMid T M M2 (N.1, l, N.2.2) k m C nx sz := ⟨h.1, h.2.1, h.2.2.1, h.2.2.2.1, h.2.2.2.2.1, gEl_l h.2.2.2.2.1.2.1 h.2.2.2.2.2.1 l, h.2.2.2.2.2.2.1, h.2.2.2.2.2.2.2.1, h.2.2.2.2.2.2.2.2.1, h.2.2.2.2.2.2.2.2.2.1, h.2.2.2.2.2.2.2.2.2.2.1, h.2.2.2.2.2.2.2.2.2.2.2⟩
section PCH2
variable {T : gT} {M M1 M2 N N' : gM} {k : Nat → Nat × Nat} {m C C' nx sz : Nat}
/-- after remember: the new history stands, the data wait -/
def gPost (T : gT) (M M2 N : gM) (k : Nat → Nat × Nat) (m C nx nx1 sz1 : Nat) : Prop := gFx T N ∧ gDa T N ∧ gKf N ∧ gBf N ∧ gCls T N k m ∧ gEl N k m ∧ (nx < 8 ∧ gSlt T N (78 + 29 * nx) 313 k m C) ∧ gHs T N nx1 sz1 C ∧ dSame N (78 + 29 * nx) M 37 ∧ gr N 37 4 = gr N (78 + 29 * nx) 4 ∧ ∀ b j, dIn 37 b j → gi N b j = gi M2 b j
theorem gPost_C {nx1 sz1 : Nat} (h : gPost T M M2 N k m C nx nx1 sz1) (hF : fr rC N N') : gPost T M M2 N' k m C nx nx1 sz1 := by
  obtain ⟨h1, h2, h3, h4, h5, h6, ⟨hnx, h7⟩, h8, h9, h10, h11⟩ := h
  have hA : fr rA N N' := fr_mono hF (fun b j q => rC_A b j q)
  have hB : fr rB N N' := fr_mono hF (fun b j q => rC_B b j q)
  obtain ⟨c1, c2, c3⟩ := gCls_r h5 h6 hA
  have hDk : gD (78 + 29 * nx) := Or.inr ⟨nx, hnx, rfl⟩
  exact ⟨gFx_fr h1 hF, gDa_r h2 hF.1, gKf_r h3 hA, gBf_B h4 hB, c1, c2, ⟨hnx, gSlt_C h7 hDk (by omega) hF⟩, gHs_B h8 hB, fun b j hb => by rw [hF.2.2 b j (fun q => rA_D (Or.inr hDk) (rC_A b j q) hb)]; exact h9 b j hb, by rw [hF.1, hF.1]; exact h10, fun b j hb => by rw [hF.2.2 b j (fun q => rA_D (Or.inr (Or.inl rfl)) (rC_A b j q) hb)]; exact h11 b j hb⟩
/-- the relation to the data as they were -/
theorem gPost_old {nx1 sz1 : Nat} (h : gPost T M M2 N k m C nx nx1 sz1) : gRel T N (78 + 29 * nx) k m := gSl_rel h.1 h.2.2.2.2.2.2.1.2 (Or.inr ⟨nx, h.2.2.2.2.2.2.1.1, rfl⟩)
theorem m_rem (h : gMid T M M2 N k m C nx sz) : ∃ N1, f_X9_remember T (si N 311 0 0) 311 = some N1 ∧ gPost T M M2 N1 k m C nx ((nx + 1) % 8) (if sz < 8 then sz + 1 else 8) ∧ gi N1 311 0 = 0 ∧ ∀ b j, gl N1 b j = gl N b j := by
  obtain ⟨h1, h2, h3, h4, h5, h6, h7, ⟨hnx, hsz, a1, a2, a3, a4⟩, h9, h10, h11, h12⟩ := h
  have f0 : fr rC N (si N 311 0 0) := fr_si fr_refl (Or.inr ⟨rfl, Or.inl rfl⟩)
  have hDk : gD (78 + 29 * nx) := Or.inr ⟨nx, hnx, rfl⟩
  obtain ⟨N1, c1, c2, c3⟩ := m_remember (M := si N 311 0 0) (gFx_fr h1 f0) hnx hsz (by rw [gi_si, if_neg (by omega)]; exact a1) (by rw [gi_si, if_neg (by omega)]; exact a2) (by rw [gi_si, if_neg (by omega)]; exact a3) (gSlt_C h7 hDk (by omega) f0) (fun q hq hq7 => by
    obtain ⟨k', m', hs⟩ := a4 q hq hq7
    exact ⟨k', m', gSlt_C hs (gD_slot nx q) (by omega) f0⟩)
  have hA : fr rA N N1 := ⟨c2.1, fun b j _ => c2.2.1 b j, fun b j hb => by
    have hb2 : ¬ (311 ≤ b ∧ b < 358) := hb
    rw [c2.2.2 b j (by omega) (by omega), gi_si, if_neg (by omega)]⟩
  obtain ⟨d1, d2, d3⟩ := gCls_r h5 h6 hA
  have hlo : ∀ b j, b < 311 ∨ b = 312 ∨ b = 313 ∨ (b = 311 ∧ (j = 2 ∨ j = 7)) → gi N1 b j = gi N b j := fun b j hb => by
    rw [c2.2.2 b j (by omega) (by omega), gi_si, if_neg (by omega)]
  refine ⟨N1, c1, ⟨gFx_fr h1 hA, gDa_r h2 hA.1, gKf_r h3 hA, ?_, d1, d2, ⟨hnx, ?_⟩, c3, fun b j hb => ?_, by rw [hA.1, hA.1]; exact h11, fun b j hb => ?_⟩, ?_, c2.2.1⟩
  · obtain ⟨q, b1, b2, b3, b4, b5⟩ := h4
    exact ⟨q, b1, by rw [hlo _ _ (by omega)]; exact b2, by rw [hlo _ _ (by omega)]; exact b3, fun j hj => by rw [hlo 312 j (by omega), hlo 1 j (by omega)]; exact b4 j hj, by rw [hlo 0 2 (by omega), hlo 311 7 (by omega)]; exact b5⟩
  · exact gSl_mv h7 (Nat.le_refl C) (gDat_gr h7.1.1 hA.1) (fun b j hb => by
      have hr := dIn_rngs (Or.inr hDk) hb
      have hr2 := dIn_rng hb
      rw [hlo b j (by omega), show b - (78 + 29 * nx) + (78 + 29 * nx) = b by omega]) (hA.1 _ _) (fun b j _ => hA.1 b j) (fun b j hb => hA.2.2 b j (fun q => rA_Co q hb)) (fun j _ => hlo 313 j (by omega))
  · rw [hA.2.2 b j (fun q => rA_D (Or.inr hDk) q hb)]
    exact h9 b j hb
  · rw [hA.2.2 b j (fun q => rA_D (Or.inr (Or.inl rfl)) q hb)]
    exact h12 b j hb
  · rw [c2.2.2 311 0 (by omega) (by omega), gi_si, if_pos ⟨rfl, rfl⟩]
/-- the reference writes its data: all stands again -/
theorem m_put {nx1 sz1 b0 j0 p0 : Nat} {x y : Int32} (h : gPost T M (si M b0 j0 x) N k m C nx nx1 sz1) (hb : dIn 37 b0 j0) (hC : C ≤ C') (up : ∀ K, gSlt T K 37 313 k m C → dNl K 37 = dNl M 37 → dNn K 37 = dNn M 37 → gSlt T (si (si K b0 j0 x) 313 p0 y) 37 313 k m C') : gInv T (si N 313 p0 y) k m C' nx1 sz1 := by
  obtain ⟨h1, h2, h3, h4, h5, h6, ⟨hnx, h7⟩, h8, h9, h10, h11⟩ := h
  have hDk : gD (78 + 29 * nx) := Or.inr ⟨nx, hnx, rfl⟩
  have hF : fr rB N (si N 313 p0 y) := fr_si fr_refl (Or.inl rfl)
  have hA : fr rA N (si N 313 p0 y) := fr_mono hF (fun b j q => rB_A b j q)
  obtain ⟨c1, c2, c3⟩ := gCls_r h5 h6 hA
  have hd37 : gDat T N 37 := h2 37 (Or.inr (Or.inl rfl))
  refine ⟨gSl_put h7 hDk hd37 (fun b j hd => ?_) hb h10 (fun K hK e1 e2 => up K hK (e1.trans (dNl_same h9)) (e2.trans (dNn_same h9))), gFx_fr h1 hF, c2, gHs_C' (gHs_B h8 hF) hC, gKf_r h3 hA, gDa_r h2 hF.1, gBf_B h4 hF⟩
  have hr := dIn_rng hd
  rw [h11 b j hd, gi_si]
  by_cases e : b = b0 ∧ j = j0
  · rw [if_pos e, if_pos e]
  · rw [if_neg e, if_neg e, h9 (b - 37 + (78 + 29 * nx)) j (by
      rcases hd with ⟨q1, q2⟩ | ⟨i, hi, q⟩
      · exact Or.inl ⟨by omega, q2⟩
      · refine Or.inr ⟨i, hi, ?_⟩
        unfold lIn at q ⊢
        omega), show b - 37 + (78 + 29 * nx) - (78 + 29 * nx) + 37 = b by omega]
/-- the class begins, writes one place and counts -/
theorem c_put {b0 j0 p0 : Nat} {x y : Int32} (hI : gInv T M k m C nx sz) (hb : dIn 37 b0 j0) (hK : ∀ i, i < 8 → dKp (si M b0 j0 x) 37 i = 0 ∨ dKp (si M b0 j0 x) 37 i = 1) (up : gSlt T (si (si M b0 j0 x) 313 p0 y) 37 313 k m C') : ∃ M1, f_X8_beginChange T M 0 = some M1 ∧ gFx T M1 ∧ gDat T M1 37 ∧ dSame M1 37 M 37 ∧ ∃ N, f_X1_count T (si M1 b0 j0 x) 66 37 = some N ∧ gMid T M (si M b0 j0 x) N k m C nx sz := by
  have hI' := hI
  obtain ⟨i1, i2, i3, ⟨hnx, hsz, j1, j2, j3, j4⟩, i5, i6, i7⟩ := hI
  obtain ⟨M1, c1, c2⟩ := p_begin i2 i6 i5 i1.2.2.1 hnx hsz j1 j2
  have hDk : gD (78 + 29 * nx) := Or.inr ⟨nx, hnx, rfl⟩
  have hX1 : gFx T M1 := gFx_of i2 (fun b j hb => c2.1 b j (fun q => hb ⟨by rw [q.1]; exact gDs_mem (Or.inr hDk), q.2⟩))
  have hd1 : gDat T M1 37 := gDa_of i6 (fun b j hb => c2.1 b j (fun q => hb ⟨by rw [q.1]; exact gDs_mem (Or.inr hDk), q.2⟩)) 37 (Or.inr (Or.inl rfl))
  have hs1 : ∀ b j, dIn 37 b j → gi M1 b j = gi M b j := fun b j hd => by
    have hr := dIn_rng hd
    exact c2.2.2.2.2.2.2.2 b j (dIn_apart (Or.inr (Or.inl rfl)) (Or.inr hDk) (by omega) hd) (by omega) (by omega)
  have hs2 : ∀ b j, dIn 37 b j → gi (si M1 b0 j0 x) b j = gi (si M b0 j0 x) b j := fun b j hd => by
    rw [gi_si, gi_si, hs1 b j hd]
  have hV : gVal T (si M1 b0 j0 x) 37 := gVal_same (M := si (si M b0 j0 x) 313 p0 y) (D' := 37) (fun b j hd => by
    have hr := dIn_rng hd
    rw [show b - 37 + 37 = b by omega, hs2 b j hd, gi_si _ 313, if_neg (by omega)]) (gDat_gr hd1 (fun _ _ => rfl)) up.1
  obtain ⟨N, d1, d2, -⟩ := p_mid (M2 := si M1 b0 j0 x) hI' c2 (fun _ _ => rfl) (fun b j hd => by rw [gi_si, if_neg (fun q => hd (by rw [q.1, q.2]; exact hb))]) hV (fun i hi => by
    rw [show dKp (si M1 b0 j0 x) 37 i = dKp (si M b0 j0 x) 37 i from hs2 _ _ (dIn_lib hi (Or.inr (Or.inl rfl)))]
    exact hK i hi)
  refine ⟨M1, c1, hX1, hd1, fun b j hd => ?_, N, d1, ?_⟩
  · have hr := dIn_rng hd
    rw [show b - 37 + 37 = b by omega]
    exact hs1 b j hd
  · obtain ⟨e1, e2, e3, e4, e5, e6, e7, e8, e9, e10, e11, e12⟩ := d2
    exact ⟨e1, e2, e3, e4, e5, e6, e7, e8, e9, e10, e11, fun b j hd => (e12 b j hd).trans (hs2 b j hd)⟩
end PCH2
