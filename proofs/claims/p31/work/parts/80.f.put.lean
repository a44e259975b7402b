/-! THE LAW WRITES a text into the class's buffer -/
/-- where the law's writing writes -/
def wPt (b j : Nat) : Prop := b = 311 ∨ b = 1 ∨ (b = 0 ∧ j = 1)
theorem gd_out {l : List Nat} {j : Nat} (h : l.length ≤ j) : l.getD j 0 = 0 := by
  rw [List.getD_eq_getElem?_getD, List.getElem?_eq_none h]
  rfl
theorem gd_lo {l : List Nat} (h : ∀ j, j < l.length → l.getD j 0 < 128) (j : Nat) : l.getD j 0 < 128 := by
  by_cases hj : j < l.length
  · exact h j hj
  · rw [gd_out (by omega)]
    decide
theorem gd_snoc {l : List Nat} {c j : Nat} : (l ++ [c]).getD j 0 = if j = l.length then c else l.getD j 0 := by
  by_cases h : j < l.length
  · rw [gd_l h, if_neg (by omega)]
  · by_cases e : j = l.length
    · rw [if_pos e, e]
      have := gd_r (a := l) (b := [c]) (i := 0)
      rw [Nat.add_zero] at this
      exact this
    · rw [if_neg e, gd_out (l := l) (by omega), gd_out]
      rw [List.length_append]
      show l.length + 1 ≤ j
      omega
theorem wd_ext {g g' : Nat → Nat} (h : ∀ i, i < 4 → g i = g' i) : wd g = wd g' := by
  unfold wd
  rw [h 0 (by decide), h 1 (by decide), h 2 (by decide), h 3 (by decide)]
/-- the law's buffer and the class's, when tx was written -/
def WS [gW0] (T : gT) (M : gM) (tx : List Nat) (nx : Nat) : Prop := cInv T M (fun _ => (1, 0)) 1 nx 0 0 (20 * (tx.length / 20)) ∧ T[311]? = some (11, 8) ∧ (∀ j, j < tx.length → tx.getD j 0 < 128) ∧ gi M 311 0 = nI tx.length ∧ (∀ j, j < 20 * (tx.length / 20) → gi M 1 j = nI (tx.getD j 0)) ∧ ∀ w, w < 5 → gi M 311 (1 + w) = nI (wd (fun i => tx.getD (20 * (tx.length / 20) + 4 * w + i) 0))
section PPU
variable {T T1 : gT} {M M1 N : gM} {nx sz dn q c k m n s p : Nat} {kk : Nat → Nat × Nat} {tx l w : List Nat}
theorem gCe_311 [gW0] (hw : 900000 ≤ w0) (h : ∀ b, b ≠ 311 → (∀ j, gi N b j = gi M b j) ∧ ∀ j, gr N b j = gr M b j) : gCe T M T N := fun b hb x hx => ⟨hx, h b (by omega)⟩
theorem t_flush [gW0] (hw : 900000 ≤ w0) (hI : cInv T M kk m nx sz dn q) (h3 : T[311]? = some (11, 8)) (hW : ∀ w, w < 5 → gi M 311 (1 + w) = nI (wd (fun i => tx.getD (q + 4 * w + i) 0))) (hlo : ∀ j, tx.getD j 0 < 128) (hq : q + 20 ≤ 800) : ∃ N, f_L_flush T M 0 311 = some N ∧ cInv T N kk m nx sz dn (q + 20) ∧ (∀ j, q ≤ j → j < q + 20 → gi N 1 j = nI (tx.getD j 0)) ∧ (∀ j, ¬ (q ≤ j ∧ j < q + 20) → gi N 1 j = gi M 1 j) ∧ (∀ w, w < 5 → gi N 311 (1 + w) = 0) ∧ gi N 311 0 = gi M 311 0 ∧ fr wPt M N := by
  obtain ⟨a1, a2⟩ := o_append (u0 := nI (wd (fun i => tx.getD (q + 4 * 0 + i) 0))) (u1 := nI (wd (fun i => tx.getD (q + 4 * 1 + i) 0))) (u2 := nI (wd (fun i => tx.getD (q + 4 * 2 + i) 0))) (u3 := nI (wd (fun i => tx.getD (q + 4 * 3 + i) 0))) (u4 := nI (wd (fun i => tx.getD (q + 4 * 4 + i) 0))) hI hq
  generalize hA : apM M (nI (wd (fun i => tx.getD (q + 4 * 0 + i) 0))) (nI (wd (fun i => tx.getD (q + 4 * 1 + i) 0))) (nI (wd (fun i => tx.getD (q + 4 * 2 + i) 0))) (nI (wd (fun i => tx.getD (q + 4 * 3 + i) 0))) (nI (wd (fun i => tx.getD (q + 4 * 4 + i) 0))) q = A at a1 a2
  have fA : fr wPt M A := by
    rw [← hA]
    exact fr_mono fr_app (fun b j z => by unfold wPt; omega)
  have bA : ∀ j, q ≤ j → j < q + 20 → gi A 1 j = nI (tx.getD j 0) := fun j h1 h2 => by
    rw [← hA, apM_gi (by omega), if_pos ⟨rfl, h1, h2⟩]
    have hwk : ∀ w, w < 5 → (j - q) / 4 = w → apW (nI (wd (fun i => tx.getD (q + 4 * 0 + i) 0))) (nI (wd (fun i => tx.getD (q + 4 * 1 + i) 0))) (nI (wd (fun i => tx.getD (q + 4 * 2 + i) 0))) (nI (wd (fun i => tx.getD (q + 4 * 3 + i) 0))) (nI (wd (fun i => tx.getD (q + 4 * 4 + i) 0))) (j - q) = nI (wd (fun i => tx.getD (q + 4 * w + i) 0)) := fun w hw5 he => by
      unfold apW
      rcases (show w = 0 ∨ w = 1 ∨ w = 2 ∨ w = 3 ∨ w = 4 by omega) with rfl | rfl | rfl | rfl | rfl
      · rw [if_pos (by omega)]
      · rw [if_neg (by omega), if_pos (by omega)]
      · rw [if_neg (by omega), if_neg (by omega), if_pos (by omega)]
      · rw [if_neg (by omega), if_neg (by omega), if_neg (by omega), if_pos (by omega)]
      · rw [if_neg (by omega), if_neg (by omega), if_neg (by omega), if_neg (by omega)]
    rw [hwk ((j - q) / 4) (by omega) rfl, wB_ok (fun i _ => hlo _) (Nat.mod_lt _ (by decide)), show q + 4 * ((j - q) / 4) + (j - q) % 4 = j by omega]
  have oA : ∀ j, ¬ (q ≤ j ∧ j < q + 20) → gi A 1 j = gi M 1 j := fun j h => by
    rw [← hA, apM_gi (by omega), if_neg (fun z => h z.2)]
  have lA : ∀ j, gi A 311 j = gi M 311 j := fun j => by
    rw [← hA, apM_gi (by omega), if_neg (by omega)]
  obtain ⟨N, c1, c2, c3, c4, c5⟩ : ∃ N, gloop (fun x => f_L_flush_B22 T x.2 311 x.1) gFU ((1 : Int32), A) = some N ∧ (∀ b, b ≠ 311 → (∀ j, gi N b j = gi A b j) ∧ ∀ j, gr N b j = gr A b j) ∧ (∀ w, w < 5 → gi N 311 (1 + w) = 0) ∧ gi N 311 0 = gi A 311 0 ∧ fr wPt A N := by
    refine gloop_ex (P := fun t y => y.1 = nI (1 + t) ∧ t ≤ 5 ∧ (∀ b, b ≠ 311 → (∀ j, gi y.2 b j = gi A b j) ∧ ∀ j, gr y.2 b j = gr A b j) ∧ (∀ w, w < t → gi y.2 311 (1 + w) = 0) ∧ gi y.2 311 0 = gi A 311 0 ∧ fr wPt A y.2) (fu := gFU) 5 (by decide) ⟨rfl, by decide, fun _ _ => ⟨fun _ => rfl, fun _ => rfl⟩, fun w h => absurd h (Nat.not_lt_zero w), rfl, fr_refl⟩ (fun t y _ hP => ?_)
    obtain ⟨y1, Y⟩ := y
    obtain ⟨rfl, ht, h1, h2, h4, h5⟩ := hP
    dsimp only at h1 h2 h4 h5
    show (∃ e, f_L_flush_B22 T Y 311 (nI (1 + t)) = some (.inl e) ∧ _) ∨ _
    unfold f_L_flush_B22
    by_cases e : t = 5
    · subst e
      rw [if_pos (show (6 : Int32) ≤ nI (1 + 5) from nI_le (a := 6) (Nat.le_refl 6) (by decide))]
      exact Or.inl ⟨Y, rfl, h1, h2, h4, h5⟩
    · rw [if_neg (show ¬ (6 : Int32) ≤ nI (1 + t) from nI_ge (b := 6) (by omega) (by decide)), ast_ok h3 (by omega) (by decide), Option.bind_some, nI_1]
      refine Or.inr ⟨by omega, _, rfl, rfl, by omega, fun b hb => ⟨fun j => by rw [gi_si, if_neg (fun z => hb z.1)]; exact (h1 b hb).1 j, (h1 b hb).2⟩, fun w hw => ?_, by rw [gi_si, if_neg (by omega)]; exact h4, fr_si h5 (Or.inl rfl)⟩
      show gi (si Y 311 (1 + t) 0) 311 (1 + w) = 0
      rw [gi_si]
      by_cases e2 : w = t
      · rw [if_pos ⟨rfl, by omega⟩]
      · rw [if_neg (by omega)]
        exact h2 w (by omega)
  have w1 : ∀ w, w < 5 → ald T M 311 (nI (1 + w)) = some (nI (wd (fun i => tx.getD (q + 4 * w + i) 0))) := fun w hw5 => by
    rw [ald_ok h3 (by omega) (by decide), hW w hw5]
  refine ⟨N, ?_, (cInv_ce (gCe_311 hw c2) a2).1, fun j h1 h2 => by rw [(c2 1 (by decide)).1]; exact bA j h1 h2, fun j h => by rw [(c2 1 (by decide)).1]; exact oA j h, c3, c4.trans (lA 0), fr_trans fA c5⟩
  unfold f_L_flush
  rw [show ald T M 311 (1 : Int32) = _ from w1 0 (by decide), Option.bind_some, show ald T M 311 (2 : Int32) = _ from w1 1 (by decide), Option.bind_some, show ald T M 311 (3 : Int32) = _ from w1 2 (by decide), Option.bind_some, show ald T M 311 (4 : Int32) = _ from w1 3 (by decide), Option.bind_some, show ald T M 311 (5 : Int32) = _ from w1 4 (by decide), Option.bind_some, a1, Option.bind_some, c1, Option.bind_some]
theorem t_put [gW0] (hw : 900000 ≤ w0) (h : WS T M tx nx) (hc : c < 128) (hl : tx.length ≤ 700) : ∃ N, f_L_put T M 0 311 (nI c) = some N ∧ WS T N (tx ++ [c]) nx ∧ fr wPt M N := by
  obtain ⟨hI, h3, hlo, g0, hb, hW⟩ := h
  have hlo' : ∀ j, (tx ++ [c]).getD j 0 < 128 := fun j => by
    rw [gd_snoc]
    split
    · exact hc
    · exact gd_lo hlo j
  have hlen : (tx ++ [c]).length = tx.length + 1 := by rw [List.length_append]; rfl
  generalize hL : tx.length = L at *
  have ir : irem (nI L) (20 : Int32) = nI (L % 20) := rem_nI (b := 20) (by omega) (by decide)
  have ir4 : irem (nI L) (4 : Int32) = nI (L % 4) := rem_nI (b := 4) (by omega) (by decide)
  have ir2 : irem (nI (L + 1)) (20 : Int32) = nI ((L + 1) % 20) := rem_nI (b := 20) (by omega) (by decide)
  have eI : (1 : Int32) + ((nI (L % 20)) / (4 : Int32)) = nI (1 + L % 20 / 4) := by
    rw [show nI (L % 20) / (4 : Int32) = nI (L % 20 / 4) from div_nI (b := 4) (by omega) (by decide), show (1 : Int32) = nI 1 from rfl, nI_add]
  have hor := wd_put (g := fun i => tx.getD (20 * (L / 20) + 4 * (L % 20 / 4) + i) 0) (g' := fun i => (tx ++ [c]).getD (20 * (L / 20) + 4 * (L % 20 / 4) + i) 0) (c := c) (r := L % 4) (fun i _ => gd_lo (by rw [hL]; exact hlo) _) (Nat.mod_lt _ (by decide)) (fun i h1 h2 => gd_out (by omega)) hc (fun i hi => by
    rw [gd_snoc, hL]
    by_cases e : i = L % 4
    · rw [if_pos e, if_pos (by omega)]
    · rw [if_neg e, if_neg (by omega)])
  have hg0 : ald T M 311 (0 : Int32) = some (nI L) := by
    have := ald_ok (M := M) h3 (k := 0) (by decide) (by decide)
    rw [g0] at this
    exact this
  have hgw : ald T M 311 (nI (1 + L % 20 / 4)) = some (nI (wd (fun i => tx.getD (20 * (L / 20) + 4 * (L % 20 / 4) + i) 0))) := by rw [ald_ok h3 (by omega) (by decide), hW _ (by omega)]
  generalize hM4 : si M 311 (1 + L % 20 / 4) (nI (wd (fun i => (tx ++ [c]).getD (20 * (L / 20) + 4 * (L % 20 / 4) + i) 0))) = M4
  have g04 : ald T M4 311 (0 : Int32) = some (nI L) := by
    have := ald_ok (M := M4) h3 (k := 0) (by decide) (by decide)
    rw [← hM4, gi_si, if_neg (by omega), g0] at this
    rw [← hM4]
    exact this
  have hs4 : ∀ x, ast T M4 311 (0 : Int32) x = some (si M4 311 0 x) := fun x => ast_ok (k := 0) h3 (by decide) (by decide)
  generalize hM6 : si M4 311 0 (nI (L + 1)) = M6
  have g06 : ald T M6 311 (0 : Int32) = some (nI (L + 1)) := by
    have := ald_ok (M := M6) h3 (k := 0) (by decide) (by decide)
    rw [← hM6, gi_si, if_pos ⟨rfl, rfl⟩] at this
    rw [← hM6]
    exact this
  have f6 : fr wPt M M6 := by
    rw [← hM6, ← hM4]
    exact fr_si (fr_si fr_refl (Or.inl rfl)) (Or.inl rfl)
  have hI6 : cInv T M6 (fun _ => (1, 0)) 1 nx 0 0 (20 * (L / 20)) := by
    refine (cInv_ce (gCe_311 hw (fun b hb => ?_)) hI).1
    rw [← hM6, ← hM4]
    exact ⟨fun j => by rw [gi_si, if_neg (fun z => hb z.1), gi_si, if_neg (fun z => hb z.1)], fun j => rfl⟩
  have hW6 : ∀ w, w < 5 → gi M6 311 (1 + w) = nI (wd (fun i => (tx ++ [c]).getD (20 * (L / 20) + 4 * w + i) 0)) := fun w hw5 => by
    rw [← hM6, gi_si, if_neg (by omega), ← hM4, gi_si]
    by_cases e : w = L % 20 / 4
    · rw [if_pos ⟨rfl, by omega⟩, e]
    · rw [if_neg (by omega), hW w hw5]
      exact congrArg nI (wd_ext (fun i hi => by rw [gd_snoc, hL, if_neg (by omega)]))
  have b6 : ∀ j, gi M6 1 j = gi M 1 j := fun j => by rw [← hM6, gi_si, if_neg (by omega), ← hM4, gi_si, if_neg (by omega)]
  have g060 : gi M6 311 0 = nI (L + 1) := by rw [← hM6, gi_si, if_pos ⟨rfl, rfl⟩]
  have pre : f_L_put T M 0 311 (nI c) = (if ¬ (nI ((L + 1) % 20)) = 0 then some M6 else (f_L_flush T M6 0 311).bind fun x9 => some x9) := by
    unfold f_L_put
    rw [hg0, Option.bind_some, ir, eI, hgw, Option.bind_some, Option.bind_some, ir4, hor, ast_ok h3 (by omega) (by decide), hM4, Option.bind_some, g04, Option.bind_some, nI_1, hs4, hM6, Option.bind_some, g06, Option.bind_some, ir2]
  rw [pre]
  by_cases h20 : (L + 1) % 20 = 0
  · obtain ⟨N, c1, c2, c3, c4, c5, c6, c7⟩ := t_flush (tx := tx ++ [c]) hw hI6 h3 hW6 hlo' (by omega)
    rw [if_neg (show ¬ ¬ nI ((L + 1) % 20) = 0 from fun z => z (by rw [h20]; rfl)), c1, Option.bind_some]
    have hq : 20 * ((L + 1) / 20) = 20 * (L / 20) + 20 := by omega
    refine ⟨N, rfl, ⟨by rw [hlen, hq]; exact c2, h3, fun j _ => hlo' j, by rw [hlen, c6]; exact g060, fun j hj => ?_, fun w hw5 => ?_⟩, fr_trans f6 c7⟩
    · rw [hlen, hq] at hj
      by_cases h1 : 20 * (L / 20) ≤ j
      · exact c3 j h1 hj
      · rw [c4 j (by omega), b6, gd_snoc, hL, if_neg (by omega)]
        exact hb j (by omega)
    · rw [hlen, hq, c5 w hw5, show wd (fun i => (tx ++ [c]).getD (20 * (L / 20) + 20 + 4 * w + i) 0) = 0 by
        have z : ∀ i, (tx ++ [c]).getD (20 * (L / 20) + 20 + 4 * w + i) 0 = 0 := fun i => gd_out (by omega)
        unfold wd
        dsimp only
        rw [z, z, z, z]]
      rfl
  · have hq : (L + 1) / 20 = L / 20 := by omega
    rw [if_pos (show ¬ nI ((L + 1) % 20) = 0 from fun z => h20 ((nI_eq (b := 0) (by omega) (by decide)).mp z))]
    refine ⟨M6, rfl, ⟨by rw [hlen, hq]; exact hI6, h3, fun j _ => hlo' j, by rw [hlen]; exact g060, fun j hj => ?_, fun w hw5 => ?_⟩, f6⟩
    · rw [hlen, hq] at hj
      rw [b6, gd_snoc, hL, if_neg (by omega)]
      exact hb j hj
    · rw [hlen, hq]
      exact hW6 w hw5
theorem tk_s {t : Nat} (h : t < w.length) : w.take (t + 1) = w.take t ++ [w.getD t 0] := by
  rw [List.take_succ, List.getElem?_eq_getElem h, List.getD_eq_getElem?_getD, List.getElem?_eq_getElem h]
  rfl
theorem sS_fr [gW0] (h : sS T M s l) (hI : cInv T M kk m nx sz dn q) (h3 : T[311]? = some (11, 8)) (hF : fr wPt M N) : sS T N s l := by
  have h0 := s_0 hI.1.1
  have h1 := s_1 hI.1.1
  obtain ⟨hh, ⟨v, a1, a2, a3, a4, a5⟩ | hc⟩ := h
  · have ne : ∀ b, T[b]? = some (19, 0) ∨ T[b]? = some (10, l.length) → ∀ j, ¬ wPt b j := fun b hb j z => by
      rcases z with rfl | rfl | ⟨rfl, -⟩
      · rcases hb with hb | hb <;> cases hb.symm.trans h3
      · rcases hb with hb | hb
        · cases hb.symm.trans h1
        · have e := hb.symm.trans h1
          have : l.length = 800 := congrArg Prod.snd (Option.some.inj e)
          have := hh.1
          omega
      · rcases hb with hb | hb <;> cases hb.symm.trans h0
    exact ⟨hh, Or.inl ⟨v, a1, (hF.1 s 0).trans a2, a3, (hF.2.2 s 1 (ne s (Or.inl a1) 1)).trans a4, fun j hj => (hF.2.2 v j (ne v (Or.inr a3) j)).trans (a5 j hj)⟩⟩
  · exact ⟨hh, Or.inr hc⟩
/-- a string is written -/
theorem t_write [gW0] (hw : 900000 ≤ w0) (hT : T.length ≤ 900000) (h : WS T M tx nx) (hs : sS T M s w) (hl : tx.length + w.length ≤ 700) : ∃ N, f_L_write T M 0 311 s = some N ∧ WS T N (tx ++ w) nx ∧ fr wPt M N := by
  have h200 := hs.1.1
  have hL : ∃ N, gloop (fun x => f_L_write_B2 T x.2 0 311 s x.1) gFU ((0 : Int32), M) = some N ∧ (WS T N (tx ++ w) nx ∧ fr wPt M N) := by
    refine gloop_ex (P := fun t y => y.1 = nI t ∧ t ≤ w.length ∧ WS T y.2 (tx ++ w.take t) nx ∧ fr wPt M y.2) (fu := gFU) w.length (Nat.lt_of_le_of_lt h200 (by decide)) ⟨rfl, Nat.zero_le _, by rw [List.take_zero, List.append_nil]; exact h, fr_refl⟩ (fun t y _ hP => ?_)
    obtain ⟨y1, Y⟩ := y
    obtain ⟨rfl, ht, h1, h2⟩ := hP
    dsimp only at h1 h2
    have hsY := sS_fr hs h.1 h.2.1 h2
    show (∃ e, f_L_write_B2 T Y 0 311 s (nI t) = some (.inl e) ∧ _) ∨ _
    unfold f_L_write_B2
    rw [sS_len hT hsY, Option.bind_some]
    by_cases e : t = w.length
    · rw [if_pos (nI_le (by omega) (by omega))]
      refine Or.inl ⟨Y, rfl, ?_, h2⟩
      rw [e, List.take_length] at h1
      exact h1
    · have hlt : t < w.length := by omega
      have htl : (w.take t).length = t := List.length_take_of_le (by omega)
      obtain ⟨N, c1, c2, c3⟩ := t_put hw h1 (hs.1.2 t hlt) (by rw [List.length_append, htl]; omega)
      rw [if_neg (nI_ge hlt (by omega)), sS_at hT hsY hlt, Option.bind_some, c1, Option.bind_some, nI_1]
      refine Or.inr ⟨hlt, _, rfl, rfl, hlt, ?_, fr_trans h2 c3⟩
      rw [tk_s hlt, ← List.append_assoc]
      exact c2
  obtain ⟨N, c1, c2, c3⟩ := hL
  unfold f_L_write
  rw [c1, Option.bind_some]
  exact ⟨N, rfl, c2, c3⟩
/-- a number is written -/
def dk (n : Nat) : Nat → List Nat
  | 0 => [48 + n % 10]
  | k + 1 => (48 + n / 10 ^ (k + 1) % 10) :: dk n k
theorem dk_len : ∀ k, (dk n k).length = k + 1
  | 0 => rfl
  | k + 1 => by
    show (dk n k).length + 1 = _
    rw [dk_len k]
theorem wn_loop [gW0] (hw : 900000 ≤ w0) (hn : n ≤ 9999) : ∀ (k fu : Nat) (M : gM) (tx : List Nat), k ≤ 3 → k + 2 ≤ fu → WS T M tx nx → tx.length + k + 1 ≤ 700 → ∃ N, gloop (fun x => f_L_writeNumber_B18 T x.2 0 311 (nI n) x.1) fu (nI (10 ^ k), M) = some N ∧ WS T N (tx ++ dk n k) nx ∧ fr wPt M N
  | 0, fu, M, tx, _, hf, h, hl => by
    obtain ⟨f, rfl⟩ : ∃ f, fu = f + 1 + 1 := ⟨fu - 2, by omega⟩
    obtain ⟨N, c1, c2, c3⟩ := t_put (c := 48 + n % 10) hw h (by omega) (by omega)
    have s1 : f_L_writeNumber_B18 T M 0 311 (nI n) (nI 1) = some (.inr (nI 0, N)) := by
      unfold f_L_writeNumber_B18
      rw [if_neg (nI_nle (by omega) (by decide)), chk_ok (nI_ne0 (by omega) (by decide)), Option.bind_some, div_nI (by omega) (by decide), Nat.div_one, show irem (nI n) (10 : Int32) = nI (n % 10) from rem_nI (b := 10) (by omega) (by decide), show (48 : Int32) + nI (n % 10) = nI (48 + n % 10) from nI_add 48 _, c1, Option.bind_some]
      rfl
    have s2 : f_L_writeNumber_B18 T N 0 311 (nI n) (nI 0) = some (.inl N) := by
      unfold f_L_writeNumber_B18
      rw [if_pos (by decide)]
    refine ⟨N, ?_, c2, c3⟩
    rw [Nat.pow_zero, gloop_two (A := fun x => f_L_writeNumber_B18 T x.2 0 311 (nI n) x.1) (a := (nI 1, M)) s1]
    exact gloop_one (A := fun x => f_L_writeNumber_B18 T x.2 0 311 (nI n) x.1) (a := (nI 0, N)) s2 _
  | k + 1, fu, M, tx, hk, hf, h, hl => by
    obtain ⟨f, rfl⟩ : ∃ f, fu = f + 1 := ⟨fu - 1, by omega⟩
    have hp : 10 ^ (k + 1) ≤ 1000 := Nat.pow_le_pow_right (n := 10) (by decide) hk
    have hp0 : 0 < 10 ^ (k + 1) := Nat.pow_pos (by decide)
    have hdiv : 10 ^ (k + 1) / 10 = 10 ^ k := by
      rw [Nat.pow_succ]
      exact Nat.mul_div_cancel _ (by decide)
    generalize hP : 10 ^ (k + 1) = P at hp hp0 hdiv
    have hdm : n / P ≤ n := Nat.div_le_self _ _
    obtain ⟨N, c1, c2, c3⟩ := t_put (c := 48 + n / P % 10) hw h (by omega) (by omega)
    have s1 : f_L_writeNumber_B18 T M 0 311 (nI n) (nI P) = some (.inr (nI (10 ^ k), N)) := by
      unfold f_L_writeNumber_B18
      rw [if_neg (nI_nle (by omega) (by omega)), chk_ok (nI_ne0 (by omega) (by omega)), Option.bind_some, div_nI (by omega) (by omega), show irem (nI (n / P)) (10 : Int32) = nI (n / P % 10) from rem_nI (b := 10) (by omega) (by decide), show (48 : Int32) + nI (n / P % 10) = nI (48 + n / P % 10) from nI_add 48 _, c1, Option.bind_some, show nI P / (10 : Int32) = nI (P / 10) from div_nI (b := 10) (by omega) (by decide), hdiv]
    obtain ⟨N2, d1, d2, d3⟩ := wn_loop hw hn k f N (tx ++ [48 + n / P % 10]) (by omega) (by omega) c2 (by rw [List.length_append]; show tx.length + 1 + k + 1 ≤ 700; omega)
    refine ⟨N2, ?_, ?_, fr_trans c3 d3⟩
    · rw [gloop_two (A := fun x => f_L_writeNumber_B18 T x.2 0 311 (nI n) x.1) (a := (nI P, M)) s1]
      exact d1
    · rw [List.append_assoc] at d2
      show WS T N2 (tx ++ (48 + n / 10 ^ (k + 1) % 10) :: dk n k) nx
      rw [hP]
      exact d2
theorem dg_dk (hn : n ≤ 9999) : dg n = dk n ((dg n).length - 1) := by
  unfold dg
  by_cases h1 : n < 10
  · rw [if_pos h1]
    show [48 + n] = [48 + n % 10]
    rw [Nat.mod_eq_of_lt h1]
  · by_cases h2 : n < 100
    · rw [if_neg h1, if_pos h2]
      show [48 + n / 10, 48 + n % 10] = [48 + n / 10 ^ 1 % 10, 48 + n % 10]
      rw [Nat.pow_one, Nat.mod_eq_of_lt (show n / 10 < 10 by omega)]
    · by_cases h3 : n < 1000
      · rw [if_neg h1, if_neg h2, if_pos h3]
        show [48 + n / 100, 48 + n / 10 % 10, 48 + n % 10] = [48 + n / 10 ^ 2 % 10, 48 + n / 10 ^ 1 % 10, 48 + n % 10]
        rw [Nat.pow_one, show 10 ^ 2 = 100 by decide, Nat.mod_eq_of_lt (show n / 100 < 10 by omega)]
      · rw [if_neg h1, if_neg h2, if_neg h3]
        show [48 + n / 1000, 48 + n / 100 % 10, 48 + n / 10 % 10, 48 + n % 10] = [48 + n / 10 ^ 3 % 10, 48 + n / 10 ^ 2 % 10, 48 + n / 10 ^ 1 % 10, 48 + n % 10]
        rw [Nat.pow_one, show 10 ^ 2 = 100 by decide, show 10 ^ 3 = 1000 by decide, Nat.mod_eq_of_lt (show n / 1000 < 10 by omega)]
theorem t_num [gW0] (hw : 900000 ≤ w0) (hn : n ≤ 9999) (h : WS T M tx nx) (hl : tx.length + (dg n).length ≤ 700) : ∃ N, f_L_writeNumber T M 0 311 (nI n) = some N ∧ WS T N (tx ++ dg n) nx ∧ fr wPt M N := by
  have hd := dg_ok hn
  have h1 := hd.1.1
  obtain ⟨N, c1, c2, c3⟩ := wn_loop hw hn ((dg n).length - 1) gFU M tx (by omega) (by have : gFU = 3000 := rfl; omega) h (by omega)
  rw [← dg_dk hn] at c2
  have hB : ∀ p, 1 ≤ p → p ≤ 1000 → f_L_writeNumber_B2 T M 0 311 (nI n) (nI p) = if n / 10 < p then some (.inl (nI p)) else some (.inr (nI (p * 10))) := fun p hp hp2 => by
    unfold f_L_writeNumber_B2
    rw [show nI n / (10 : Int32) = nI (n / 10) from div_nI (b := 10) (by omega) (by decide), show nI p * (10 : Int32) = nI (p * 10) from nI_mul p 10]
    by_cases e : n / 10 < p
    · rw [if_pos (nI_lt e (by omega)), if_pos e]
    · rw [if_neg (nI_nlt (by omega) (by omega)), if_neg e]
  have hF : gFU = 2996 + 1 + 1 + 1 + 1 := rfl
  have hL : gloop (fun x => f_L_writeNumber_B2 T M 0 311 (nI n) x) gFU (1 : Int32) = some (nI (10 ^ ((dg n).length - 1))) := by
    rw [hF, show (1 : Int32) = nI 1 from rfl]
    have g2 : ∀ p f, 1 ≤ p → p ≤ 1000 → ¬ n / 10 < p → gloop (fun x => f_L_writeNumber_B2 T M 0 311 (nI n) x) (f + 1) (nI p) = gloop (fun x => f_L_writeNumber_B2 T M 0 311 (nI n) x) f (nI (p * 10)) := fun p f q1 q2 q3 => gloop_two (A := fun x => f_L_writeNumber_B2 T M 0 311 (nI n) x) (by rw [hB p q1 q2, if_neg q3]) f
    have g1 : ∀ p f, 1 ≤ p → p ≤ 1000 → n / 10 < p → gloop (fun x => f_L_writeNumber_B2 T M 0 311 (nI n) x) (f + 1) (nI p) = some (nI p) := fun p f q1 q2 q3 => gloop_one (A := fun x => f_L_writeNumber_B2 T M 0 311 (nI n) x) (by rw [hB p q1 q2, if_pos q3]) f
    unfold dg
    by_cases h1 : n < 10
    · rw [if_pos h1, g1 1 _ (by decide) (by decide) (by omega)]
      rfl
    · by_cases h2 : n < 100
      · rw [if_neg h1, if_pos h2, g2 1 _ (by decide) (by decide) (by omega), g1 (1 * 10) _ (by decide) (by decide) (by omega)]
        rfl
      · by_cases h3 : n < 1000
        · rw [if_neg h1, if_neg h2, if_pos h3, g2 1 _ (by decide) (by decide) (by omega), g2 (1 * 10) _ (by decide) (by decide) (by omega), g1 (1 * 10 * 10) _ (by decide) (by decide) (by omega)]
          rfl
        · rw [if_neg h1, if_neg h2, if_neg h3, g2 1 _ (by decide) (by decide) (by omega), g2 (1 * 10) _ (by decide) (by decide) (by omega), g2 (1 * 10 * 10) _ (by decide) (by decide) (by omega), g1 (1 * 10 * 10 * 10) _ (by decide) (by decide) (by omega)]
          rfl
  unfold f_L_writeNumber
  rw [hL, Option.bind_some, c1, Option.bind_some]
  exact ⟨N, rfl, c2, c3⟩
end PPU
