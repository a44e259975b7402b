/-! THE WEIGHT OF A LIBRARY: both sides -/
def wL (t : Nat × Nat) : Nat := if t.1 < 2 then 2 else 1
def wP (k : Nat → Nat × Nat) : Nat → Nat
  | 0 => 0
  | t + 1 => wP k t + wL (k t)
/-- the reference's code in the array B -/
def wRf (M : gM) (B : Nat) (k : Nat → Nat × Nat) (m : Nat) : Prop := (gi M B 5 = nI (wP k m) ∧ wP k m ≤ 1300 ∧ ∀ t, t < m → gi M B (198 + wP k t) = nI (k t).1 ∧ ((k t).1 < 2 → gi M B (198 + wP k t + 1) = nI (k t).2)) ∨ (gi M B 5 = 0 ∧ m = 1 ∧ k 0 = (1, 0))
/-- the quantities of a library -/
def vQ (M : gM) (D i q : Nat) : Nat := if q = 0 then (dTr M D i).toNatClampNeg else if q = 1 then (dRk M D i).toNatClampNeg else if q = 2 then cntN (fun n => decide (dOf M D i n ≠ -1)) 12 else vFr M D (nI i)
theorem wP_mono {k : Nat → Nat × Nat} {t : Nat} : ∀ {m : Nat}, t < m → wP k t + wL (k t) ≤ wP k m
  | 0, h => by omega
  | m + 1, h => by
    show _ ≤ wP k m + wL (k m)
    by_cases e : t = m
    · rw [e]
      exact Nat.le_refl _
    · have := wP_mono (k := k) (show t < m by omega)
      omega
theorem wP_pos (k : Nat → Nat × Nat) (m : Nat) : m ≤ wP k m := by
  induction m with
  | zero => exact Nat.zero_le _
  | succ m ih =>
    show _ ≤ wP k m + wL (k m)
    unfold wL
    split <;> omega
section PMW
variable {T : gT} {M : gM} {D i m : Nat} {k : Nat → Nat × Nat}
theorem vQ_le (hV : gVal T M D) (hi : i < dNl M D) : ∀ q, q < 4 → vQ M D i q ≤ 9999 := by
  intro q hq
  obtain ⟨-, h8, -, -, -, hL⟩ := hV
  obtain ⟨⟨t, ht, h1⟩, -, h2, -⟩ := hL i hi
  unfold vQ
  split
  · rw [h1, nI_clamp (by omega)]
    omega
  · split
    · rcases h2 with h2 | ⟨r, hr, h2⟩
      · rw [h2]
        decide
      · rw [h2, nI_clamp (by omega)]
        omega
    · split
      · have := cntN_le (fun n => decide (dOf M D i n ≠ -1)) 12
        omega
      · unfold vFr
        have := cntN_le (fun k => decide (dRk M D k ≠ -1) && anyN (fun j => decide (dPr M D k j = nI i)) (dPk M D k)) (dNl M D)
        omega
theorem vQ_0 (hV : gVal T M D) (hi : i < dNl M D) : dTr M D i = nI (vQ M D i 0) := by
  obtain ⟨⟨t, ht, h1⟩, -⟩ := hV.2.2.2.2.2 i hi
  unfold vQ
  rw [if_pos rfl, h1, nI_clamp (by omega)]
theorem vQ_1 (hV : gVal T M D) (hi : i < dNl M D) (hl : dRk M D i ≠ -1) : dRk M D i = nI (vQ M D i 1) := by
  obtain ⟨-, -, h2, -⟩ := hV.2.2.2.2.2 i hi
  unfold vQ
  rw [if_neg (by decide), if_pos rfl]
  rcases h2 with h2 | ⟨r, hr, h2⟩
  · exact absurd h2 hl
  · rw [h2, nI_clamp (by omega)]
/-- the class's weight object: w, its code w + 1, its stack w + 2 -/
def gWt (T : gT) (M : gM) (D : Nat) (k : Nat → Nat × Nat) (m : Nat) : Prop := ∃ w, gr M D 4 = some w ∧ T[w]? = some (7, 0) ∧ gr M w 0 = some (w + 1) ∧ T[w + 1]? = some (11, m) ∧ gr M w 1 = some (w + 2) ∧ T[w + 2]? = some (11, 11) ∧ (w = 7 ∨ w = 39 ∨ (∃ j, j < 8 ∧ w = 80 + 29 * j) ∨ ∃ j, w = 359 + 3 * j) ∧ ∀ t, t < m → gi M (w + 1) t = wCls (k t)
/-- the stacks of the class's weights -/
def gStk (b : Nat) : Prop := b = 9 ∨ b = 41 ∨ (∃ j, j < 8 ∧ b = 82 + 29 * j) ∨ ∃ j, b = 361 + 3 * j
theorem p_X0_weightOf (hV : gVal T M D) (hi : i < dNl M D) (hl : dRk M D i ≠ -1) (hW : gWt T M D k m) (hok : wOK k m) (hm : m ≤ 2000) : ∃ N, f_X0_weightOf T M D (nI i) = some (nI (wV k m (vQ M D i)), N) ∧ fr (fun b _ => gStk b) M N := by
  have hi8 : i < 8 := Nat.lt_of_lt_of_le hi hV.2.1
  obtain ⟨w, g4, hw, g0, hc, g1, hs, hww, hk⟩ := hW
  unfold f_X0_weightOf
  obtain ⟨N, c1, c2⟩ := p_X7_valueOf (Q := vQ M D i) g0 hc g1 hs (by omega) hk hok hm (vQ_le hV hi)
  rw [p_row1 hV.1, Option.bind_some, p_row2 hV.1 hi8, Option.bind_some, ldr_ok g4 hw, Option.bind_some, p_countOffers hV.1 hi8, Option.bind_some, p_friendsOf hV, Option.bind_some, show gi M (D + 5 + 3 * i) 0 = nI (vQ M D i 0) from vQ_0 hV hi, show gi M (D + 5 + 3 * i) 2 = nI (vQ M D i 1) from vQ_1 hV hi hl, show nI (cntN (fun n => decide (dOf M D i n ≠ -1)) 12) = nI (vQ M D i 2) from rfl, show nI (vFr M D (nI i)) = nI (vQ M D i 3) from rfl, c1, Option.bind_some]
  refine ⟨N, rfl, fr_mono c2 (fun b _ hb => ?_)⟩
  subst hb
  unfold gStk
  rcases hww with h | h | ⟨j, hj, h⟩ | ⟨j, h⟩
  · omega
  · omega
  · exact Or.inr (Or.inr (Or.inl ⟨j, hj, by omega⟩))
  · exact Or.inr (Or.inr (Or.inr ⟨j, by omega⟩))
theorem p_X9_weightOf (hX : gFx T M) (hV : gVal T M D) (hE : gEq M D 313) (hi : i < dNl M D) (hW : wRf M 313 k m) (hok : wOK k m) (hm : m ≤ 2000) : ∃ l : Nat → Nat → Int64, f_X9_weightOf T M 311 (nI i) = some (if dRk M D i = -1 then -1 else nI (wV k m (vQ M D i)), (M.1, l, M.2.2)) ∧ ∀ b j, b ≠ 326 → l b j = gl M b j := by
  have hM := gMo_Fx hX
  have h8 := hV.2.1
  unfold f_X9_weightOf
  rw [p_mLoaded hM hE h8 hi, Option.bind_some]
  by_cases hl : dRk M D i = -1
  · rw [if_pos hl, if_neg (by decide), if_pos hl]
    exact ⟨M.2.1, rfl, fun _ _ _ => rfl⟩
  · have hQ := vQ_le hV hi
    have hin := wS_in (k := k) (Q := vQ M D i) hok.2 hQ
    rw [if_neg hl, if_pos (by decide), if_neg hl, r_311_18 hX, Option.bind_some, p_mdat hM, Option.bind_some, p_at, Option.bind_some, show (0 : Int32) = nI 0 from rfl, nI_add, p_mald hM (by omega), Option.bind_some, show gi M 313 (6 + 24 * i + 0) = nI (vQ M D i 0) from (hE.2.2.2 i hi).1.trans (vQ_0 hV hi), astl_ok (s_326 hX) (by decide) (by decide), Option.bind_some]
    have hL : ∃ e, gloop (fun x => f_X9_weightOf_B32 T x.2.2 311 (nI i) x.1 x.2.1) gFU (nI 0, nI 0, sl M 326 0 (nI (vQ M D i 0)).toInt64) = some e ∧ ∃ l : Nat → Nat → Int64, e = (M.1, l, M.2.2) ∧ (∀ b j, b ≠ 326 → l b j = gl M b j) ∧ l 326 0 = iL (wS k (vQ M D i) m 0) := by
      rcases hW with ⟨w1, w2, w3⟩ | ⟨w1, w2, w3⟩
      · refine gloop_ex (P := fun t y => y.1 = nI (wH k t) ∧ y.2.1 = nI (wP k t) ∧ t ≤ m ∧ ∃ l : Nat → Nat → Int64, y.2.2 = (M.1, l, M.2.2) ∧ (∀ b j, b ≠ 326 → l b j = gl M b j) ∧ ∀ j, j < wH k t → l 326 j = iL (wS k (vQ M D i) t j)) (fu := gFU) m (Nat.lt_of_le_of_lt hm (by decide)) ⟨rfl, rfl, Nat.zero_le _, _, rfl, fun b j hb => ?_, fun j hj => absurd hj (Nat.not_lt_zero j)⟩ (fun t y _ hP => ?_)
        · show gl (sl M 326 0 _) b j = _
          rw [gl_sl, if_neg (fun q => hb q.1)]
        · obtain ⟨y1, y2, N⟩ := y
          obtain ⟨rfl, rfl, htm, l, rfl, hF, hst⟩ := hP
          have hXN : gFx T (M.1, l, M.2.2) := hX
          have hMN : gMo T (M.1, l, M.2.2) := hM
          have hVN : gVal T (M.1, l, M.2.2) D := hV
          have hEN : gEq (M.1, l, M.2.2) D 313 := hE
          have hgi : ∀ b j, gi (M.1, l, M.2.2) b j = gi M b j := fun _ _ => rfl
          show (∃ e, f_X9_weightOf_B32 T (M.1, l, M.2.2) 311 (nI i) (nI (wH k t)) (nI (wP k t)) = some (.inl e) ∧ _) ∨ _
          unfold f_X9_weightOf_B32 f_X9_weightOf_147 f_X9_weightOf_184
          rw [p_mdat hMN, Option.bind_some, show (5 : Int32) = nI 5 from rfl, p_mald hMN (by omega), Option.bind_some, hgi, w1]
          by_cases e : t = m
          · subst e
            rw [if_pos (nI_le (Nat.le_refl _) (by omega))]
            exact Or.inl ⟨_, rfl, l, rfl, hF, hst 0 hok.1⟩
          · have hlt : t < m := by omega
            have hpm := wP_mono (k := k) hlt
            have hpl : 1 ≤ wL (k t) := by unfold wL; split <;> omega
            have hh := wH_le hok.2 t htm
            obtain ⟨v1, v2⟩ := w3 t hlt
            rw [if_neg (nI_ge (a := wP k t) (by omega) (by omega)), Option.bind_some, show (198 : Int32) = nI 198 from rfl, nI_add, p_mald hMN (by omega), Option.bind_some, hgi, v1, r_311_18 hXN]
            rcases (show (((k t).1 = 0 ∧ (k t).2 ≤ 9999) ∨ ((k t).1 = 1 ∧ (k t).2 < 4)) ∧ wH k t < 11 ∨ (2 ≤ (k t).1 ∧ (k t).1 ≤ 5 ∧ 2 ≤ wH k t) from by
                have := hok.2 t hlt
                unfold wG at this
                omega) with ⟨hg', h11⟩ | ⟨ho1, ho2, h2⟩
            · have hwl : wL (k t) = 2 := if_pos (by omega)
              have e1 : wH k (t + 1) = wH k t + 1 := if_pos (by omega)
              have e3 : wP k (t + 1) = wP k t + 2 := by show wP k t + wL (k t) = _; rw [hwl]
              have e2 : wS k (vQ M D i) (t + 1) = wU (wS k (vQ M D i) t) (wH k t) ((if (k t).1 = 0 then (k t).2 else vQ M D i (k t).2 : Nat) : Int) := by
                show (if (k t).1 = 0 then _ else _) = _
                rcases hg' with ⟨z, -⟩ | ⟨z, -⟩
                · rw [if_pos z, if_pos z]
                · rw [if_neg (by omega), if_pos z, if_neg (by omega)]
              have hfin : ∀ v : Nat, v ≤ 9999 → v = (if (k t).1 = 0 then (k t).2 else vQ M D i (k t).2) → (t < m ∧ ∃ y', (astl T (M.1, l, M.2.2) 326 (nI (wH k t)) (nI v).toInt64).bind (fun M1 => some (.inr (nI (wH k t) + (1 : Int32), (nI (wP k t) + (1 : Int32)) + (1 : Int32), M1))) = some (Sum.inr (α := gM) y') ∧ y'.1 = nI (wH k (t + 1)) ∧ y'.2.1 = nI (wP k (t + 1)) ∧ t + 1 ≤ m ∧ ∃ l' : Nat → Nat → Int64, y'.2.2 = (M.1, l', M.2.2) ∧ (∀ b j, b ≠ 326 → l' b j = gl M b j) ∧ ∀ j, j < wH k (t + 1) → l' 326 j = iL (wS k (vQ M D i) (t + 1) j)) := fun v hv9 hv => by
                rw [astl_ok (s_326 hXN) (show wH k t < 1300 by omega) (by decide), Option.bind_some, nI_1, nI_1, nI_1]
                refine ⟨hlt, _, rfl, by rw [e1], by rw [e3], hlt, _, rfl, fun b j hb => ?_, fun j hj => ?_⟩
                · show gl (sl (M.1, l, M.2.2) 326 (wH k t) _) b j = _
                  rw [gl_sl, if_neg (fun q => hb q.1)]
                  exact hF b j hb
                · rw [e1] at hj
                  show gl (sl (M.1, l, M.2.2) 326 (wH k t) _) 326 j = _
                  rw [gl_sl, e2, ← hv]
                  unfold wU
                  by_cases ej : j = wH k t
                  · rw [if_pos ⟨rfl, ej⟩, if_pos ej, ← iI_N, iI_L (by omega) (by omega)]
                  · rw [if_neg (fun q => ej q.2), if_neg ej]
                    exact hst j (by omega)
              have v3 := v2 (by omega)
              rw [if_neg (show ¬ ((1 : Int32) < nI (k t).1) from nI_nlt (b := (k t).1) (a := 1) (by omega) (by omega)), Option.bind_some, nI_1, nI_add, show 198 + (wP k t + 1) = 198 + wP k t + 1 by omega, p_mald hMN (by omega), Option.bind_some, hgi, v3, Option.bind_some, ← nI_1]
              rcases hg' with ⟨z, z9⟩ | ⟨z, z4⟩
              · rw [if_neg (fun q => q (by rw [z]; rfl))]
                exact Or.inr (hfin _ z9 (by rw [if_pos z]))
              · rw [if_pos (show ¬ (nI (k t).1 = 0) by rw [z]; decide)]
                rw [if_neg (show ¬ (k t).1 = 0 by omega)] at hfin
                rcases (show (k t).2 = 0 ∨ (k t).2 = 1 ∨ (k t).2 = 2 ∨ (k t).2 = 3 by omega) with e | e | e | e
                · rw [e] at hfin ⊢
                  rw [if_neg (fun q => q rfl), Option.bind_some, p_at, Option.bind_some, show nI (6 + 24 * i) + (0 : Int32) = nI (6 + 24 * i + 0) from nI_add _ 0, p_mald hMN (by omega), Option.bind_some, hgi, show gi M 313 (6 + 24 * i + 0) = nI (vQ M D i 0) from (hE.2.2.2 i hi).1.trans (vQ_0 hV hi)]
                  exact Or.inr (hfin _ (hQ 0 (by omega)) rfl)
                · rw [e] at hfin ⊢
                  rw [if_pos (by decide), if_neg (fun q => q rfl), p_mRank hMN hVN hEN hi, Option.bind_some, show dRk (M.1, l, M.2.2) D i = nI (vQ M D i 1) from vQ_1 hV hi hl]
                  exact Or.inr (hfin _ (hQ 1 (by omega)) rfl)
                · rw [e] at hfin ⊢
                  rw [if_pos (by decide), if_pos (by decide), if_neg (fun q => q rfl), p_mOffers hMN hVN hEN hi, Option.bind_some, show nI (cntN (fun n => decide (dOf (M.1, l, M.2.2) D i n ≠ -1)) 12) = nI (vQ M D i 2) from rfl]
                  exact Or.inr (hfin _ (hQ 2 (by omega)) rfl)
                · rw [e] at hfin ⊢
                  rw [if_pos (by decide), if_pos (by decide), if_pos (by decide), p_mFriends hMN hVN hEN, Option.bind_some, show nI (vFr (M.1, l, M.2.2) D (nI i)) = nI (vQ M D i 3) from rfl]
                  exact Or.inr (hfin _ (hQ 3 (by omega)) rfl)
            · have hwl : wL (k t) = 1 := if_neg (by omega)
              have e1 : wH k (t + 1) = wH k t - 1 := if_neg (by omega)
              have e3 : wP k (t + 1) = wP k t + 1 := by show wP k t + wL (k t) = _; rw [hwl]
              have e2 : wS k (vQ M D i) (t + 1) = wU (wS k (vQ M D i) t) (wH k t - 2) (opr (k t).1 (wS k (vQ M D i) t (wH k t - 2)) (wS k (vQ M D i) t (wH k t - 1))) := by
                show (if (k t).1 = 0 then _ else _) = _
                rw [if_neg (by omega), if_neg (by omega)]
              obtain ⟨a, ha⟩ : ∃ a, wH k t = a + 2 := ⟨wH k t - 2, by omega⟩
              rw [ha] at e1 e2 hst hh
              have i3 := hin t htm a
              have i4 := hin t htm (a + 1)
              have s3 : gl (M.1, l, M.2.2) 326 a = iL (wS k (vQ M D i) t a) := hst a (by omega)
              have s4 : gl (M.1, l, M.2.2) 326 (a + 1) = iL (wS k (vQ M D i) t (a + 1)) := hst (a + 1) (by omega)
              rw [if_pos (show (1 : Int32) < nI (k t).1 from nI_lt (a := 1) (by omega) (by omega)), Option.bind_some, Option.bind_some, ha, show nI (a + 2) + (-1 : Int32) = nI (a + 1) from pk_m1 (a + 1), nI_pred, aldl_ok (s_326 hXN) (by omega) (by decide), Option.bind_some, Option.bind_some, aldl_ok (s_326 hXN) (by omega) (by decide), Option.bind_some, s3, s4, m_opr ⟨ho1, ho2⟩ i3.1 i3.2 i4.1 i4.2, Option.bind_some, astl_ok (s_326 hXN) (by omega) (by decide), Option.bind_some, nI_1]
              refine Or.inr ⟨hlt, _, rfl, by rw [e1]; rfl, by rw [e3], hlt, _, rfl, fun b j hb => ?_, fun j hj => ?_⟩
              · show gl (sl (M.1, l, M.2.2) 326 a _) b j = _
                rw [gl_sl, if_neg (fun q => hb q.1)]
                exact hF b j hb
              · rw [e1] at hj
                show gl (sl (M.1, l, M.2.2) 326 a _) 326 j = _
                rw [gl_sl, e2]
                unfold wU
                by_cases ej : j = a
                · rw [if_pos ⟨rfl, ej⟩, if_pos (by omega)]
                  rfl
                · rw [if_neg (fun q => ej q.2), if_neg (by omega)]
                  exact hst j (by omega)
      · refine ⟨sl M 326 0 (nI (vQ M D i 0)).toInt64, gloop_for (fun _ => (nI 0, nI 0, sl M 326 0 (nI (vQ M D i 0)).toInt64)) 0 (by decide) (fun i hi => absurd hi (Nat.not_lt_zero i)) ?_, (sl M 326 0 (nI (vQ M D i 0)).toInt64).2.1, rfl, fun b j hb => ?_, ?_⟩
        · show f_X9_weightOf_B32 T (sl M 326 0 _) 311 (nI i) (nI 0) (nI 0) = some (.inl (sl M 326 0 (nI (vQ M D i 0)).toInt64))
          unfold f_X9_weightOf_B32
          have hMS : gMo T (sl M 326 0 (nI (vQ M D i 0)).toInt64) := hM
          rw [p_mdat hMS, Option.bind_some, show (5 : Int32) = nI 5 from rfl, p_mald hMS (by omega), Option.bind_some, show gi (sl M 326 0 (nI (vQ M D i 0)).toInt64) 313 5 = 0 from w1, if_pos (by decide)]
        · show gl (sl M 326 0 _) b j = _
          rw [gl_sl, if_neg (fun q => hb q.1)]
        · show gl (sl M 326 0 _) 326 0 = _
          rw [gl_sl, if_pos ⟨rfl, rfl⟩, w2]
          have e2 : wS k (vQ M D i) 1 = wU (fun _ => 0) 0 (vQ M D i 0 : Int) := by
            show (if (k 0).1 = 0 then _ else if (k 0).1 = 1 then _ else _) = _
            rw [w3]
            rfl
          rw [e2, ← iI_N, iI_L (by omega) (by have := hQ 0 (by omega); omega)]
          rfl
    obtain ⟨e, h1, l, rfl, h3, h4⟩ := hL
    have hz := hin m (Nat.le_refl m) 0
    have hXN : gFx T (M.1, l, M.2.2) := hX
    have h5 : gl (M.1, l, M.2.2) 326 0 = iL (wS k (vQ M D i) m 0) := h4
    have ez := iL_toInt (z := wS k (vQ M D i) m 0) (by omega) (by omega)
    rw [h1, Option.bind_some, r_311_18 hXN, Option.bind_some, aldl_ok (s_326 hXN) (by decide) (by decide), Option.bind_some, h5]
    refine ⟨l, ?_, h3⟩
    by_cases c1 : wS k (vQ M D i) m 0 < 0
    · rw [if_neg (by rw [show nI 0 = (0 : Int32) from rfl, lg_cmp_ge, Int64.le_iff_toInt_le, ez, show (0 : Int64).toInt = 0 from rfl]; omega)]
      unfold wV
      rw [if_pos c1]
    · rw [if_pos (by rw [show nI 0 = (0 : Int32) from rfl, lg_cmp_ge, Int64.le_iff_toInt_le, ez, show (0 : Int64).toInt = 0 from rfl]; omega), Option.bind_some, aldl_ok (s_326 hXN) (by decide) (by decide), Option.bind_some, h5]
      by_cases c2 : 9999 < wS k (vQ M D i) m 0
      · rw [if_neg (by rw [show nI 0 = (0 : Int32) from rfl, lg_cmp_le, Int64.le_iff_toInt_le, ez, show (9999 : Int64).toInt = 9999 from rfl]; omega)]
        unfold wV
        rw [if_neg c1, if_pos c2]
        rfl
      · rw [if_pos (by rw [show nI 0 = (0 : Int32) from rfl, lg_cmp_le, Int64.le_iff_toInt_le, ez, show (9999 : Int64).toInt = 9999 from rfl]; omega), Option.bind_some, aldl_ok (s_326 hXN) (by decide) (by decide), Option.bind_some, h5, iL_I]
        unfold wV
        rw [if_neg c1, if_neg c2, ← iI_N]
        congr 3
        omega
end PMW
