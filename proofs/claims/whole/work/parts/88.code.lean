/-! THE CODE OF A WEIGHT as both parsers write it -/
/-- both codes so far: F numbers and quantities, height H -/
def cW (M R : gM) (F H : Nat) : Prop := ∃ (k : Nat → Nat × Nat) (m : Nat), gi M 2 5 = nI m ∧ gi R 314 5 = nI (wP k m) ∧ m + H = 2 * F ∧ wP k m + H = 3 * F ∧ wH k m = H ∧ (∀ t, t < m → gi M 36 t = wCls (k t) ∧ gi R 314 (198 + wP k t) = nI (k t).1 ∧ ((k t).1 < 2 → gi R 314 (198 + wP k t + 1) = nI (k t).2)) ∧ ∀ t, t < m → wG k t
def cS9 (b j : Nat) : Prop := cS0 b j ∨ (b = 2 ∧ j = 5) ∨ b = 36
def rS9 (b j : Nat) : Prop := rS0 b j ∨ (b = 311 ∧ j = 13) ∨ (b = 314 ∧ (j = 5 ∨ 198 ≤ j))
abbrev cQ (M M' : gM) : Prop := fz cS9 tL M M'
abbrev rQ9 (R R' : gM) : Prop := fz rS9 (fun _ _ => False) R R'
theorem cP_Q {M M' : gM} (h : cP M M') : cQ M M' := fz_mono h (fun _ _ q => Or.inl q) (fun _ _ q => q)
theorem rE_Q {R R' : gM} (h : rE R R') : rQ9 R R' := fz_mono h (fun _ _ q => Or.inl q) (fun _ _ q => q)
section PCW
variable {T U : gT} {M R M' R' : gM} {B : Nat → Nat} {n s e p F H P m d : Nat} {k k' : Nat → Nat × Nat}
theorem wH_ext : ∀ {m : Nat}, (∀ t, t < m → k' t = k t) → wH k' m = wH k m
  | 0, _ => rfl
  | m + 1, h => by
    unfold wH
    rw [h m (by omega), wH_ext (fun t ht => h t (by omega))]
theorem wP_ext : ∀ {m : Nat}, (∀ t, t < m → k' t = k t) → wP k' m = wP k m
  | 0, _ => rfl
  | m + 1, h => by
    unfold wP
    rw [h m (by omega), wP_ext (fun t ht => h t (by omega))]
theorem wG_ext {t : Nat} (h : ∀ i, i ≤ t → k' i = k i) (g : wG k t) : wG k' t := by
  unfold wG at g ⊢
  rw [h t (Nat.le_refl t), wH_ext (fun i hi => h i (by omega))]
  exact g
theorem cW_fr (h : cW M R F H) (hM : cP M M') (hR : rE R R') : cW M' R' F H := by
  obtain ⟨k, m, a1, a2, a3, a4, a5, a6, a7⟩ := h
  refine ⟨k, m, (hM.2.2 2 5 (fun q => by unfold cS0 tS at q; omega)).trans a1, (hR.2.2 314 5 (fun q => by unfold rS0 at q; omega)).trans a2, a3, a4, a5, fun t ht => ?_, a7⟩
  obtain ⟨b1, b2, b3⟩ := a6 t ht
  exact ⟨(hM.2.2 36 t (fun q => by unfold cS0 tS at q; omega)).trans b1, (hR.2.2 314 _ (fun q => by unfold rS0 at q; omega)).trans b2, fun y => (hR.2.2 314 _ (fun q => by unfold rS0 at q; omega)).trans (b3 y)⟩
theorem m_emit {x : Int32} (hX : gFx U R) (hg : gi R 311 5 = 0) (hP : gi R 314 5 = nI P) (h : P ≤ 1299) : f_X9_emit U R 311 x = some (si (si R 314 (198 + P) x) 314 5 (nI (P + 1))) := by
  have hX1 : gFx U (si R 314 (198 + P) x) := gFx_gr hX (fun _ _ => rfl)
  unfold f_X9_emit
  rw [m_good hg, Option.bind_some, if_pos (show ¬ ((1 : Int32) = 0) by decide), r_311_9 hX, Option.bind_some, Option.bind_some, show ald U R 314 (5 : Int32) = some (gi R 314 5) from a314 (j := 5) hX (by omega), Option.bind_some, hP, show (198 : Int32) = nI 198 from rfl, nI_add, t314 hX (by omega), Option.bind_some, r_311_9 hX1, Option.bind_some, show ald U (si R 314 (198 + P) x) 314 (5 : Int32) = some (gi (si R 314 (198 + P) x) 314 5) from a314 (j := 5) hX1 (by omega), Option.bind_some, gi_si, if_neg (by omega), hP, nI_1, show ast U (si R 314 (198 + P) x) 314 (5 : Int32) (nI (P + 1)) = some (si (si R 314 (198 + P) x) 314 5 (nI (P + 1))) from t314 (j := 5) hX1 (by omega), Option.bind_some]
theorem m_emit_bad {x : Int32} (h : gi R 311 5 ≠ 0) : f_X9_emit U R 311 x = some R := by
  unfold f_X9_emit
  rw [m_bad h, Option.bind_some, if_neg (fun q => q rfl)]
theorem c_addCode {x : Int32} (hX : gFx T M) (h5 : gi M 2 5 = nI m) (hm : m < 800) : f_X5_addCode T M 2 x = some (si (si M 36 m x) 2 5 (nI (m + 1))) := by
  unfold f_X5_addCode
  rw [h5, if_neg (show ¬ (800 : Int32) ≤ nI m from nI_ge (b := 800) hm (by decide)), r_2_4 hX, Option.bind_some, ast_ok (s_36 hX) hm (by decide), Option.bind_some, gi_si, if_neg (by omega), h5, nI_1]
/-- both add one more item -/
theorem cW_add (h : cW M R F H) {o v : Nat} (hok : (o = 0 ∧ v ≤ 9999 ∧ H < 11) ∨ (o = 1 ∧ v < 4 ∧ H < 11)) {x : Int32} (hx : x = wCls (o, v)) (hX : gFx T M) (hXR : gFx U R) (hg : gi R 311 5 = 0) (hF : 2 * F ≤ 798) : ∃ M' R1 R', f_X5_addCode T M 2 x = some M' ∧ f_X9_emit U R 311 (nI o) = some R1 ∧ f_X9_emit U R1 311 (nI v) = some R' ∧ cQ M M' ∧ rQ9 R R' ∧ (∀ b j, b ≠ 36 → ¬ (b = 2 ∧ j = 5) → gi M' b j = gi M b j) ∧ (∀ b j, gl M' b j = gl M b j) ∧ (∀ b j, b ≠ 314 → gi R' b j = gi R b j) ∧ cW M' R' (F + 1) (H + 1) := by
  obtain ⟨k, m, a1, a2, a3, a4, a5, a6, a7⟩ := h
  have hm : m < 800 := by omega
  have hP : wP k m ≤ 1200 := by omega
  have hX1 : gFx U (si (si R 314 (198 + wP k m) (nI o)) 314 5 (nI (wP k m + 1))) := gFx_gr hXR (fun _ _ => rfl)
  refine ⟨_, _, _, c_addCode hX a1 hm, m_emit hXR hg a2 (by omega), m_emit hX1 (by rw [gi_si, if_neg (by omega), gi_si, if_neg (by omega)]; exact hg) (P := wP k m + 1) (by rw [gi_si, if_pos ⟨rfl, rfl⟩]) (by omega), fz_si (fz_si fz_refl (Or.inr (Or.inr rfl))) (Or.inr (Or.inl ⟨rfl, rfl⟩)), fz_si (fz_si (fz_si (fz_si fz_refl (Or.inr (Or.inr ⟨rfl, by omega⟩))) (Or.inr (Or.inr ⟨rfl, by omega⟩))) (Or.inr (Or.inr ⟨rfl, by omega⟩))) (Or.inr (Or.inr ⟨rfl, by omega⟩)), fun b j q1 q2 => by rw [gi_si, if_neg q2, gi_si, if_neg (fun z => q1 z.1)], fun _ _ => rfl, fun b j q => by rw [gi_si, if_neg (fun z => q z.1), gi_si, if_neg (fun z => q z.1), gi_si, if_neg (fun z => q z.1), gi_si, if_neg (fun z => q z.1)], ?_⟩
  have ek : ∀ t, t < m → (fun t => if t = m then (o, v) else k t) t = k t := fun t ht => if_neg (by omega)
  have em : (fun t => if t = m then (o, v) else k t) m = (o, v) := if_pos rfl
  have eP : wP (fun t => if t = m then (o, v) else k t) (m + 1) = wP k m + 2 := by
    show wP (fun t => if t = m then (o, v) else k t) m + wL ((fun t => if t = m then (o, v) else k t) m) = _
    rw [wP_ext ek, em]
    unfold wL
    rw [if_pos (show o < 2 by omega)]
  have eH : wH (fun t => if t = m then (o, v) else k t) (m + 1) = H + 1 := by
    show (if ((fun t => if t = m then (o, v) else k t) m).1 < 2 then wH (fun t => if t = m then (o, v) else k t) m + 1 else wH (fun t => if t = m then (o, v) else k t) m - 1) = _
    rw [em, if_pos (show o < 2 by omega), wH_ext ek, a5]
  refine ⟨fun t => if t = m then (o, v) else k t, m + 1, by rw [gi_si, if_pos ⟨rfl, rfl⟩], by rw [eP, gi_si, if_pos ⟨rfl, rfl⟩], by omega, by rw [eP]; omega, eH, fun t ht => ?_, fun t ht => ?_⟩
  · by_cases et : t = m
    · subst et
      rw [em, wP_ext ek]
      refine ⟨by rw [gi_si, if_neg (by omega), gi_si, if_pos ⟨rfl, rfl⟩]; exact hx, by rw [gi_si, if_neg (by omega), gi_si, if_neg (by omega), gi_si, if_neg (by omega), gi_si, if_pos ⟨rfl, rfl⟩], fun _ => by rw [gi_si, if_neg (by omega), gi_si, if_pos ⟨rfl, by omega⟩]⟩
    · have ht2 : t < m := by omega
      have hp := wP_mono (k := k) ht2
      obtain ⟨b1, b2, b3⟩ := a6 t ht2
      have hwl : 1 ≤ wL (k t) := by unfold wL; split <;> omega
      rw [ek t ht2, wP_ext (fun i hi => ek i (by omega))]
      refine ⟨by rw [gi_si, if_neg (by omega), gi_si, if_neg (by omega)]; exact b1, by rw [gi_si, if_neg (by omega), gi_si, if_neg (by omega), gi_si, if_neg (by omega), gi_si, if_neg (by omega)]; exact b2, fun y => ?_⟩
      have : wL (k t) = 2 := by unfold wL; rw [if_pos y]
      rw [gi_si, if_neg (by omega), gi_si, if_neg (by omega), gi_si, if_neg (by omega), gi_si, if_neg (by omega)]
      exact b3 y
  · by_cases et : t = m
    · subst et
      unfold wG
      rw [em, wH_ext ek, a5]
      dsimp only
      omega
    · exact wG_ext (fun i hi => ek i (by omega)) (a7 t (by omega))
/-- both add an operation -/
theorem cW_op (h : cW M R F H) {o : Nat} (ho : 2 ≤ o ∧ o ≤ 5) (hH : 2 ≤ H) {x : Int32} (hx : x = wCls (o, 0)) (hX : gFx T M) (hXR : gFx U R) (hg : gi R 311 5 = 0) (hF : 2 * F ≤ 801) : ∃ M' R', f_X5_addCode T M 2 x = some M' ∧ f_X9_emit U R 311 (nI o) = some R' ∧ cQ M M' ∧ rQ9 R R' ∧ (∀ b j, b ≠ 36 → ¬ (b = 2 ∧ j = 5) → gi M' b j = gi M b j) ∧ (∀ b j, gl M' b j = gl M b j) ∧ (∀ b j, b ≠ 314 → gi R' b j = gi R b j) ∧ cW M' R' F (H - 1) := by
  obtain ⟨k, m, a1, a2, a3, a4, a5, a6, a7⟩ := h
  have hm : m < 800 := by omega
  have hP : wP k m ≤ 1201 := by omega
  refine ⟨_, _, c_addCode hX a1 hm, m_emit hXR hg a2 (by omega), fz_si (fz_si fz_refl (Or.inr (Or.inr rfl))) (Or.inr (Or.inl ⟨rfl, rfl⟩)), fz_si (fz_si fz_refl (Or.inr (Or.inr ⟨rfl, by omega⟩))) (Or.inr (Or.inr ⟨rfl, by omega⟩)), fun b j q1 q2 => by rw [gi_si, if_neg q2, gi_si, if_neg (fun z => q1 z.1)], fun _ _ => rfl, fun b j q => by rw [gi_si, if_neg (fun z => q z.1), gi_si, if_neg (fun z => q z.1)], ?_⟩
  have ek : ∀ t, t < m → (fun t => if t = m then (o, 0) else k t) t = k t := fun t ht => if_neg (by omega)
  have em : (fun t => if t = m then (o, 0) else k t) m = (o, 0) := if_pos rfl
  have eP : wP (fun t => if t = m then (o, 0) else k t) (m + 1) = wP k m + 1 := by
    show wP (fun t => if t = m then (o, 0) else k t) m + wL ((fun t => if t = m then (o, 0) else k t) m) = _
    rw [wP_ext ek, em]
    unfold wL
    rw [if_neg (show ¬ o < 2 by omega)]
  have eH : wH (fun t => if t = m then (o, 0) else k t) (m + 1) = H - 1 := by
    show (if ((fun t => if t = m then (o, 0) else k t) m).1 < 2 then wH (fun t => if t = m then (o, 0) else k t) m + 1 else wH (fun t => if t = m then (o, 0) else k t) m - 1) = _
    rw [em, if_neg (show ¬ o < 2 by omega), wH_ext ek, a5]
  refine ⟨fun t => if t = m then (o, 0) else k t, m + 1, by rw [gi_si, if_pos ⟨rfl, rfl⟩], by rw [eP, gi_si, if_pos ⟨rfl, rfl⟩], by omega, by rw [eP]; omega, eH, fun t ht => ?_, fun t ht => ?_⟩
  · by_cases et : t = m
    · subst et
      rw [em, wP_ext ek]
      refine ⟨by rw [gi_si, if_neg (by omega), gi_si, if_pos ⟨rfl, rfl⟩]; exact hx, by rw [gi_si, if_neg (by omega), gi_si, if_pos ⟨rfl, rfl⟩], fun y => absurd y (by dsimp only; omega)⟩
    · have ht2 : t < m := by omega
      have hp := wP_mono (k := k) ht2
      obtain ⟨b1, b2, b3⟩ := a6 t ht2
      have hwl : 1 ≤ wL (k t) := by unfold wL; split <;> omega
      rw [ek t ht2, wP_ext (fun i hi => ek i (by omega))]
      refine ⟨by rw [gi_si, if_neg (by omega), gi_si, if_neg (by omega)]; exact b1, by rw [gi_si, if_neg (by omega), gi_si, if_neg (by omega)]; exact b2, fun y => ?_⟩
      have : wL (k t) = 2 := by unfold wL; rw [if_pos y]
      rw [gi_si, if_neg (by omega), gi_si, if_neg (by omega)]
      exact b3 y
  · by_cases et : t = m
    · subst et
      unfold wG
      rw [em, wH_ext ek, a5]
      dsimp only
      omega
    · exact wG_ext (fun i hi => ek i (by omega)) (a7 t (by omega))
/-! with an error recorded the reference reads nothing more -/
theorem m_factor_bad {rr : gRecT_X9_sum} (h : gi R 311 5 ≠ 0) : f_X9_factor rr U R 311 = some R := by
  unfold f_X9_factor
  rw [m_bad h, Option.bind_some, if_neg (fun q => q rfl)]
theorem m_term_bad {rr : gRecT_X9_sum} (h : gi R 311 5 ≠ 0) : f_X9_term rr U R 311 = some R := by
  unfold f_X9_term
  have hL : ∃ N, gloop (fun x => f_X9_term_B4 rr U x 311) gFU R = some N ∧ N = R := by
    refine gloop_ex (P := fun _ y => y = R) (Q := fun N => N = R) 0 (by decide) rfl (fun t y _ hP => Or.inl ⟨R, ?_, rfl⟩)
    rw [hP]
    show f_X9_term_B4 rr U R 311 = _
    unfold f_X9_term_B4
    rw [m_bad h, Option.bind_some, if_pos rfl]
  obtain ⟨N, h1, h2⟩ := hL
  rw [m_factor_bad h, Option.bind_some, h1, Option.bind_some, h2]
theorem m_sum_bad {rr : gRecT_X9_sum} (h : gi R 311 5 ≠ 0) : f_X9_sum rr U R 311 = some R := by
  unfold f_X9_sum
  have hL : ∃ N, gloop (fun x => f_X9_sum_B4 rr U x 311) gFU R = some N ∧ N = R := by
    refine gloop_ex (P := fun _ y => y = R) (Q := fun N => N = R) 0 (by decide) rfl (fun t y _ hP => Or.inl ⟨R, ?_, rfl⟩)
    rw [hP]
    show f_X9_sum_B4 rr U R 311 = _
    unfold f_X9_sum_B4
    rw [m_bad h, Option.bind_some, if_pos rfl]
  obtain ⟨N, h1, h2⟩ := hL
  rw [m_term_bad h, Option.bind_some, h1, Option.bind_some, h2]
end PCW
