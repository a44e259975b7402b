/-! FRAMES: N is M but for the ints at the places of S and the longs at 326 -/
def fr (S : Nat → Nat → Prop) (M N : gM) : Prop := (∀ b j, gr N b j = gr M b j) ∧ (∀ b j, b ≠ 326 → gl N b j = gl M b j) ∧ ∀ b j, ¬ S b j → gi N b j = gi M b j
theorem fr_refl {S : Nat → Nat → Prop} {M : gM} : fr S M M := ⟨fun _ _ => rfl, fun _ _ _ => rfl, fun _ _ _ => rfl⟩
theorem fr_trans {S : Nat → Nat → Prop} {M N K : gM} (h1 : fr S M N) (h2 : fr S N K) : fr S M K := ⟨fun b j => (h2.1 b j).trans (h1.1 b j), fun b j h => (h2.2.1 b j h).trans (h1.2.1 b j h), fun b j h => (h2.2.2 b j h).trans (h1.2.2 b j h)⟩
theorem fr_mono {S S' : Nat → Nat → Prop} {M N : gM} (h : fr S M N) (hs : ∀ b j, S b j → S' b j) : fr S' M N := ⟨h.1, h.2.1, fun b j q => h.2.2 b j (fun z => q (hs b j z))⟩
theorem fr_si {S : Nat → Nat → Prop} {M N : gM} {a k : Nat} {x : Int32} (h : fr S M N) (hs : S a k) : fr S M (si N a k x) := ⟨h.1, h.2.1, fun b j q => by
  rw [gi_si, if_neg (fun z => q (by rw [z.1, z.2]; exact hs))]
  exact h.2.2 b j q⟩
/-! THE CODE OF A WEIGHT: k 0 .. k (m - 1): (0, v) a number, (1, q) a quantity, (o, _) an operation -/
def wCls (t : Nat × Nat) : Int32 := if t.1 = 0 then nI t.2 else if t.1 = 1 then -1 - nI t.2 else -3 - nI t.1
def wH (k : Nat → Nat × Nat) : Nat → Nat
  | 0 => 0
  | t + 1 => if (k t).1 < 2 then wH k t + 1 else wH k t - 1
def wG (k : Nat → Nat × Nat) (t : Nat) : Prop := ((k t).1 = 0 ∧ (k t).2 ≤ 9999 ∧ wH k t < 11) ∨ ((k t).1 = 1 ∧ (k t).2 < 4 ∧ wH k t < 11) ∨ (2 ≤ (k t).1 ∧ (k t).1 ≤ 5 ∧ 2 ≤ wH k t)
def wOK (k : Nat → Nat × Nat) (m : Nat) : Prop := 1 ≤ wH k m ∧ ∀ t, t < m → wG k t
def wU (f : Nat → Int) (j : Nat) (z : Int) : Nat → Int := fun i => if i = j then z else f i
def wS (k : Nat → Nat × Nat) (Q : Nat → Nat) : Nat → Nat → Int
  | 0 => fun _ => 0
  | t + 1 => if (k t).1 = 0 then wU (wS k Q t) (wH k t) ((k t).2 : Int) else if (k t).1 = 1 then wU (wS k Q t) (wH k t) (Q (k t).2 : Int) else wU (wS k Q t) (wH k t - 2) (opr (k t).1 (wS k Q t (wH k t - 2)) (wS k Q t (wH k t - 1)))
def wV (k : Nat → Nat × Nat) (m : Nat) (Q : Nat → Nat) : Nat := if wS k Q m 0 < 0 then 0 else if 9999 < wS k Q m 0 then 9999 else (wS k Q m 0).toNat
section PWV
variable {k : Nat → Nat × Nat} {Q : Nat → Nat} {m : Nat}
theorem wS_in (hok : ∀ t, t < m → wG k t) (hQ : ∀ i, i < 4 → Q i ≤ 9999) : ∀ t, t ≤ m → ∀ j, -1000000 ≤ wS k Q t j ∧ wS k Q t j ≤ 1000000
  | 0, _, j => by
    unfold wS
    omega
  | t + 1, ht, j => by
    have ih := wS_in hok hQ t (by omega)
    have hg := hok t (by omega)
    unfold wS wU
    rcases hg with ⟨h1, h2, h3⟩ | ⟨h1, h2, h3⟩ | ⟨h1, h2, h3⟩
    · rw [if_pos h1]
      split
      · omega
      · exact ih j
    · rw [if_neg (by omega), if_pos h1]
      split
      · have := hQ _ h2
        omega
      · exact ih j
    · rw [if_neg (by omega), if_neg (by omega)]
      split
      · exact opr_in (ih _).1 (ih _).2
      · exact ih j
theorem wV_le : wV k m Q ≤ 9999 := by
  unfold wV
  split
  · omega
  · split <;> omega
theorem wH_le (hok : ∀ t, t < m → wG k t) : ∀ t, t ≤ m → wH k t ≤ 11
  | 0, _ => Nat.zero_le _
  | t + 1, ht => by
    have ih := wH_le hok t (by omega)
    have hg := hok t (by omega)
    unfold wH
    unfold wG at hg
    split <;> omega
theorem nI_nneg {v : Nat} (hv : v < 2 ^ 31) {c : Int32} (hc : c.toInt < 0) : ¬ nI v = c := fun e => by
  rw [← e, nI_toInt hv] at hc
  omega
theorem wCls_push {t : Nat × Nat} (h : (t.1 = 0 ∧ t.2 ≤ 9999) ∨ (t.1 = 1 ∧ t.2 < 4)) : (-5 : Int32) < wCls t := by
  unfold wCls
  rcases h with ⟨h1, h2⟩ | ⟨h1, h2⟩
  · rw [if_pos h1, Int32.lt_iff_toInt_lt, nI_toInt (by omega), show (-5 : Int32).toInt = -5 from rfl]
    omega
  · rw [if_neg (by omega), if_pos h1]
    have : ∀ q, q < 4 → (-5 : Int32) < -1 - nI q := by decide
    exact this _ h2
theorem wCls_op {t : Nat × Nat} (h : 2 ≤ t.1 ∧ t.1 ≤ 5) : wCls t = -3 - nI t.1 ∧ ¬ ((-5 : Int32) < wCls t) := by
  unfold wCls
  rw [if_neg (by omega), if_neg (by omega)]
  refine ⟨rfl, ?_⟩
  have : ∀ q, q ≤ 5 → 2 ≤ q → ¬ ((-5 : Int32) < -3 - nI q) := by decide
  exact this _ h.2 h.1
theorem p_factor {T : gT} {M : gM} {t : Nat × Nat} (h : (t.1 = 0 ∧ t.2 ≤ 9999) ∨ (t.1 = 1 ∧ t.2 < 4)) : f_X7_factorValue T M (wCls t) (nI (Q 0)) (nI (Q 1)) (nI (Q 2)) (nI (Q 3)) = some (nI (if t.1 = 0 then t.2 else Q t.2)) := by
  unfold f_X7_factorValue
  rcases h with ⟨h1, h2⟩ | ⟨h1, h2⟩
  · have ew : wCls t = nI t.2 := if_pos h1
    rw [ew, if_pos h1, if_neg (nI_nneg (by omega) (by decide)), if_neg (nI_nneg (by omega) (by decide)), if_neg (nI_nneg (by omega) (by decide)), if_neg (nI_nneg (by omega) (by decide))]
  · have ew : wCls t = -1 - nI t.2 := by
      unfold wCls
      rw [if_neg (by omega), if_pos h1]
    have e0 : (if t.1 = 0 then t.2 else Q t.2) = Q t.2 := if_neg (by omega)
    rw [ew, e0]
    rcases (show t.2 = 0 ∨ t.2 = 1 ∨ t.2 = 2 ∨ t.2 = 3 by omega) with e | e | e | e
    · rw [e, if_neg (by decide), if_neg (by decide), if_neg (by decide), if_pos (by decide)]
    · rw [e, if_neg (by decide), if_neg (by decide), if_pos (by decide)]
    · rw [e, if_neg (by decide), if_pos (by decide)]
    · rw [e, if_pos (by decide)]
theorem p_X7_valueOf {T : gT} {M : gM} {w c s : Nat} (g0 : gr M w 0 = some c) (hc : T[c]? = some (11, m)) (g1 : gr M w 1 = some s) (hs : T[s]? = some (11, 11)) (hcs : c ≠ s) (hk : ∀ t, t < m → gi M c t = wCls (k t)) (hok : wOK k m) (hm : m ≤ 2000) (hQ : ∀ i, i < 4 → Q i ≤ 9999) :
    ∃ N, f_X7_valueOf T M w (nI (Q 0)) (nI (Q 1)) (nI (Q 2)) (nI (Q 3)) = some (nI (wV k m Q), N) ∧ fr (fun b _ => b = s) M N := by
  unfold f_X7_valueOf
  have hL : ∃ e, gloop (fun x => f_X7_valueOf_B6 T x.2.2 w (nI (Q 0)) (nI (Q 1)) (nI (Q 2)) (nI (Q 3)) x.1 x.2.1) gFU ((0 : Int32), (0 : Int32), M) = some e ∧ (fr (fun b _ => b = s) M e ∧ ∀ j, j < wH k m → gi e s j = iI (wS k Q m j)) := by
    refine gloop_ex (P := fun t y => y.1 = nI (wH k t) ∧ y.2.1 = nI t ∧ t ≤ m ∧ fr (fun b _ => b = s) M y.2.2 ∧ ∀ j, j < wH k t → gi y.2.2 s j = iI (wS k Q t j)) (fu := gFU) m (Nat.lt_of_le_of_lt hm (by decide)) ⟨rfl, rfl, Nat.zero_le _, fr_refl, fun j hj => absurd hj (Nat.not_lt_zero j)⟩ (fun t y _ hP => ?_)
    obtain ⟨y1, y2, N⟩ := y
    obtain ⟨rfl, rfl, htm, hF, hst⟩ := hP
    dsimp only at hF hst
    show (∃ e, f_X7_valueOf_B6 T N w (nI (Q 0)) (nI (Q 1)) (nI (Q 2)) (nI (Q 3)) (nI (wH k t)) (nI t) = some (.inl e) ∧ _) ∨ _
    unfold f_X7_valueOf_B6 f_X7_valueOf_103
    rw [ldr_ok ((hF.1 _ _).trans g0) hc, Option.bind_some, alen_of hc, show Int32.ofNat m = nI m from rfl]
    by_cases e : t = m
    · subst e
      rw [if_pos (nI_le (Nat.le_refl t) (by omega))]
      exact Or.inl ⟨N, rfl, hF, hst⟩
    · have hlt : t < m := by omega
      have hh := wH_le hok.2 t htm
      have hin := wS_in hok.2 hQ t htm
      rw [if_neg (nI_ge hlt (by omega)), Option.bind_some, ald_ok hc hlt (by omega), Option.bind_some, hF.2.2 c t hcs, hk t hlt]
      rcases (show (((k t).1 = 0 ∧ (k t).2 ≤ 9999) ∨ ((k t).1 = 1 ∧ (k t).2 < 4)) ∧ wH k t < 11 ∨ (2 ≤ (k t).1 ∧ (k t).1 ≤ 5 ∧ 2 ≤ wH k t) from by
        have := hok.2 t hlt
        unfold wG at this
        omega) with ⟨hg', h11⟩ | ⟨ho1, ho2, h2⟩
      · have e1 : wH k (t + 1) = wH k t + 1 := if_pos (by omega)
        have e2 : wS k Q (t + 1) = wU (wS k Q t) (wH k t) ((if (k t).1 = 0 then (k t).2 else Q (k t).2 : Nat) : Int) := by
          show (if (k t).1 = 0 then _ else _) = _
          rcases hg' with ⟨z, -⟩ | ⟨z, -⟩
          · rw [if_pos z, if_pos z]
          · rw [if_neg (by omega), if_pos z, if_neg (by omega)]
        rw [if_pos (wCls_push hg'), if_neg (show ¬ ((11 : Int32) ≤ nI (wH k t)) from nI_ge (b := 11) h11 (by decide)), ldr_ok ((hF.1 _ _).trans g1) hs, Option.bind_some, p_factor hg', Option.bind_some, ast_ok hs h11 (by decide), Option.bind_some, nI_1, nI_1]
        refine Or.inr ⟨hlt, _, rfl, by rw [e1], rfl, hlt, fr_si hF rfl, fun j hj => ?_⟩
        rw [e1] at hj
        show gi (si N s (wH k t) _) s j = _
        rw [gi_si, e2]
        unfold wU
        by_cases ej : j = wH k t
        · rw [if_pos ⟨rfl, ej⟩, if_pos ej, iI_N]
        · rw [if_neg (fun q => ej q.2), if_neg ej]
          exact hst j (by omega)
      · obtain ⟨c1, c2⟩ := wCls_op ⟨ho1, ho2⟩
        have e1 : wH k (t + 1) = wH k t - 1 := if_neg (by omega)
        have e2 : wS k Q (t + 1) = wU (wS k Q t) (wH k t - 2) (opr (k t).1 (wS k Q t (wH k t - 2)) (wS k Q t (wH k t - 1))) := by
          show (if (k t).1 = 0 then _ else _) = _
          rw [if_neg (by omega), if_neg (by omega)]
        obtain ⟨a, ha⟩ : ∃ a, wH k t = a + 2 := ⟨wH k t - 2, by omega⟩
        rw [ha] at e1 e2 hst hh
        have h3 := hst a (by omega)
        have h4 := hst (a + 1) (by omega)
        have i3 := hin a
        have i4 := hin (a + 1)
        rw [if_neg c2, ha, if_neg (show ¬ (nI (a + 2) < (2 : Int32)) from nI_nlt (b := 2) (by omega) (by omega)), ldr_ok ((hF.1 _ _).trans g1) hs, Option.bind_some, Option.bind_some, show nI (a + 2) + (-1 : Int32) = nI (a + 1) from pk_m1 (a + 1), nI_pred, ald_ok hs (by omega) (by decide), Option.bind_some, Option.bind_some, ald_ok hs (by omega) (by decide), Option.bind_some, h3, h4, iI_L (by omega) (by omega), iI_L (by omega) (by omega), c1, c_opr ⟨ho1, ho2⟩ i3.1 i3.2 i4.1 i4.2, Option.bind_some, ast_ok hs (by omega) (by decide), Option.bind_some, nI_1]
        refine Or.inr ⟨hlt, _, rfl, by rw [e1]; rfl, rfl, hlt, fr_si hF rfl, fun j hj => ?_⟩
        rw [e1] at hj
        show gi (si N s a _) s j = _
        rw [gi_si, e2]
        unfold wU
        by_cases ej : j = a
        · rw [if_pos ⟨rfl, ej⟩, if_pos (by omega)]
          rfl
        · rw [if_neg (fun q => ej q.2), if_neg (by omega)]
          exact hst j (by omega)
  obtain ⟨N, h1, h2, h3⟩ := hL
  have hin := wS_in hok.2 hQ m (Nat.le_refl m) 0
  rw [h1, Option.bind_some, ldr_ok ((h2.1 _ _).trans g1) hs, Option.bind_some, show ald T N s (0 : Int32) = some (gi N s 0) from ald_ok (k := 0) hs (by omega) (by decide), Option.bind_some, h3 0 hok.1, iI_L (by omega) (by omega), c_limG (by omega) (by omega) (by decide), Option.bind_some]
  refine ⟨N, ?_, h2⟩
  congr 2
  unfold wV
  rw [show (0 : Int32).toInt = 0 from rfl, show (9999 : Int32).toInt = 9999 from rfl]
  split
  · rfl
  · split
    · rfl
    · rw [← iI_N]
      congr 1
      omega
end PWV
