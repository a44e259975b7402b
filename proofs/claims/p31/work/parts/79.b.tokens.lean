/-! THE CLASS'S TOKENS: object 3 -/
def fz (S L : Nat → Nat → Prop) (M N : gM) : Prop := (∀ b j, gr N b j = gr M b j) ∧ (∀ b j, ¬ L b j → gl N b j = gl M b j) ∧ ∀ b j, ¬ S b j → gi N b j = gi M b j
section PFZ
variable {S L S' L' : Nat → Nat → Prop} {M N K : gM}
theorem fz_refl : fz S L M M := ⟨fun _ _ => rfl, fun _ _ _ => rfl, fun _ _ _ => rfl⟩
theorem fz_trans (h1 : fz S L M N) (h2 : fz S L N K) : fz S L M K := ⟨fun b j => (h2.1 b j).trans (h1.1 b j), fun b j h => (h2.2.1 b j h).trans (h1.2.1 b j h), fun b j h => (h2.2.2 b j h).trans (h1.2.2 b j h)⟩
theorem fz_mono (h : fz S L M N) (hs : ∀ b j, S b j → S' b j) (hl : ∀ b j, L b j → L' b j) : fz S' L' M N := ⟨h.1, fun b j q => h.2.1 b j (fun z => q (hl b j z)), fun b j q => h.2.2 b j (fun z => q (hs b j z))⟩
theorem fz_si {a k : Nat} {x : Int32} (h : fz S L M N) (hs : S a k) : fz S L M (si N a k x) := ⟨h.1, h.2.1, fun b j q => by
  rw [gi_si, if_neg (fun z => q (by rw [z.1, z.2]; exact hs))]
  exact h.2.2 b j q⟩
theorem fz_sl {a k : Nat} {x : Int64} (h : fz S L M N) (hs : L a k) : fz S L M (sl N a k x) := ⟨h.1, fun b j q => by
  rw [gl_sl, if_neg (fun z => q (by rw [z.1, z.2]; exact hs))]
  exact h.2.1 b j q, h.2.2⟩
theorem gFx_fz {T : gT} (h : gFx T M) (hF : fz S L M N) : gFx T N := gFx_gr h hF.1
end PFZ
def tS (b j : Nat) : Prop := b = 3 ∧ (j = 2 ∨ j = 3 ∨ j = 4 ∨ j = 6 ∨ j = 7)
def tL (b j : Nat) : Prop := b = 3 ∧ j = 5
/-- the class's text -/
def cTx (M : gM) (B : Nat → Nat) (n : Nat) : Prop := gi M 3 1 = nI n ∧ n ≤ 800 ∧ ∀ j, j < n → B j < 256 ∧ gi M 4 j = cB (B j)
/-- the token from s to e at which the class stands -/
def cK (M : gM) (B : Nat → Nat) (n s e : Nat) : Prop := (s = n ∧ e = n ∧ gi M 3 3 = 0) ∨ (s < n ∧ isL (B s) ∧ rnn isL B n s e ∧ ((e - s ≤ 8 ∧ gi M 3 3 = 1 ∧ gl M 3 5 = lN (vl 256 B s (e - s))) ∨ (8 < e - s ∧ gi M 3 3 = 4))) ∨ (s < n ∧ isD (B s) ∧ rnn isD B n s e ∧ gi M 3 3 = 2 ∧ gi M 3 6 = nI (nv B s (e - s))) ∨ (s < n ∧ e = s + 1 ∧ ¬ isL (B s) ∧ ¬ isD (B s) ∧ gi M 3 3 = 3 ∧ gi M 3 7 = cB (B s))
def cT (M : gM) (B : Nat → Nat) (n s e : Nat) : Prop := cTx M B n ∧ gi M 3 4 = nI s ∧ gi M 3 2 = nI e ∧ s ≤ e ∧ e ≤ n ∧ cK M B n s e
section PTK
variable {T : gT} {M N : gM} {B : Nat → Nat} {n p s e j : Nat}
theorem cTx_fz {L : Nat → Nat → Prop} (h : cTx M B n) (hF : fz tS L M N) : cTx N B n := ⟨(hF.2.2 3 1 (fun q => by unfold tS at q; omega)).trans h.1, h.2.1, fun j hj => ⟨(h.2.2 j hj).1, (hF.2.2 4 j (fun q => by unfold tS at q; omega)).trans (h.2.2 j hj).2⟩⟩
theorem c_run {c : Nat → Prop} {lo hi : Int32} (hc : ∀ b, b < 256 → ((¬ cB b < lo ∧ ¬ hi < cB b) ↔ c b)) (hX : gFx T M) (hx : cTx M B n) (hp : gi M 3 2 = nI s) (hsn : s ≤ n) : ∃ e, f_X6_runOf T M 3 lo hi = some (nI (e - s)) ∧ s ≤ e ∧ e ≤ n ∧ (∀ j, s ≤ j → j < e → c (B j)) ∧ (e = n ∨ ¬ c (B e)) := by
  have h8 := hx.2.1
  have hLp : ∃ x, gloop (fun x => f_X6_runOf_B5 T M 3 lo hi x) gFU (nI s) = some x ∧ ∃ e, x = nI e ∧ s ≤ e ∧ e ≤ n ∧ (∀ j, s ≤ j → j < e → c (B j)) ∧ (e = n ∨ ¬ c (B e)) := by
    refine gloop_ex (P := fun t y => s + t ≤ n ∧ y = nI (s + t) ∧ ∀ j, s ≤ j → j < s + t → c (B j)) (fu := gFU) (n - s) (Nat.lt_of_le_of_lt (show n - s ≤ 800 by omega) (by decide)) ⟨hsn, rfl, fun j h1 h2 => by omega⟩ (fun t y _ hP => ?_)
    obtain ⟨ht, h2, hr⟩ := hP
    subst h2
    show (∃ e, f_X6_runOf_B5 T M 3 lo hi (nI (s + t)) = some (.inl e) ∧ _) ∨ _
    unfold f_X6_runOf_B5
    rw [hx.1]
    by_cases c1 : s + t = n
    · rw [if_pos (nI_le (by omega) (by omega))]
      exact Or.inl ⟨_, rfl, s + t, rfl, by omega, by omega, hr, Or.inl c1⟩
    · obtain ⟨b1, b2⟩ := hx.2.2 (s + t) (by omega)
      have hc1 := hc (B (s + t)) b1
      rw [if_neg (nI_ge (by omega) (by omega)), r_3_0 hX, Option.bind_some, ald_ok (s_4 hX) (show s + t < 800 by omega) (by decide), Option.bind_some, b2]
      by_cases c2 : cB (B (s + t)) < lo
      · rw [if_pos c2]
        exact Or.inl ⟨_, rfl, s + t, rfl, by omega, by omega, hr, Or.inr (fun q => (hc1.mpr q).1 c2)⟩
      · rw [if_neg c2, Option.bind_some, ald_ok (s_4 hX) (show s + t < 800 by omega) (by decide), Option.bind_some, b2]
        by_cases c3 : hi < cB (B (s + t))
        · rw [if_pos c3]
          exact Or.inl ⟨_, rfl, s + t, rfl, by omega, by omega, hr, Or.inr (fun q => (hc1.mpr q).2 c3)⟩
        · rw [if_neg c3, nI_1]
          refine Or.inr ⟨by omega, _, rfl, by omega, rfl, fun j h3 h4 => ?_⟩
          by_cases ej : j = s + t
          · rw [ej]
            exact hc1.mp ⟨c2, c3⟩
          · exact hr j h3 (by omega)
  obtain ⟨x, c1, e, c2, c3, c4, c5, c6⟩ := hLp
  refine ⟨e, ?_, c3, c4, c5, c6⟩
  unfold f_X6_runOf
  rw [hp, c1, Option.bind_some, c2, pk_sub c3]
theorem c_skip (hX : gFx T M) (hx : cTx M B n) (hp : gi M 3 2 = nI p) (hpn : p ≤ n) : ∃ N, gloop (fun x => f_X6_advance_B0 T x 3) gFU M = some N ∧ ∃ s, Sy B n p s ∧ gi N 3 2 = nI s ∧ fz tS tL M N := by
  have h8 := hx.2.1
  refine gloop_ex (P := fun t y => p + t ≤ n ∧ gi y 3 2 = nI (p + t) ∧ fz tS tL M y ∧ ∀ j, p ≤ j → j < p + t → B j = 32) (fu := gFU) (n - p) (Nat.lt_of_le_of_lt (show n - p ≤ 800 by omega) (by decide)) ⟨hpn, hp, fz_refl, fun j h1 h2 => by omega⟩ (fun t N _ hP => ?_)
  obtain ⟨ht, h2, hF, hsp⟩ := hP
  have hXN := gFx_fz hX hF
  have hxN := cTx_fz hx hF
  show (∃ e, f_X6_advance_B0 T N 3 = some (.inl e) ∧ _) ∨ _
  unfold f_X6_advance_B0
  rw [hxN.1, h2]
  by_cases c1 : p + t = n
  · rw [if_pos (nI_le (by omega) (by omega))]
    exact Or.inl ⟨N, rfl, p + t, ⟨by omega, by omega, hsp, Or.inl c1⟩, h2, hF⟩
  · obtain ⟨b1, b2⟩ := hxN.2.2 (p + t) (by omega)
    rw [if_neg (nI_ge (by omega) (by omega)), r_3_0 hXN, Option.bind_some, ald_ok (s_4 hXN) (show p + t < 800 by omega) (by decide), Option.bind_some, b2]
    by_cases c2 : B (p + t) = 32
    · rw [if_neg (fun q => q ((cB_s _ b1).mpr c2)), nI_1]
      refine Or.inr ⟨by omega, _, rfl, by omega, ?_, fz_si hF ⟨rfl, Or.inl rfl⟩, fun j h3 h4 => ?_⟩
      · rw [gi_si, if_pos ⟨rfl, rfl⟩]
        rfl
      · by_cases ej : j = p + t
        · rw [ej]
          exact c2
        · exact hsp j h3 (by omega)
    · rw [if_pos (fun q => c2 ((cB_s _ b1).mp q))]
      exact Or.inl ⟨N, rfl, p + t, ⟨by omega, by omega, hsp, Or.inr c2⟩, h2, hF⟩
theorem c_takeW12 {k1 : Int32} (hX : gFx T M) (hx : cTx M B n) (hs : gi M 3 4 = nI s) (hp : gi M 3 2 = nI s) (hrun : rnn isL B n s e) : ∃ N, f_X6_takeWord_12 T M 3 (nI (e - s)) 3 k1 = some N ∧ gi N 3 2 = nI e ∧ gi N 3 4 = nI s ∧ gi N 3 3 = k1 ∧ fz tS tL M N ∧ (e - s ≤ 8 → gl N 3 5 = lN (vl 256 B s (e - s))) := by
  have h8 := hx.2.1
  obtain ⟨z1, z2, hr, z4⟩ := hrun
  unfold f_X6_takeWord_12
  have hLp : ∃ N, gloop (fun x => f_X6_takeWord_B22 T x.2 3 (nI (e - s)) x.1) gFU ((0 : Int32), (sl (si M 3 3 k1) 3 5 (0 : Int64))) = some N ∧ gi N 3 2 = nI e ∧ gi N 3 4 = nI s ∧ gi N 3 3 = k1 ∧ fz tS tL M N ∧ (e - s ≤ 8 → gl N 3 5 = lN (vl 256 B s (e - s))) := by
    refine gloop_ex (P := fun t y => s + t ≤ e ∧ y.1 = nI t ∧ gi y.2 3 2 = nI (s + t) ∧ gi y.2 3 4 = nI s ∧ gi y.2 3 3 = k1 ∧ fz tS tL M y.2 ∧ (t ≤ 8 → gl y.2 3 5 = lN (vl 256 B s t))) (fu := gFU) (e - s) (Nat.lt_of_le_of_lt (show e - s ≤ 800 by omega) (by decide)) ⟨by omega, rfl, by rw [gi_sl, gi_si, if_neg (by omega)]; exact hp, by rw [gi_sl, gi_si, if_neg (by omega)]; exact hs, by rw [gi_sl, gi_si, if_pos ⟨rfl, rfl⟩], fz_sl (fz_si fz_refl ⟨rfl, Or.inr (Or.inl rfl)⟩) ⟨rfl, rfl⟩, fun _ => by rw [gl_sl, if_pos ⟨rfl, rfl⟩]; rfl⟩ (fun t y _ hP => ?_)
    obtain ⟨i2, N⟩ := y
    obtain ⟨ht, h1, h2, h4, hk, hF, hw⟩ := hP
    dsimp only at h1 h2 h4 hk hF hw
    subst h1
    have hXN := gFx_fz hX hF
    have hxN := cTx_fz hx hF
    show (∃ e, f_X6_takeWord_B22 T N 3 (nI (_ - s)) (nI t) = some (.inl e) ∧ _) ∨ _
    unfold f_X6_takeWord_B22
    rw [hxN.1, h2]
    by_cases c1 : s + t = e
    · rw [if_pos (nI_le (by omega) (by omega))]
      refine Or.inl ⟨N, rfl, by rw [h2, c1], h4, hk, hF, fun h => ?_⟩
      rw [show e - s = t by omega] at h ⊢
      exact hw h
    · have c2 := hr (s + t) (by omega) (by omega)
      obtain ⟨b1, b2⟩ := hxN.2.2 (s + t) (by omega)
      have b3 : cB (B (s + t)) = nI (B (s + t)) := cB_lo _ (by omega)
      rw [if_neg (nI_ge (by omega) (by omega)), if_neg (nI_ge (by omega) (by omega)), r_3_0 hXN, Option.bind_some, ald_ok (s_4 hXN) (show s + t < 800 by omega) (by decide), Option.bind_some, b2, b3]
      refine Or.inr ⟨by omega, _, rfl, by omega, nI_1 t, ?_, ?_, ?_, fz_si (fz_sl hF ⟨rfl, rfl⟩) ⟨rfl, Or.inl rfl⟩, fun h9 => ?_⟩
      · show gi (si _ 3 2 _) 3 2 = _
        rw [gi_si, if_pos ⟨rfl, rfl⟩, gi_sl, h2, nI_1]
        rfl
      · show gi (si _ 3 2 _) 3 4 = _
        rw [gi_si, if_neg (by omega), gi_sl]
        exact h4
      · show gi (si _ 3 2 _) 3 3 = _
        rw [gi_si, if_neg (by omega), gi_sl]
        exact hk
      · show gl (si _ 3 2 _) 3 5 = _
        rw [gl_si, gl_sl, if_pos ⟨rfl, rfl⟩, hw (by omega)]
        have hlt : vl 256 B s t < 256 ^ t := vl_lt (by decide) (fun j hj => by
          have := hr (s + j) (by omega) (by omega)
          omega)
        have hp7 : 256 ^ t ≤ 256 ^ 7 := Nat.pow_le_pow_right (by decide) (by omega)
        by_cases e7 : t = 7
        · subst e7
          have h7 : vl 256 B s 7 < 2 ^ 55 := by
            have q : vl 256 B s 7 = vl 256 B s 6 * 256 + B (s + 6) := rfl
            have q0 : vl 256 B s 6 = vl 256 B s 5 * 256 + B (s + 5) := rfl
            have q1 : vl 256 B s 6 < 123 * 256 ^ 5 := by
              have w : ∀ l, (∀ j, j < l → B (s + j) ≤ 122) → 1 ≤ l → vl 256 B s l < 123 * 256 ^ (l - 1) := fun l => by
                induction l with
                | zero => intro _ h; omega
                | succ l ih =>
                  intro hb _
                  have hb1 := hb l (by omega)
                  by_cases e0 : l = 0
                  · subst e0
                    show 0 * 256 + B (s + 0) < 123 * 256 ^ (0 + 1 - 1)
                    rw [show (0 + 1 - 1 : Nat) = 0 from rfl, Nat.pow_zero]
                    omega
                  · have ih2 := ih (fun j hj => hb j (by omega)) (by omega)
                    show vl 256 B s l * 256 + B (s + l) < 123 * 256 ^ (l + 1 - 1)
                    have e2 : 256 ^ (l + 1 - 1) = 256 ^ (l - 1) * 256 := by
                      rw [← Nat.pow_succ]
                      congr 1
                      omega
                    rw [e2]
                    omega
              exact w 6 (fun j hj => by have := hr (s + j) (by omega) (by omega); omega) (by omega)
            have q2 := hr (s + 6) (by omega) (by omega)
            have q3 : (256 : Nat) ^ 5 = 1099511627776 := by decide
            rw [q]
            omega
          exact lN_sh8 h7 (by omega)
        · have h6 : vl 256 B s t < 2 ^ 48 := by
            have hp6 : 256 ^ t ≤ 256 ^ 6 := Nat.pow_le_pow_right (by decide) (by omega)
            have : (256 : Nat) ^ 6 = 2 ^ 48 := by decide
            omega
          exact lN_sh8 (by omega) (by omega)
  obtain ⟨N, c1, c2, c3, c4, c5, c6⟩ := hLp
  rw [c1, Option.bind_some]
  exact ⟨N, rfl, c2, c3, c4, c5, c6⟩
theorem c_takeW (hX : gFx T M) (hx : cTx M B n) (hs : gi M 3 4 = nI s) (hp : gi M 3 2 = nI s) (hrun : rnn isL B n s e) : ∃ N, f_X6_takeWord T M 3 (nI (e - s)) = some N ∧ gi N 3 2 = nI e ∧ gi N 3 4 = nI s ∧ fz tS tL M N ∧ ((e - s ≤ 8 ∧ gi N 3 3 = 1 ∧ gl N 3 5 = lN (vl 256 B s (e - s))) ∨ (8 < e - s ∧ gi N 3 3 = 4)) := by
  have h8 := hx.2.1
  have z2 := hrun.2.1
  unfold f_X6_takeWord
  by_cases c : 8 < e - s
  · rw [if_pos (show (8 : Int32) < nI (e - s) from nI_lt (a := 8) c (by omega))]
    obtain ⟨N, c1, c2, c3, c4, c5, c6⟩ := c_takeW12 (k1 := 4) hX hx hs hp hrun
    exact ⟨N, c1, c2, c3, c5, Or.inr ⟨c, c4⟩⟩
  · rw [if_neg (show ¬ (8 : Int32) < nI (e - s) from nI_nlt (a := 8) (by omega) (by decide))]
    obtain ⟨N, c1, c2, c3, c4, c5, c6⟩ := c_takeW12 (k1 := 1) hX hx hs hp hrun
    exact ⟨N, c1, c2, c3, c5, Or.inl ⟨by omega, c4, c6 (by omega)⟩⟩
theorem imin_nI {a b : Nat} (ha : a < 2 ^ 31) (hb : b < 2 ^ 31) : imin (nI a) (nI b) = nI (min a b) := by
  by_cases h : b < a
  · rw [show imin (nI a) (nI b) = nI b from if_pos (nI_lt h ha), Nat.min_eq_right (by omega)]
  · rw [show imin (nI a) (nI b) = nI a from if_neg (nI_nlt (by omega) hb), Nat.min_eq_left (by omega)]
theorem c_takeN (hX : gFx T M) (hx : cTx M B n) (hs : gi M 3 4 = nI s) (hp : gi M 3 2 = nI s) (hrun : rnn isD B n s e) : ∃ N, f_X6_takeNumber T M 3 (nI (e - s)) = some N ∧ gi N 3 2 = nI e ∧ gi N 3 4 = nI s ∧ fz tS tL M N ∧ gi N 3 3 = 2 ∧ gi N 3 6 = nI (nv B s (e - s)) := by
  have h8 := hx.2.1
  obtain ⟨z1, z2, hr, z4⟩ := hrun
  unfold f_X6_takeNumber
  have hLp : ∃ N, gloop (fun x => f_X6_takeNumber_B12 T x.2 3 (nI (e - s)) x.1) gFU ((0 : Int32), (si (si M 3 3 (2 : Int32)) 3 6 (0 : Int32))) = some N ∧ gi N 3 2 = nI e ∧ gi N 3 4 = nI s ∧ fz tS tL M N ∧ gi N 3 3 = 2 ∧ gi N 3 6 = nI (nv B s (e - s)) := by
    refine gloop_ex (P := fun t y => s + t ≤ e ∧ y.1 = nI t ∧ gi y.2 3 2 = nI (s + t) ∧ gi y.2 3 4 = nI s ∧ fz tS tL M y.2 ∧ gi y.2 3 3 = 2 ∧ gi y.2 3 6 = nI (nv B s t)) (fu := gFU) (e - s) (Nat.lt_of_le_of_lt (show e - s ≤ 800 by omega) (by decide)) ⟨by omega, rfl, by rw [gi_si, if_neg (by omega), gi_si, if_neg (by omega)]; exact hp, by rw [gi_si, if_neg (by omega), gi_si, if_neg (by omega)]; exact hs, fz_si (fz_si fz_refl ⟨rfl, Or.inr (Or.inl rfl)⟩) ⟨rfl, Or.inr (Or.inr (Or.inr (Or.inl rfl)))⟩, by rw [gi_si, if_neg (by omega), gi_si, if_pos ⟨rfl, rfl⟩], by rw [gi_si, if_pos ⟨rfl, rfl⟩]; rfl⟩ (fun t y _ hP => ?_)
    obtain ⟨i2, N⟩ := y
    obtain ⟨ht, h1, h2, h4, hF, hk, hw⟩ := hP
    dsimp only at h1 h2 h4 hk hF hw
    subst h1
    have hXN := gFx_fz hX hF
    have hxN := cTx_fz hx hF
    show (∃ e, f_X6_takeNumber_B12 T N 3 (nI (_ - s)) (nI t) = some (.inl e) ∧ _) ∨ _
    unfold f_X6_takeNumber_B12
    rw [hxN.1, h2]
    by_cases c1 : s + t = e
    · rw [if_pos (nI_le (by omega) (by omega))]
      exact Or.inl ⟨N, rfl, by rw [h2, c1], h4, hF, hk, by rw [show e - s = t by omega]; exact hw⟩
    · have c2 := hr (s + t) (by omega) (by omega)
      obtain ⟨b1, b2⟩ := hxN.2.2 (s + t) (by omega)
      have hn9 := nv_le (B := B) (s := s) t
      rw [if_neg (nI_ge (by omega) (by omega)), if_neg (nI_ge (by omega) (by omega)), r_3_0 hXN, Option.bind_some, ald_ok (s_4 hXN) (show s + t < 800 by omega) (by decide), Option.bind_some, b2, cB_dg _ (by omega) c2.1, hw, show (10 : Int32) = nI 10 from rfl, nI_mul, nI_add, show (1000000 : Int32) = nI 1000000 from rfl, imin_nI (by omega) (by omega)]
      refine Or.inr ⟨by omega, _, rfl, by omega, nI_1 t, ?_, ?_, fz_si (fz_si hF ⟨rfl, Or.inr (Or.inr (Or.inr (Or.inl rfl)))⟩) ⟨rfl, Or.inl rfl⟩, ?_, ?_⟩
      · show gi (si _ 3 2 _) 3 2 = _
        rw [gi_si, if_pos ⟨rfl, rfl⟩, gi_si, if_neg (by omega), h2, nI_1]
        rfl
      · show gi (si _ 3 2 _) 3 4 = _
        rw [gi_si, if_neg (by omega), gi_si, if_neg (by omega)]
        exact h4
      · show gi (si _ 3 2 _) 3 3 = _
        rw [gi_si, if_neg (by omega), gi_si, if_neg (by omega)]
        exact hk
      · show gi (si _ 3 2 _) 3 6 = _
        rw [gi_si, if_neg (by omega), gi_si, if_pos ⟨rfl, rfl⟩]
        rfl
  obtain ⟨N, c1, c2, c3, c4, c5, c6⟩ := hLp
  rw [c1, Option.bind_some]
  exact ⟨N, rfl, c2, c3, c4, c5, c6⟩
theorem c_advance (hX : gFx T M) (hx : cTx M B n) (hp : gi M 3 2 = nI p) (hpn : p ≤ n) : ∃ N s e, f_X6_advance T M 3 = some N ∧ Sy B n p s ∧ cT N B n s e ∧ fz tS tL M N := by
  have h8 := hx.2.1
  unfold f_X6_advance
  obtain ⟨N0, c1, s, hsy, c3, c4⟩ := c_skip hX hx hp hpn
  rw [c1, Option.bind_some, c3]
  have hF0 : fz tS tL M (si N0 3 4 (nI s)) := fz_si c4 ⟨rfl, Or.inr (Or.inr (Or.inl rfl))⟩
  have hX0 := gFx_fz hX hF0
  have hx0 := cTx_fz hx hF0
  have e2 : gi (si N0 3 4 (nI s)) 3 2 = nI s := by rw [gi_si, if_neg (by omega)]; exact c3
  have e4 : gi (si N0 3 4 (nI s)) 3 4 = nI s := by rw [gi_si, if_pos ⟨rfl, rfl⟩]
  obtain ⟨y1, y2, y3, y4⟩ := hsy
  obtain ⟨e, w1, w2, w3, w4, w5⟩ := c_run cB_L hX0 hx0 e2 y2
  obtain ⟨f, v1, v2, v3, v4, v5⟩ := c_run cB_D hX0 hx0 e2 y2
  rw [w1, Option.bind_some, v1, Option.bind_some, e2, hx0.1]
  by_cases hs : s < n
  · rw [if_pos (nI_lt hs (by omega))]
    by_cases hL : isL (B s)
    · have hse : s < e := by
        by_cases q : e = s
        · subst q
          rcases w5 with w5 | w5
          · omega
          · exact absurd hL w5
        · omega
      have hrun : rnn isL B n s e := ⟨hse, w3, w4, w5⟩
      obtain ⟨N, d1, d3, d4, d5, d6⟩ := c_takeW hX0 hx0 e4 e2 hrun
      rw [if_neg (nI_nle (by omega) (by omega)), d1, Option.bind_some]
      exact ⟨N, s, e, rfl, ⟨y1, y2, y3, y4⟩, ⟨cTx_fz hx0 d5, d4, d3, by omega, w3, Or.inr (Or.inl ⟨hs, hL, hrun, d6⟩)⟩, fz_trans hF0 d5⟩
    · have hse : e = s := by
        by_cases q : e = s
        · exact q
        · exact absurd (w4 s (Nat.le_refl s) (by omega)) hL
      subst hse
      rw [Nat.sub_self, if_pos (show nI 0 ≤ 0 from nI_le (Nat.le_refl 0) (by decide))]
      by_cases hD : isD (B e)
      · have hse : e < f := by
          by_cases q : f = e
          · subst q
            rcases v5 with v5 | v5
            · omega
            · exact absurd hD v5
          · omega
        have hrun : rnn isD B n e f := ⟨hse, v3, v4, v5⟩
        obtain ⟨N, d1, d3, d4, d5, d6, d7⟩ := c_takeN hX0 hx0 e4 e2 hrun
        rw [if_neg (nI_nle (by omega) (by omega)), d1, Option.bind_some]
        exact ⟨N, e, f, rfl, ⟨y1, y2, y3, y4⟩, ⟨cTx_fz hx0 d5, d4, d3, by omega, v3, Or.inr (Or.inr (Or.inl ⟨hs, hD, hrun, d6, d7⟩))⟩, fz_trans hF0 d5⟩
      · have hse : f = e := by
          by_cases q : f = e
          · exact q
          · exact absurd (v4 e (Nat.le_refl e) (by omega)) hD
        subst hse
        rw [Nat.sub_self, if_pos (show nI 0 ≤ 0 from nI_le (Nat.le_refl 0) (by decide))]
        have hX1 : gFx T (si (si N0 3 4 (nI f)) 3 3 3) := gFx_gr hX0 (fun _ _ => rfl)
        have hF1 : fz tS tL M (si (si N0 3 4 (nI f)) 3 3 3) := fz_si hF0 ⟨rfl, Or.inr (Or.inl rfl)⟩
        have hx1 := cTx_fz hx hF1
        rw [r_3_0 hX1, Option.bind_some, show gi (si (si N0 3 4 (nI f)) 3 3 3) 3 2 = nI f by rw [gi_si, if_neg (by omega)]; exact e2, ald_ok (s_4 hX1) (show f < 800 by omega) (by decide), Option.bind_some, (hx1.2.2 f hs).2]
        have hF2 : fz tS tL M (si (si (si (si N0 3 4 (nI f)) 3 3 3) 3 7 (cB (B f))) 3 2 (gi (si (si (si N0 3 4 (nI f)) 3 3 3) 3 7 (cB (B f))) 3 2 + 1)) := fz_si (fz_si hF1 ⟨rfl, Or.inr (Or.inr (Or.inr (Or.inr rfl)))⟩) ⟨rfl, Or.inl rfl⟩
        refine ⟨_, f, f + 1, rfl, ⟨y1, y2, y3, y4⟩, ⟨cTx_fz hx hF2, ?_, ?_, by omega, by omega, Or.inr (Or.inr (Or.inr ⟨hs, rfl, hL, hD, ?_, ?_⟩))⟩, hF2⟩
        · rw [gi_si, if_neg (by omega), gi_si, if_neg (by omega), gi_si, if_neg (by omega)]
          exact e4
        · rw [gi_si, if_pos ⟨rfl, rfl⟩, gi_si, if_neg (by omega), gi_si, if_neg (by omega), e2, nI_1]
        · rw [gi_si, if_neg (by omega), gi_si, if_neg (by omega), gi_si, if_pos ⟨rfl, rfl⟩]
        · rw [gi_si, if_neg (by omega), gi_si, if_pos ⟨rfl, rfl⟩]
  · have esn : s = n := by omega
    rw [if_neg (nI_nlt (by omega) (by omega))]
    have hF2 : fz tS tL M (si (si N0 3 4 (nI s)) 3 3 0) := fz_si hF0 ⟨rfl, Or.inr (Or.inl rfl)⟩
    refine ⟨_, s, n, rfl, ⟨y1, y2, y3, y4⟩, ⟨cTx_fz hx hF2, ?_, ?_, by omega, Nat.le_refl n, Or.inl ⟨esn, rfl, ?_⟩⟩, hF2⟩
    · rw [gi_si, if_neg (by omega)]
      exact e4
    · rw [gi_si, if_neg (by omega), ← esn]
      exact e2
    · rw [gi_si, if_pos ⟨rfl, rfl⟩]
end PTK
