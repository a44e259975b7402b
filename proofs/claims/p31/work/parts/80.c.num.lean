section PNM
variable {T : gT} {M N : gM} {n v cap p a b : Nat}
theorem ssize (hn : n ≤ 9999) : f_J6_stringSize_0f7a4 T M (nI n) = some (nI (dg n).length) := by
  have h := st_ok (n / 100) (by omega) (n % 100) (by omega)
  rw [show 100 * (n / 100) + n % 100 = n by omega] at h
  rw [← h]
  unfold f_J6_stringSize_0f7a4 f_J6_stringSize_0f7a4_11 f_J6_stringSize_0f7a4_B16
  rfl
theorem lt100 (hn : n ≤ 9999) : (-100 : Int32) < -(nI n) ↔ n < 100 := by
  rw [Int32.lt_iff_toInt_lt, neg_toInt (by omega), show (-100 : Int32).toInt = -100 from rfl]
  omega
theorem le9 (hn : n ≤ 9999) : (-9 : Int32) ≤ -(nI n) ↔ n ≤ 9 := by
  rw [Int32.le_iff_toInt_le, neg_toInt (by omega), show (-9 : Int32).toInt = -9 from rfl]
  omega
/-- the last one or two digits -/
def tlM (M : gM) (v p a : Nat) : gM := if a ≤ 9 then si M v p (nI (48 + a)) else si (si M v (p + 1) (nI (48 + a % 10))) v p (nI (48 + a / 10))
def tlL (a : Nat) : Nat := if a ≤ 9 then 1 else 2
theorem gc_tail {i6 : Int32} (h0 : i6 = 0) (ha : a < 100) (hv : T[v]? = some (10, cap)) (hp : p + tlL a ≤ cap) (hc : cap ≤ 2000) : ((chk (¬ ((-(-(nI a))) < 0 ∨ 100 ≤ (-(-(nI a))).toNatClampNeg))).bind fun _ => (ast T M v (nI (p + tlL a) + (-1 : Int32)) (((gDg 2002 (-(-(nI a))).toNatClampNeg)).toInt8.toInt32)).bind fun M17 => if (-9 : Int32) ≤ -(nI a) then f_J6_getChars_ba4f3_104 T M17 v (nI (p + tlL a) + (-1 : Int32)) i6 else (chk (¬ ((-(-(nI a))) < 0 ∨ 100 ≤ (-(-(nI a))).toNatClampNeg))).bind fun _ => (ast T M17 v ((nI (p + tlL a) + (-1 : Int32)) + (-1 : Int32)) (((gDg 2003 (-(-(nI a))).toNatClampNeg)).toInt8.toInt32)).bind fun M20 => f_J6_getChars_ba4f3_104 T M20 v ((nI (p + tlL a) + (-1 : Int32)) + (-1 : Int32)) i6) = some (nI p, tlM M v p a) := by
  subst h0
  have hk : ¬ (nI a < 0 ∨ 100 ≤ (nI a).toNatClampNeg) := by
    rw [nI_clamp (by omega)]
    rintro (z | z)
    · exact nI_pos (by omega) z
    · omega
  have g1 : gDg 2002 a = nI (48 + a % 10) := rfl
  have g2 : gDg 2003 a = nI (48 + a / 10) := rfl
  unfold f_J6_getChars_ba4f3_104 tlM
  rw [Int32.neg_neg, chk_ok hk, nI_clamp (by omega), g1, g2, e8 _ (by omega), e8 _ (by omega), Option.bind_some]
  by_cases h : a ≤ 9
  · have hl : tlL a = 1 := if_pos h
    rw [hl] at hp ⊢
    rw [nI_m, ast_ok hv (by omega) (by omega), Option.bind_some, if_pos ((le9 (by omega)).mpr h), if_pos rfl, if_pos h, Nat.mod_eq_of_lt (by omega)]
  · have hl : tlL a = 2 := if_neg h
    rw [hl] at hp ⊢
    rw [show p + 2 = (p + 1) + 1 from rfl, nI_m, nI_m, ast_ok hv (by omega) (by omega), Option.bind_some, if_neg (fun z => h ((le9 (by omega)).mp z)), Option.bind_some, ast_ok hv (by omega) (by omega), Option.bind_some, if_pos rfl, if_neg h]
theorem gc_small (ha : a < 100) (hv : T[v]? = some (10, cap)) (hp : p + tlL a ≤ cap) (hc : cap ≤ 2000) : f_J6_getChars_ba4f3 T M (nI a) (nI (p + tlL a)) v = some (nI p, tlM M v p a) := by
  have hF : gFU = 2999 + 1 := rfl
  have hL : gloop (fun x => f_J6_getChars_ba4f3_B22 T x.2.2 x.1 v x.2.1 (0 : Int32)) gFU (-(nI a), nI (p + tlL a), M) = some (-(nI a), nI (p + tlL a), M) := by
    rw [hF]
    refine gloop_one (A := fun x => f_J6_getChars_ba4f3_B22 T x.2.2 x.1 v x.2.1 (0 : Int32)) (a := (-(nI a), nI (p + tlL a), M)) ?_ _
    show f_J6_getChars_ba4f3_B22 T M (-(nI a)) v (nI (p + tlL a)) 0 = _
    unfold f_J6_getChars_ba4f3_B22
    rw [if_pos ((lt100 (by omega)).mpr ha)]
  unfold f_J6_getChars_ba4f3 f_J6_getChars_ba4f3_12
  rw [if_pos (Int32.not_lt.mp (nI_pos (by omega))), if_neg (fun z => z rfl), hL, Option.bind_some]
  exact gc_tail rfl ha hv hp hc
theorem gc_big (ha : a < 100) (ha1 : 1 ≤ a) (hb : b < 100) (hv : T[v]? = some (10, cap)) (hp : p + tlL a + 2 ≤ cap) (hc : cap ≤ 2000) : f_J6_getChars_ba4f3 T M (nI (100 * a + b)) (nI (p + tlL a + 2)) v = some (nI p, tlM (si (si M v (p + tlL a + 1) (nI (48 + b % 10))) v (p + tlL a) (nI (48 + b / 10))) v p a) := by
  have hF : gFU = 2998 + 1 + 1 := rfl
  obtain ⟨d1, d2⟩ := dv_ok a ha b hb
  have hk : ¬ (nI b < 0 ∨ 100 ≤ (nI b).toNatClampNeg) := by
    rw [nI_clamp (by omega)]
    rintro (z | z)
    · exact nI_pos (by omega) z
    · omega
  have g1 : gDg 2002 b = nI (48 + b % 10) := rfl
  have g2 : gDg 2003 b = nI (48 + b / 10) := rfl
  have hL : gloop (fun x => f_J6_getChars_ba4f3_B22 T x.2.2 x.1 v x.2.1 (0 : Int32)) gFU (-(nI (100 * a + b)), nI (p + tlL a + 2), M) = some (-(nI a), nI (p + tlL a), si (si M v (p + tlL a + 1) (nI (48 + b % 10))) v (p + tlL a) (nI (48 + b / 10))) := by
    rw [hF]
    have h1 : f_J6_getChars_ba4f3_B22 T M (-(nI (100 * a + b))) v (nI (p + tlL a + 2)) 0 = some (.inr (-(nI a), nI (p + tlL a), si (si M v (p + tlL a + 1) (nI (48 + b % 10))) v (p + tlL a) (nI (48 + b / 10)))) := by
      unfold f_J6_getChars_ba4f3_B22
      rw [if_neg (fun z => by have := (lt100 (by omega)).mp z; omega), d1, d2, chk_ok hk, Option.bind_some, nI_clamp (by omega), g1, g2, e8 _ (by omega), e8 _ (by omega), show p + tlL a + 2 = (p + tlL a + 1) + 1 from rfl, nI_m, nI_m, ast_ok hv (by omega) (by omega), Option.bind_some, Option.bind_some, ast_ok hv (by omega) (by omega), Option.bind_some]
    rw [gloop_two (A := fun x => f_J6_getChars_ba4f3_B22 T x.2.2 x.1 v x.2.1 (0 : Int32)) (a := (-(nI (100 * a + b)), nI (p + tlL a + 2), M)) h1]
    refine gloop_one (A := fun x => f_J6_getChars_ba4f3_B22 T x.2.2 x.1 v x.2.1 (0 : Int32)) ?_ _
    unfold f_J6_getChars_ba4f3_B22
    dsimp only
    rw [if_pos ((lt100 (by omega)).mpr ha)]
  unfold f_J6_getChars_ba4f3 f_J6_getChars_ba4f3_12
  rw [if_pos (Int32.not_lt.mp (nI_pos (by omega))), if_neg (fun z => z rfl), hL, Option.bind_some]
  exact gc_tail rfl ha hv (by omega) hc
/-- the digits of a number, put from p on -/
theorem gchars (hn : n ≤ 9999) (hv : T[v]? = some (10, cap)) (hp : p + (dg n).length ≤ cap) (hc : cap ≤ 2000) : ∃ N i, f_J6_getChars_ba4f3 T M (nI n) (nI (p + (dg n).length)) v = some (i, N) ∧ (∀ b j, gr N b j = gr M b j) ∧ (∀ b j, gl N b j = gl M b j) ∧ (∀ b j, ¬ (b = v ∧ p ≤ j ∧ j < p + (dg n).length) → gi N b j = gi M b j) ∧ ∀ j, j < (dg n).length → gi N v (p + j) = nI ((dg n).getD j 0) := by
  by_cases h1 : n < 10
  · have ht : tlL n = 1 := if_pos (by omega)
    have hl : (dg n).length = 1 := by unfold dg; rw [if_pos h1]; rfl
    rw [hl] at hp ⊢
    have key := gc_small (T := T) (M := M) (v := v) (cap := cap) (p := p) (a := n) (by omega) hv (by omega) hc
    rw [ht] at key
    refine ⟨_, _, key, ?_, ?_, ?_, ?_⟩
    all_goals (unfold tlM; rw [if_pos (show n ≤ 9 by omega)])
    · exact fun _ _ => rfl
    · exact fun _ _ => rfl
    · intro b j hb
      rw [gi_si, if_neg (fun z => hb ⟨z.1, by omega, by omega⟩)]
    · intro j hj
      unfold dg
      rw [if_pos h1, gi_si, if_pos ⟨rfl, by omega⟩, show j = 0 by omega]
      rfl
  · by_cases h2 : n < 100
    · have ht : tlL n = 2 := if_neg (by omega)
      have hl : (dg n).length = 2 := by unfold dg; rw [if_neg h1, if_pos h2]; rfl
      rw [hl] at hp ⊢
      have key := gc_small (T := T) (M := M) (v := v) (cap := cap) (p := p) (a := n) (by omega) hv (by omega) hc
      rw [ht] at key
      refine ⟨_, _, key, ?_, ?_, ?_, ?_⟩
      all_goals (unfold tlM; rw [if_neg (show ¬ n ≤ 9 by omega)])
      · exact fun _ _ => rfl
      · exact fun _ _ => rfl
      · intro b j hb
        rw [gi_si, if_neg (fun z => hb ⟨z.1, by omega, by omega⟩), gi_si, if_neg (fun z => hb ⟨z.1, by omega, by omega⟩)]
      · intro j hj
        unfold dg
        rw [if_neg h1, if_pos h2]
        rcases (show j = 0 ∨ j = 1 by omega) with rfl | rfl
        · rw [gi_si, if_pos ⟨rfl, rfl⟩]
          rfl
        · rw [gi_si, if_neg (by omega), gi_si, if_pos ⟨rfl, rfl⟩]
          rfl
    · have hb2 : n % 100 < 100 := Nat.mod_lt _ (by decide)
      have hab : 100 * (n / 100) + n % 100 = n := by omega
      by_cases h3 : n < 1000
      · have ht : tlL (n / 100) = 1 := if_pos (by omega)
        have hl : (dg n).length = 3 := by unfold dg; rw [if_neg h1, if_neg h2, if_pos h3]; rfl
        have key := gc_big (T := T) (M := M) (v := v) (cap := cap) (p := p) (a := n / 100) (b := n % 100) (by omega) (by omega) hb2 hv (by omega) hc
        rw [hab, ht] at key
        rw [hl] at hp ⊢
        refine ⟨_, _, key, ?_, ?_, ?_, ?_⟩
        all_goals (unfold tlM; rw [if_pos (show n / 100 ≤ 9 by omega)])
        · exact fun _ _ => rfl
        · exact fun _ _ => rfl
        · intro b j hb
          rw [gi_si, if_neg (fun z => hb ⟨z.1, by omega, by omega⟩), gi_si, if_neg (fun z => hb ⟨z.1, by omega, by omega⟩), gi_si, if_neg (fun z => hb ⟨z.1, by omega, by omega⟩)]
        · intro j hj
          unfold dg
          rw [if_neg h1, if_neg h2, if_pos h3]
          rcases (show j = 0 ∨ j = 1 ∨ j = 2 by omega) with rfl | rfl | rfl
          · rw [gi_si, if_pos ⟨rfl, rfl⟩]
            rfl
          · rw [gi_si, if_neg (by omega), gi_si, if_pos ⟨rfl, rfl⟩, show n % 100 / 10 = n / 10 % 10 by omega]
            rfl
          · rw [gi_si, if_neg (by omega), gi_si, if_neg (by omega), gi_si, if_pos ⟨rfl, rfl⟩, show n % 100 % 10 = n % 10 by omega]
            rfl
      · have ht : tlL (n / 100) = 2 := if_neg (by omega)
        have hl : (dg n).length = 4 := by unfold dg; rw [if_neg h1, if_neg h2, if_neg h3]; rfl
        have key := gc_big (T := T) (M := M) (v := v) (cap := cap) (p := p) (a := n / 100) (b := n % 100) (by omega) (by omega) hb2 hv (by omega) hc
        rw [hab, ht] at key
        rw [hl] at hp ⊢
        refine ⟨_, _, key, ?_, ?_, ?_, ?_⟩
        all_goals (unfold tlM; rw [if_neg (show ¬ n / 100 ≤ 9 by omega)])
        · exact fun _ _ => rfl
        · exact fun _ _ => rfl
        · intro b j hb
          rw [gi_si, if_neg (fun z => hb ⟨z.1, by omega, by omega⟩), gi_si, if_neg (fun z => hb ⟨z.1, by omega, by omega⟩), gi_si, if_neg (fun z => hb ⟨z.1, by omega, by omega⟩), gi_si, if_neg (fun z => hb ⟨z.1, by omega, by omega⟩)]
        · intro j hj
          unfold dg
          rw [if_neg h1, if_neg h2, if_neg h3]
          rcases (show j = 0 ∨ j = 1 ∨ j = 2 ∨ j = 3 by omega) with rfl | rfl | rfl | rfl
          · rw [gi_si, if_pos ⟨rfl, rfl⟩, show n / 100 / 10 = n / 1000 by omega]
            rfl
          · rw [gi_si, if_neg (by omega), gi_si, if_pos ⟨rfl, rfl⟩]
            rfl
          · rw [gi_si, if_neg (by omega), gi_si, if_neg (by omega), gi_si, if_pos ⟨rfl, rfl⟩, show n % 100 / 10 = n / 10 % 10 by omega]
            rfl
          · rw [gi_si, if_neg (by omega), gi_si, if_neg (by omega), gi_si, if_neg (by omega), gi_si, if_pos ⟨rfl, rfl⟩, show n % 100 % 10 = n % 10 by omega]
            rfl
end PNM
