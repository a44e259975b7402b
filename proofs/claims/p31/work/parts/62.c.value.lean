/-! A NODE'S VALUE is what the code's part does on the stack -/
section PND
variable {P : Nat → Prop} {T : gT} {M : gM} {k : Nat → Nat × Nat} {Q : Nat → Nat} {m q : Nat} {rec : gRecT_X11_value}
theorem lim_L {z : Int} (h1 : -4000000000000000000 ≤ z) (h2 : z ≤ 4000000000000000000) : f_X11_value_109 rec T M (iL z) = some (iL (cl z)) := by
  have ez := iL_toInt h1 h2
  have e1 : (1000000 : Int64).toInt = 1000000 := rfl
  have e2 : (-1000000 : Int64).toInt = -1000000 := rfl
  unfold f_X11_value_109 cl
  by_cases c1 : 1000000 < z
  · rw [show lmin (1000000 : Int64) (iL z) = 1000000 from by
      show (if _ then _ else _) = _
      first | rw [if_pos (by rw [Int64.lt_iff_toInt_lt, ez, e1]; omega)] | rw [if_neg (by rw [Int64.lt_iff_toInt_lt, ez, e1]; omega)], show lmax (-1000000 : Int64) 1000000 = 1000000 from by decide, if_neg (by omega), if_pos c1]
    rfl
  · rw [show lmin (1000000 : Int64) (iL z) = iL z from by
      show (if _ then _ else _) = _
      by_cases c3 : z < 1000000
      · first | rw [if_neg (by rw [Int64.lt_iff_toInt_lt, ez, e1]; omega)] | rw [if_pos (by rw [Int64.lt_iff_toInt_lt, ez, e1]; omega)]
      · have : z = 1000000 := by omega
        subst this
        first | rw [if_neg (by rw [Int64.lt_iff_toInt_lt, ez, e1]; omega)] <;> rfl | rw [if_pos (by rw [Int64.lt_iff_toInt_lt, ez, e1]; omega)] <;> rfl]
    by_cases c2 : z < -1000000
    · rw [show lmax (-1000000 : Int64) (iL z) = -1000000 from by
        show (if _ then _ else _) = _
        rw [if_pos (by rw [Int64.lt_iff_toInt_lt, ez, e2]; omega)], if_pos c2]
      rfl
    · rw [show lmax (-1000000 : Int64) (iL z) = iL z from by
        show (if _ then _ else _) = _
        rw [if_neg (by rw [Int64.lt_iff_toInt_lt, ez, e2]; omega)], if_neg c2, if_neg c1]
theorem p_val (hok : ∀ t, t < m → wG k t) (hQ : ∀ i, i < 4 → Q i ≤ 9999) (hq : T[q]? = some (12, 4)) (hg : ∀ i, i < 4 → gl M q i = iL (Q i)) : ∀ (d : Nat) {e s t n : Nat}, gND P T M k d e s t → t ≤ m → d ≤ n → s < t ∧ wH k t = wH k s + 1 ∧ (∀ j, j < wH k s → wS k Q t j = wS k Q s j) ∧ g_X11_value n T M e q = some (iL (wS k Q t (wH k s)))
  | 0, _, _, _, _ => fun h _ _ => h.elim
  | d + 1, e, s, t, 0 => fun _ _ h => absurd h (Nat.not_succ_le_zero d)
  | d + 1, e, s, t, n + 1 => fun ⟨_, _, h⟩ htm hdn => by
    rcases h with ⟨rfl, h2, h3, h4⟩ | ⟨f, g, u, v, rfl, h2, h3, h4, h5, h6, h7, h8⟩
    · have hw := hok s (by omega)
      have e1 : wH k (s + 1) = wH k s + 1 := by
        show (if _ then _ else _) = _
        rw [if_pos h2]
      unfold wG at hw
      rcases (show (k s).1 = 0 ∨ (k s).1 = 1 by omega) with z | z
      · have hl : (k s).2 ≤ 9999 := by omega
        have e2 : wS k Q (s + 1) = wU (wS k Q s) (wH k s) ((k s).2 : Int) := by
          show (if _ then _ else _) = _
          rw [if_pos z]
        refine ⟨by omega, e1, fun j hj => by rw [e2]; exact if_neg (by omega), ?_⟩
        rw [e2, show wU (wS k Q s) (wH k s) ((k s).2 : Int) (wH k s) = ((k s).2 : Int) from if_pos rfl]
        show f_X11_value (g_X11_value n) T M e q = _
        unfold f_X11_value f_X11_value_29
        rw [h3, h4, z, if_neg (by decide), if_neg (by decide), ← iI_N, iI_L (by omega) (by omega)]
      · have hl : (k s).2 < 4 := by omega
        have e2 : wS k Q (s + 1) = wU (wS k Q s) (wH k s) (Q (k s).2 : Int) := by
          show (if _ then _ else _) = _
          rw [if_neg (by omega), if_pos z]
        refine ⟨by omega, e1, fun j hj => by rw [e2]; exact if_neg (by omega), ?_⟩
        rw [e2, show wU (wS k Q s) (wH k s) (Q (k s).2 : Int) (wH k s) = (Q (k s).2 : Int) from if_pos rfl]
        show f_X11_value (g_X11_value n) T M e q = _
        unfold f_X11_value f_X11_value_29
        rw [h3, h4, z, if_neg (by decide), if_pos (by decide), aldl_ok hq hl (by decide), Option.bind_some, hg _ hl]
    · obtain ⟨a1, a2, a3, a4⟩ := p_val hok hQ hq hg d h7 (n := n) (by
        have := (p_val hok hQ hq hg d h8 (n := d) (by omega) (Nat.le_refl d)).1
        omega) (by omega)
      obtain ⟨b1, b2, b3, b4⟩ := p_val hok hQ hq hg d h8 (n := n) (by omega) (by omega)
      have e1 : wH k (v + 1) = wH k s + 1 := by
        show (if _ then _ else _) = _
        rw [if_neg (by omega), b2, a2]
        omega
      have eL : wS k Q v (wH k v - 2) = wS k Q u (wH k s) := by
        rw [show wH k v - 2 = wH k s by omega]
        exact b3 _ (by omega)
      have eR : wH k v - 1 = wH k u := by omega
      have e2 : wS k Q (v + 1) = wU (wS k Q v) (wH k s) (opr (k v).1 (wS k Q u (wH k s)) (wS k Q v (wH k u))) := by
        show (if _ then _ else if _ then _ else _) = _
        rw [if_neg (by omega), if_neg (by omega), eL, eR, show wH k v - 2 = wH k s by omega]
      refine ⟨by omega, e1, fun j hj => ?_, ?_⟩
      · rw [e2, show wU (wS k Q v) (wH k s) (opr (k v).1 (wS k Q u (wH k s)) (wS k Q v (wH k u))) j = wS k Q v j from if_neg (by omega), b3 j (by omega), a3 j hj]
      · rw [e2, show wU (wS k Q v) (wH k s) (opr (k v).1 (wS k Q u (wH k s)) (wS k Q v (wH k u))) (wH k s) = opr (k v).1 (wS k Q u (wH k s)) (wS k Q v (wH k u)) from if_pos rfl]
        obtain ⟨p1, p2⟩ := wS_in hok hQ u (by omega) (wH k s)
        obtain ⟨p3, p4⟩ := wS_in hok hQ v (by omega) (wH k u)
        generalize wS k Q u (wH k s) = x at a4 p1 p2
        generalize wS k Q v (wH k u) = y at b4 p3 p4
        have hm := mul_in p1 p2 p3 p4
        have ht := tdiv_in (b := y) p1 p2
        have sf : T[f]? = some (17, 0) := by
          cases d with
          | zero => exact h7.elim
          | succ d => exact h7.2.1
        have sg : T[g]? = some (17, 0) := by
          cases d with
          | zero => exact h8.elim
          | succ d => exact h8.2.1
        show f_X11_value (g_X11_value n) T M e q = _
        unfold f_X11_value
        rw [h4, ldr_ok h5 sf, Option.bind_some, a4, Option.bind_some, ldr_ok h6 sg, Option.bind_some, b4, Option.bind_some]
        rcases (show (k v).1 = 2 ∨ (k v).1 = 3 ∨ (k v).1 = 4 ∨ (k v).1 = 5 by omega) with z | z | z | z
        · rw [z, if_pos (by decide), if_neg (by decide), show iL x + iL y = iL (x + y) from (Int64.ofInt_add x y).symm, lim_L (by omega) (by omega), opr2]
        · rw [z, if_pos (by decide), if_pos (by decide), if_neg (by decide), show iL x - iL y = iL (x - y) from (Int64.ofInt_sub x y).symm, lim_L (by omega) (by omega), opr3]
        · rw [z, if_pos (by decide), if_pos (by decide), if_pos (by decide), if_neg (by decide), show iL x * iL y = iL (x * y) from (Int64.ofInt_mul x y).symm, lim_L (by omega) (by omega), opr4]
        · rw [z, if_pos (by decide), if_pos (by decide), if_pos (by decide), if_pos (by decide), opr5]
          by_cases hb : y = 0
          · subst hb
            rw [if_neg (fun q => q ((lg_cmp_eq _ _).mpr ((iL_0 p3 p4).mpr rfl))), if_pos rfl, show (0 : Int64) = iL 0 from rfl, lim_L (by omega) (by omega)]
            rfl
          · have nb : ¬ iL y = 0 := fun q => hb ((iL_0 p3 p4).mp q)
            rw [if_pos (fun q => nb ((lg_cmp_eq _ _).mp q)), chk_ok nb, Option.bind_some, iL_div p1 p2 p3 p4, if_neg hb, lim_L (by omega) (by omega), cl_id ht.1 ht.2]
end PND
