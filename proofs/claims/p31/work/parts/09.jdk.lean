/-! STRING CONSTANTS, Math, arraycopy, and the JDK's small methods -/
def gSl (i : Nat) : Nat := (gStrs.getD i []).length
def gSc (i k : Nat) : Int32 := Int32.ofNat ((gStrs.getD i []).getD k 0)
section GJ
variable {Z : gZ} {cc : ByteArray} {own nm : String} {rt : Option FieldType} {d mc ms : Nat} {Acc : Option Value → (Nat → Nat) → gT → gM → Prop} {AccX : Nat → (Nat → Nat) → gT → gM → Prop} {ad : Nat → Nat} {T : gT} {M : gM} {ce so pc : Nat} {ls : List (Nat × Value)} {st : List Value}
theorem g_sval (hF : gFix Z cc own nm rt d mc ms Acc AccX) {i idx : Nat} (hi : i < 34) (hw : Cond.fieldLink own idx "java/lang/String" "value" "[B" ∈ gWS) (hd : decode cc pc = .ok (.getfield idx, 3))
    (k : gG Z ad T M ce so (pc + 3) ls (.ref (gSB + 1000 + i) :: st)) : gG Z ad T M ce so pc ls (.ref (gSB + i) :: st) := by
  obtain ⟨p, l, e, R, s, m, args, below, meth, c, Q, adV, hKq, hx, hb, hml, hown, hts, hK, hH, hA, hE, hRm, hnm, hlk9, hst9, -⟩ := hF
  intro H locs la hR hl
  have k := k H locs la hR hl
  rw [hKq] at k ⊢
  have hS9 := hR.2.2.1
  rw [hH] at hS9
  have e1 : gv ad (.ref (gSB + 1000 + i)) = .ref (adV i) := by
    show Value.ref (ad _) = _
    rw [hR.2.2.2.2 _ (by omega), hE.2.2.2.2.2.2.2.2.2.2.2.2.2.1 i hi]
  have e2 : gv ad (.ref (gSB + i)) = .ref (Z.2.2.2.2.2.2 (gSB + i)) := by
    show Value.ref (ad _) = _
    rw [hR.2.2.2.2 _ (by omega)]
  rw [List.map_cons, e1] at k
  rw [List.map_cons, e2]
  exact vk_getf hx hb (hE.2.2.1.1 i hi).2.2.1 hS9 hown (hts _ hw) (fun x hx => hx) hd k
theorem g_scod (hF : gFix Z cc own nm rt d mc ms Acc AccX) {i idx : Nat} (hi : i < 34) (hw : Cond.fieldLink own idx "java/lang/String" "coder" "B" ∈ gWS) (hd : decode cc pc = .ok (.getfield idx, 3))
    (k : gG Z ad T M ce so (pc + 3) ls (.int 0 :: st)) : gG Z ad T M ce so pc ls (.ref (gSB + i) :: st) := by
  obtain ⟨p, l, e, R, s, m, args, below, meth, c, Q, adV, hKq, hx, hb, hml, hown, hts, hK, hH, hA, hE, hRm, hnm, hlk9, hst9, -⟩ := hF
  intro H locs la hR hl
  have k := k H locs la hR hl
  rw [hKq] at k ⊢
  have hS9 := hR.2.2.1
  rw [hH] at hS9
  have e2 : gv ad (.ref (gSB + i)) = .ref (Z.2.2.2.2.2.2 (gSB + i)) := by
    show Value.ref (ad _) = _
    rw [hR.2.2.2.2 _ (by omega)]
  rw [List.map_cons, e2]
  exact vk_getf hx hb (hE.2.2.1.1 i hi).2.1 hS9 hown (hts _ hw) (fun x hx => hx) hd k
theorem g_sblen (hF : gFix Z cc own nm rt d mc ms Acc AccX) {i : Nat} (hi : i < 34) (hd : decode cc pc = .ok (.arraylength, 1))
    (k : gG Z ad T M ce so (pc + 1) ls (.int (Int32.ofNat (gSl i)) :: st)) : gG Z ad T M ce so pc ls (.ref (gSB + 1000 + i) :: st) := by
  obtain ⟨p, l, e, R, s, m, args, below, meth, c, Q, adV, hKq, hx, hb, hml, hown, hts, hK, hH, hA, hE, hRm, hnm, hlk9, hst9, -⟩ := hF
  intro H locs la hR hl
  have k := k H locs la hR hl
  rw [hKq] at k ⊢
  have hS9 := hR.2.2.1
  rw [hH] at hS9
  have e1 : gv ad (.ref (gSB + 1000 + i)) = .ref (adV i) := by
    show Value.ref (ad _) = _
    rw [hR.2.2.2.2 _ (by omega), hE.2.2.2.2.2.2.2.2.2.2.2.2.2.1 i hi]
  rw [List.map_cons, e1]
  exact va_tlen hx hb (hE.2.2.1.1 i hi).2.2.2 hS9 (by
    rw [gSl, List.getD_eq_getElem?_getD, List.getElem?_map, List.getD_eq_getElem?_getD]
    cases gStrs[i]? <;> rfl) hd k
theorem g_sbald (hF : gFix Z cc own nm rt d mc ms Acc AccX) {i : Nat} {x : Int32} (hi : i < 34) (hin : vp_in x (gSl i)) (hd : decode cc pc = .ok (.baload, 1))
    (k : gG Z ad T M ce so (pc + 1) ls (.int (gSc i x.toNatClampNeg) :: st)) : gG Z ad T M ce so pc ls (.int x :: .ref (gSB + 1000 + i) :: st) := by
  obtain ⟨p, l, e, R, s, m, args, below, meth, c, Q, adV, hKq, hx, hb, hml, hown, hts, hK, hH, hA, hE, hRm, hnm, hlk9, hst9, -⟩ := hF
  intro H locs la hR hl
  have k := k H locs la hR hl
  rw [hKq] at k ⊢
  have hS9 := hR.2.2.1
  rw [hH] at hS9
  have e1 : gv ad (.ref (gSB + 1000 + i)) = .ref (adV i) := by
    show Value.ref (ad _) = _
    rw [hR.2.2.2.2 _ (by omega), hE.2.2.2.2.2.2.2.2.2.2.2.2.2.1 i hi]
  rw [List.map_cons, List.map_cons, e1]
  have hlen : (gStrs.map List.length).getD i 0 = gSl i := by
    rw [gSl, List.getD_eq_getElem?_getD, List.getElem?_map, List.getD_eq_getElem?_getD]
    cases gStrs[i]? <;> rfl
  refine va_tb hx hb (hE.2.2.1.1 i hi).2.2.2 hS9 (by rw [hlen]; exact hin) (v := .int (gSc i x.toNatClampNeg)) ?_ hd k
  have hlt : x.toNatClampNeg < (gStrs.getD i []).length := Nat.not_le.mp fun q => hin (Or.inr q)
  show Value.int (((gStrs.map (fun l => l.map Int32.ofNat)).getD i []).getD x.toNatClampNeg 0) = Value.int (gSc i x.toNatClampNeg)
  congr 1
  rw [gSc]
  simp only [List.getD_eq_getElem?_getD, List.getElem?_map] at hlt ⊢
  cases hg : gStrs[i]? with
  | none => rw [hg] at hlt; exact absurd hlt (Nat.not_lt_zero _)
  | some l =>
    rw [hg] at hlt
    simp only [Option.map_some, Option.getD_some, List.getElem?_map] at hlt ⊢
    rw [List.getElem?_eq_getElem hlt]
    rfl
theorem g_compact (hF : gFix Z cc own nm rt d mc ms Acc AccX) {idx : Nat} (hw : Cond.fieldLink own idx "java/lang/String" "COMPACT_STRINGS" "Z" ∈ gWS) (hd : decode cc pc = .ok (.getstatic idx, 3))
    (k : gG Z ad T M ce so (pc + 3) ls (.int 1 :: st)) : gG Z ad T M ce so pc ls st := by
  obtain ⟨p, l, e, R, s, m, args, below, meth, c, Q, adV, hKq, hx, hb, hml, hown, hts, hK, hH, hA, hE, hRm, hnm, hlk9, hst9, -⟩ := hF
  intro H locs la hR hl
  have k := k H locs la hR hl
  rw [hKq] at k ⊢
  have hS9 := hR.2.2.1
  rw [hH] at hS9
  exact va_gets hx hb hE.2.2.2.2.2.2.2.2.2.2.2.1 hS9 hown (hts _ hw) (fun x hx => hx) hd k
theorem g_fmt (hF : gFix Z cc own nm rt d mc ms Acc AccX) {idx : Nat} (hw : Cond.fieldLink own idx "jdk/internal/util/Preconditions" "SIOOBE_FORMATTER" "Ljava/util/function/BiFunction;" ∈ gWS) (hd : decode cc pc = .ok (.getstatic idx, 3))
    (k : ∀ v : Value, v.category = 1 → gG Z ad T M ce so (pc + 3) ls (v :: st)) : gG Z ad T M ce so pc ls st := by
  obtain ⟨p, l, e, R, s, m, args, below, meth, c, Q, adV, hKq, hx, hb, hml, hown, hts, hK, hH, hA, hE, hRm, hnm, hlk9, hst9, -⟩ := hF
  intro H locs la hR hl
  have k := fun v hv => k v hv H locs la hR hl
  rw [hKq] at k ⊢
  have hS9 := hR.2.2.1
  rw [hH] at hS9
  rcases hE.2.2.2.2.2.2.2.2.2.2.2.2.1 with h | h
  · exact va_gets hx hb h hS9 hown (hts _ hw) (fun x hx => hx) hd (k .null rfl)
  · have k1 := k (.ref (gSB + 2000)) rfl
    have e1 : gv ad (.ref (gSB + 2000)) = .ref (Z.2.2.2.2.2.2 (gSB + 2000)) := by
      show Value.ref (ad _) = _
      rw [hR.2.2.2.2 _ (by omega)]
    rw [List.map_cons, e1] at k1
    exact va_gets hx hb h hS9 hown (hts _ hw) (fun x hx => hx) hd k1
theorem g_i2c (hF : gFix Z cc own nm rt d mc ms Acc AccX) {x v : Int32} (hv : (x.toUInt32 % 65536).toInt32 = v) (hd : decode cc pc = .ok (.i2c, 1))
    (k : gG Z ad T M ce so (pc + 1) ls (.int v :: st)) : gG Z ad T M ce so pc ls (.int x :: st) := by
  obtain ⟨p, l, e, R, s, m, args, below, meth, c, Q, adV, hKq, hx, hb, hml, hown, hts, hK, hH, hA, hE, hRm, hnm, hlk9, hst9, -⟩ := hF
  intro H locs la hR hl
  have k := k H locs la hR hl
  rw [hKq] at k ⊢
  exact lv_i2c hx hb hd hv k

theorem gm_max1 : Cond.static Lib.Math.max.name ∈ gWS := gws_of 484 (by decide +kernel) (by decide +kernel)
theorem gm_max3 : Cond.code Lib.Math.max.name Lib.Math.max.code 2 (some .int) ∈ gWS := gws_of 485 (by decide +kernel) (by decide +kernel)
theorem g_max (hF : gFix Z cc own nm rt d mc ms Acc AccX) {idx : Nat} {x y : Int32} (hw : Cond.methodLink own idx Lib.Math.max.name ∈ gWS) (hdd : 1 ≤ d) (h1 : ce ≤ mc) (h2 : so ≤ ms) (hcat : (st.map fun v => v.category).sum ≤ 8) (hd : decode cc pc = .ok (.invokestatic idx, 3))
    (k : gG Z ad T M ce so (pc + 3) ls (.int (if x < y then y else x) :: st)) : gG Z ad T M ce so pc ls (.int y :: .int x :: st) := by
  obtain ⟨p, l, e, R, s, m, args, below, meth, c, Q, adV, hKq, hx, hb, hml, hown, hts, hK, hH, hA, hE, hRm, hnm, hlk9, hst9, -⟩ := hF
  intro H locs la hR hl
  have k := k H locs la hR hl
  rw [hKq] at k ⊢
  exact va_mmax hx hb (hml.trans hl.1.symm) hown (hts _ hw) (hts _ gm_max1) (hts _ (gws_of 82 (by decide +kernel) (by decide +kernel))) (hts _ gm_max3) (by have := hRm.1; omega) (by
    have h9 : (((st.map (gv ad)).map fun v => v.category).sum) ≤ 8 := by
      rw [List.map_map, show ((fun v : Value => v.category) ∘ gv ad) = (fun v => v.category) from funext fun v => gv_cat ad v]
      exact hcat
    have := hRm.2.1
    omega) (Nat.le_trans h1 hRm.2.2.1) (Nat.le_trans h2 hRm.2.2.2) hd k

theorem gm_min1 : Cond.static Lib.Math.min.name ∈ gWS := gws_of 733 (by decide +kernel) (by decide +kernel)
theorem gm_min3 : Cond.code Lib.Math.min.name Lib.Math.min.code 2 (some .int) ∈ gWS := gws_of 734 (by decide +kernel) (by decide +kernel)
theorem g_min (hF : gFix Z cc own nm rt d mc ms Acc AccX) {idx : Nat} {x y : Int32} (hw : Cond.methodLink own idx Lib.Math.min.name ∈ gWS) (hdd : 1 ≤ d) (h1 : ce ≤ mc) (h2 : so ≤ ms) (hcat : (st.map fun v => v.category).sum ≤ 8) (hd : decode cc pc = .ok (.invokestatic idx, 3))
    (k : gG Z ad T M ce so (pc + 3) ls (.int (if y < x then y else x) :: st)) : gG Z ad T M ce so pc ls (.int y :: .int x :: st) := by
  obtain ⟨p, l, e, R, s, m, args, below, meth, c, Q, adV, hKq, hx, hb, hml, hown, hts, hK, hH, hA, hE, hRm, hnm, hlk9, hst9, -⟩ := hF
  intro H locs la hR hl
  have k := k H locs la hR hl
  rw [hKq] at k ⊢
  exact va_mmin hx hb (hml.trans hl.1.symm) hown (hts _ hw) (hts _ gm_min1) (hts _ (gws_of 82 (by decide +kernel) (by decide +kernel))) (hts _ gm_min3) (by have := hRm.1; omega) (by
    have h9 : (((st.map (gv ad)).map fun v => v.category).sum) ≤ 8 := by
      rw [List.map_map, show ((fun v : Value => v.category) ∘ gv ad) = (fun v => v.category) from funext fun v => gv_cat ad v]
      exact hcat
    have := hRm.2.1
    omega) (Nat.le_trans h1 hRm.2.2.1) (Nat.le_trans h2 hRm.2.2.2) hd k

theorem gm_maxl1 : Cond.static Lib.MathLoose.max_long.x ∈ gWS := gws_of 446 (by decide +kernel) (by decide +kernel)
theorem gm_maxl3 : Cond.code Lib.MathLoose.max_long.x Lib.MathLoose.max_long.code 4 (some .long) ∈ gWS := gws_of 447 (by decide +kernel) (by decide +kernel)
theorem g_maxl (hF : gFix Z cc own nm rt d mc ms Acc AccX) {idx : Nat} {x y : Int64} (hw : Cond.methodLink own idx Lib.MathLoose.max_long.x ∈ gWS) (hdd : 1 ≤ d) (h1 : ce ≤ mc) (h2 : so ≤ ms) (hcat : (st.map fun v => v.category).sum ≤ 8) (hd : decode cc pc = .ok (.invokestatic idx, 3))
    (k : gG Z ad T M ce so (pc + 3) ls (.long (if y < x then x else y) :: st)) : gG Z ad T M ce so pc ls (.long y :: .long x :: st) := by
  obtain ⟨p, l, e, R, s, m, args, below, meth, c, Q, adV, hKq, hx, hb, hml, hown, hts, hK, hH, hA, hE, hRm, hnm, hlk9, hst9, -⟩ := hF
  intro H locs la hR hl
  have k := k H locs la hR hl
  rw [hKq] at k ⊢
  exact va_mmax_long hx hb (hml.trans hl.1.symm) hown (hts _ hw) (hts _ gm_maxl1) (hts _ (gws_of 82 (by decide +kernel) (by decide +kernel))) (hts _ gm_maxl3) (by have := hRm.1; omega) (by
    have h9 : (((st.map (gv ad)).map fun v => v.category).sum) ≤ 8 := by
      rw [List.map_map, show ((fun v : Value => v.category) ∘ gv ad) = (fun v => v.category) from funext fun v => gv_cat ad v]
      exact hcat
    have := hRm.2.1
    omega) (Nat.le_trans h1 hRm.2.2.1) (Nat.le_trans h2 hRm.2.2.2) hd k

theorem gm_minl1 : Cond.static Lib.MathLoose.min_long.x ∈ gWS := gws_of 443 (by decide +kernel) (by decide +kernel)
theorem gm_minl3 : Cond.code Lib.MathLoose.min_long.x Lib.MathLoose.min_long.code 4 (some .long) ∈ gWS := gws_of 444 (by decide +kernel) (by decide +kernel)
theorem g_minl (hF : gFix Z cc own nm rt d mc ms Acc AccX) {idx : Nat} {x y : Int64} (hw : Cond.methodLink own idx Lib.MathLoose.min_long.x ∈ gWS) (hdd : 1 ≤ d) (h1 : ce ≤ mc) (h2 : so ≤ ms) (hcat : (st.map fun v => v.category).sum ≤ 8) (hd : decode cc pc = .ok (.invokestatic idx, 3))
    (k : gG Z ad T M ce so (pc + 3) ls (.long (if y < x then y else x) :: st)) : gG Z ad T M ce so pc ls (.long y :: .long x :: st) := by
  obtain ⟨p, l, e, R, s, m, args, below, meth, c, Q, adV, hKq, hx, hb, hml, hown, hts, hK, hH, hA, hE, hRm, hnm, hlk9, hst9, -⟩ := hF
  intro H locs la hR hl
  have k := k H locs la hR hl
  rw [hKq] at k ⊢
  exact va_mmin_long hx hb (hml.trans hl.1.symm) hown (hts _ hw) (hts _ gm_minl1) (hts _ (gws_of 82 (by decide +kernel) (by decide +kernel))) (hts _ gm_minl3) (by have := hRm.1; omega) (by
    have h9 : (((st.map (gv ad)).map fun v => v.category).sum) ≤ 8 := by
      rw [List.map_map, show ((fun v : Value => v.category) ∘ gv ad) = (fun v => v.category) from funext fun v => gv_cat ad v]
      exact hcat
    have := hRm.2.1
    omega) (Nat.le_trans h1 hRm.2.2.1) (Nat.le_trans h2 hRm.2.2.2) hd k

theorem gm_ac1 : Cond.static arraycopyName ∈ gWS := gws_of 399 (by decide +kernel) (by decide +kernel)
theorem gm_ac2 : Cond.native arraycopyName ∈ gWS := gws_of 400 (by decide +kernel) (by decide +kernel)
theorem gm_ac3 : Cond.initialized "java/lang/System" ∈ gWS := gws_of 83 (by decide +kernel) (by decide +kernel)
theorem gm_ac4 : nativeFrameWords "java/lang/System" "arraycopy" 5 = 7 := by decide +kernel
theorem g_copy_i (hF : gFix Z cc own nm rt d mc ms Acc AccX) {idx a b n0 n1 : Nat} {sp dp n : Int32} (hw : Cond.methodLink own idx arraycopyName ∈ gWS) (hb0 : T[b]? = some (11, n0)) (ha0 : T[a]? = some (11, n1)) (h1 : ¬ sp < 0) (h2 : ¬ dp < 0) (h3 : ¬ n < 0) (h4 : sp.toNatClampNeg + n.toNatClampNeg ≤ n0) (h5 : dp.toNatClampNeg + n.toNatClampNeg ≤ n1) (hdd : 1 ≤ d) (hcat : (st.map fun v => v.category).sum ≤ 8) (hd : decode cc pc = .ok (.invokestatic idx, 3))
    (k : gG Z ad T (cpi M b sp.toNatClampNeg a dp.toNatClampNeg n.toNatClampNeg) ce so (pc + 3) ls st) : gG Z ad T M ce so pc ls (.int n :: .int dp :: .ref a :: .int sp :: .ref b :: st) := by
  obtain ⟨p, l, e, R, s, m, args, below, meth, c, Q, adV, hKq, hx, hb, hml, hown, hts, hK, hH, hA, hE, hRm, hnm, hlk9, hst9, -⟩ := hF
  intro H locs la hR hl
  have k := fun H1 locs1 hR1 => k H1 locs1 la hR1 hl
  rw [hKq] at k ⊢
  have hea := gW_get (dA := Z.2.2.2.2.1) (ad := ad) (M := M) ha0
  have heb := gW_get (dA := Z.2.2.2.2.1) (ad := ad) (M := M) hb0
  rw [gE_i] at hea heb
  have hset := gW_set (dA := Z.2.2.2.2.1) (ad := ad) (M := M) (M' := cpi M b sp.toNatClampNeg a dp.toNatClampNeg n.toNatClampNeg) (e := .inl (Z.2.2.2.2.1 11, n1, .inl (va_cpy (fun j => gi M b j) (fun j => gi M a j) sp.toNatClampNeg dp.toNatClampNeg n.toNatClampNeg))) ha0 (by
    rw [gE_i]
    congr 4
    funext j
    simp only [gi_cpi, true_and, va_cpy]) gE_cpi
  exact va_copyi (ty := .int) hx hb (hml.trans hl.1.symm) hown (hts _ hw) (hts _ gm_ac2) (hts _ gm_ac1) (hts _ gm_ac3) hK hR.1 hR.2.1 hR.2.2.1 b a 1 1 heb hea rfl rfl rfl h1 h2 h3 h4 h5 (fun _ _ => rfl) (by have := hRm.1; omega) (by
    have h9 : (((st.map (gv ad)).map fun v => v.category).sum) ≤ 8 := by
      rw [List.map_map, show ((fun v : Value => v.category) ∘ gv ad) = (fun v => v.category) from funext fun v => gv_cat ad v]
      exact hcat
    have := hRm.2.1
    rw [gm_ac4]; omega) hd (fun H1 locs1 hP hD hS => k H1 locs1 ⟨by rw [← hset]; exact hP, by rw [← hset]; exact hD, hS, gCl_cpi hR.2.2.2.1, hR.2.2.2.2⟩)

theorem g_copy_b (hF : gFix Z cc own nm rt d mc ms Acc AccX) {idx a b n0 n1 : Nat} {sp dp n : Int32} (hw : Cond.methodLink own idx arraycopyName ∈ gWS) (hb0 : T[b]? = some (10, n0)) (ha0 : T[a]? = some (10, n1)) (h1 : ¬ sp < 0) (h2 : ¬ dp < 0) (h3 : ¬ n < 0) (h4 : sp.toNatClampNeg + n.toNatClampNeg ≤ n0) (h5 : dp.toNatClampNeg + n.toNatClampNeg ≤ n1) (hfit : ∀ j, j < n.toNatClampNeg → fits .byte (.int (gi M b (sp.toNatClampNeg + j))) = true) (hdd : 1 ≤ d) (hcat : (st.map fun v => v.category).sum ≤ 8) (hd : decode cc pc = .ok (.invokestatic idx, 3))
    (k : gG Z ad T (cpi M b sp.toNatClampNeg a dp.toNatClampNeg n.toNatClampNeg) ce so (pc + 3) ls st) : gG Z ad T M ce so pc ls (.int n :: .int dp :: .ref a :: .int sp :: .ref b :: st) := by
  obtain ⟨p, l, e, R, s, m, args, below, meth, c, Q, adV, hKq, hx, hb, hml, hown, hts, hK, hH, hA, hE, hRm, hnm, hlk9, hst9, -⟩ := hF
  intro H locs la hR hl
  have k := fun H1 locs1 hR1 => k H1 locs1 la hR1 hl
  rw [hKq] at k ⊢
  have hea := gW_get (dA := Z.2.2.2.2.1) (ad := ad) (M := M) ha0
  have heb := gW_get (dA := Z.2.2.2.2.1) (ad := ad) (M := M) hb0
  rw [gE_b] at hea heb
  have hset := gW_set (dA := Z.2.2.2.2.1) (ad := ad) (M := M) (M' := cpi M b sp.toNatClampNeg a dp.toNatClampNeg n.toNatClampNeg) (e := .inl (Z.2.2.2.2.1 10, n1, .inl (va_cpy (fun j => gi M b j) (fun j => gi M a j) sp.toNatClampNeg dp.toNatClampNeg n.toNatClampNeg))) ha0 (by
    rw [gE_b]
    congr 4
    funext j
    simp only [gi_cpi, true_and, va_cpy]) gE_cpi
  exact va_copyi (ty := .byte) hx hb (hml.trans hl.1.symm) hown (hts _ hw) (hts _ gm_ac2) (hts _ gm_ac1) (hts _ gm_ac3) hK hR.1 hR.2.1 hR.2.2.1 b a 0 0 heb hea rfl rfl rfl h1 h2 h3 h4 h5 (fun j hj => hfit j hj) (by have := hRm.1; omega) (by
    have h9 : (((st.map (gv ad)).map fun v => v.category).sum) ≤ 8 := by
      rw [List.map_map, show ((fun v : Value => v.category) ∘ gv ad) = (fun v => v.category) from funext fun v => gv_cat ad v]
      exact hcat
    have := hRm.2.1
    rw [gm_ac4]; omega) hd (fun H1 locs1 hP hD hS => k H1 locs1 ⟨by rw [← hset]; exact hP, by rw [← hset]; exact hD, hS, gCl_cpi hR.2.2.2.1, hR.2.2.2.2⟩)

end GJ
theorem my_J0_length : gMy yJ0_length_8abf5 cJ0_length_8abf5 1 (some .int) 0 := ⟨(gws_of 768 (by decide +kernel) (by decide +kernel)), (gws_of 85 (by decide +kernel) (by decide +kernel)), by decide +kernel, by decide +kernel, by decide⟩
theorem my_J0_coder : gMy yJ0_coder_7d493 cJ0_coder_7d493 1 (some .byte) 0 := ⟨(gws_of 772 (by decide +kernel) (by decide +kernel)), (gws_of 85 (by decide +kernel) (by decide +kernel)), by decide +kernel, by decide +kernel, by decide⟩
theorem my_J0_charAt : gMy yJ0_charAt_5068e cJ0_charAt_5068e 2 (some .char) 1 := ⟨(gws_of 778 (by decide +kernel) (by decide +kernel)), (gws_of 85 (by decide +kernel) (by decide +kernel)), by decide +kernel, by decide +kernel, by decide⟩
theorem my_J0_isLatin1 : gMy yJ0_isLatin1_aae02 cJ0_isLatin1_aae02 1 (some .boolean) 0 := ⟨(gws_of 782 (by decide +kernel) (by decide +kernel)), (gws_of 85 (by decide +kernel) (by decide +kernel)), by decide +kernel, by decide +kernel, by decide⟩
theorem my_J1_charAt : gMy yJ1_charAt_3b067 cJ1_charAt_3b067 2 (some .char) 2 := ⟨(gws_of 785 (by decide +kernel) (by decide +kernel)), (gws_of 86 (by decide +kernel) (by decide +kernel)), by decide +kernel, by decide +kernel, by decide⟩
theorem my_J0_checkIndex : gMy yJ0_checkIndex_df160 cJ0_checkIndex_df160 2 none 2 := ⟨(gws_of 788 (by decide +kernel) (by decide +kernel)), (gws_of 85 (by decide +kernel) (by decide +kernel)), by decide +kernel, by decide +kernel, by decide⟩
theorem my_J3_checkIndex : gMy yJ3_checkIndex_8e157 cJ3_checkIndex_8e157 3 (some .int) 3 := ⟨(gws_of 793 (by decide +kernel) (by decide +kernel)), (gws_of 87 (by decide +kernel) (by decide +kernel)), by decide +kernel, by decide +kernel, by decide⟩
theorem c_J0_coder {T : gT} {M : gM} {i d : Nat} (hi : i < 34) (hd : 1 ≤ d) : gRet d yJ0_coder_7d493 cJ0_coder_7d493 1 (some .byte) 0 0 [.ref (gSB + i)] T M (gSame T (some (.int 0)) M) := by
  refine gRet_of (own := RJ0) (by decide) rfl (Nat.le_of_ble_eq_true rfl) (fun Z ad0 hn h0 hF => ?_)
  refine g_compact hF (gws_of 773 (by decide +kernel) (by decide +kernel)) dJ0_coder_7d493_0 ?_
  refine g_if_eq (tgt := 13) hF dJ0_coder_7d493_3 (by decide) (fun q => absurd q (by decide)) (fun _ => ?_)
  refine g_aload_n hF 0 rfl rfl dJ0_coder_7d493_6 ?_
  refine g_scod hF hi (gws_of 1344 (by decide +kernel) (by decide +kernel)) dJ0_coder_7d493_7 ?_
  refine g_goto (tgt := 14) hF dJ0_coder_7d493_10 (by decide) ?_
  exact g_ret_i hF rfl rfl dJ0_coder_7d493_14 ⟨rfl, rfl, rfl, rfl⟩ (Nat.le_refl _) (Nat.le_refl _)
theorem c_J0_isLatin1 {T : gT} {M : gM} {i d : Nat} (hi : i < 34) (hd : 1 ≤ d) : gRet d yJ0_isLatin1_aae02 cJ0_isLatin1_aae02 1 (some .boolean) 0 0 [.ref (gSB + i)] T M (gSame T (some (.int 1)) M) := by
  refine gRet_of (own := RJ0) (by decide) rfl (Nat.le_of_ble_eq_true rfl) (fun Z ad0 hn h0 hF => ?_)
  refine g_compact hF (gws_of 773 (by decide +kernel) (by decide +kernel)) dJ0_isLatin1_aae02_0 ?_
  refine g_if_eq (tgt := 17) hF dJ0_isLatin1_aae02_3 (by decide) (fun q => absurd q (by decide)) (fun _ => ?_)
  refine g_aload_n hF 0 rfl rfl dJ0_isLatin1_aae02_6 ?_
  refine g_scod hF hi (gws_of 1344 (by decide +kernel) (by decide +kernel)) dJ0_isLatin1_aae02_7 ?_
  refine g_if_ne (tgt := 17) hF dJ0_isLatin1_aae02_10 (by decide) (fun q => absurd rfl q) (fun _ => ?_)
  refine g_iconst (v := 1) hF rfl dJ0_isLatin1_aae02_13 ?_
  refine g_goto (tgt := 18) hF dJ0_isLatin1_aae02_14 (by decide) ?_
  exact g_ret_i hF rfl rfl dJ0_isLatin1_aae02_18 ⟨rfl, rfl, rfl, rfl⟩ (Nat.le_refl _) (Nat.le_refl _)
theorem c_J0_length {T : gT} {M : gM} {i d : Nat} (hi : i < 34) (hd : 2 ≤ d) : gRet d yJ0_length_8abf5 cJ0_length_8abf5 1 (some .int) 0 0 [.ref (gSB + i)] T M (gSame T (some (.int (Int32.ofNat (gSl i)))) M) := by
  refine gRet_of (own := RJ0) (by decide) rfl (Nat.le_of_ble_eq_true rfl) (fun Z ad0 hn h0 hF => ?_)
  refine g_aload_n hF 0 rfl rfl dJ0_length_8abf5_0 ?_
  refine g_sval hF hi (gws_of 1343 (by decide +kernel) (by decide +kernel)) dJ0_length_8abf5_1 ?_
  refine g_sblen hF hi dJ0_length_8abf5_4 ?_
  refine g_aload_n hF 0 rfl rfl dJ0_length_8abf5_5 ?_
  refine g_callVSt (as := []) (st := [.int (Int32.ofNat (gSl i))]) hF my_J0_coder (gws_of 769 (by decide +kernel) (by decide +kernel)) (gws_of 770 (by decide +kernel) (by decide +kernel)) (gws_of 771 (by decide +kernel) (by decide +kernel)) hi rfl (c_J0_coder (d := 1) hi (Nat.le_refl _)) hd (Nat.le_refl _) (Nat.le_refl _) rfl rfl (Nat.le_of_ble_eq_true rfl) dJ0_length_8abf5_6 (g_same ?_)
  refine g_ishr hF dJ0_length_8abf5_9 ?_
  refine g_ret_i hF rfl rfl dJ0_length_8abf5_10 ⟨?_, rfl, rfl, rfl⟩ (Nat.le_refl _) (Nat.le_refl _)
  congr 2
  show Int32.ofNat (gSl i) >>> ((0 : Int32) &&& 31) = Int32.ofNat (gSl i)
  rw [show ((0 : Int32) &&& 31) = 0 by decide, Int32.shiftRight_zero]
theorem c_J3_checkIndex {T : gT} {M : gM} {i n : Int32} {v : Value} {d : Nat} (hv : v.category = 1) (h0 : 0 ≤ i) (h1 : i < n) : gRet d yJ3_checkIndex_8e157 cJ3_checkIndex_8e157 3 (some .int) 0 0 [.int i, .int n, v] T M (gSame T (some (.int i)) M) := by
  refine gRet_of (own := RJ3) (by decide) rfl (by cases v <;> first | (simp [Value.category] at hv; done) | exact Nat.le_of_ble_eq_true rfl) (fun Z ad0 hn h9 hF => ?_)
  refine g_iload_n hF 0 rfl rfl dJ3_checkIndex_8e157_0 ?_
  refine g_if_lt (tgt := 9) hF dJ3_checkIndex_8e157_1 (by decide) (fun q => absurd h0 (Int32.not_le.mpr q)) (fun _ => ?_)
  refine g_iload_n hF 0 rfl rfl dJ3_checkIndex_8e157_4 ?_
  refine g_iload_n hF 1 rfl rfl dJ3_checkIndex_8e157_5 ?_
  refine g_icmp_lt (tgt := 16) hF dJ3_checkIndex_8e157_6 (by decide) (fun _ => ?_) (fun q => absurd h1 q)
  refine g_iload_n hF 0 rfl rfl dJ3_checkIndex_8e157_16 ?_
  exact g_ret_i hF rfl rfl dJ3_checkIndex_8e157_17 ⟨rfl, rfl, rfl, rfl⟩ (Nat.le_refl _) (Nat.le_refl _)
theorem c_J0_checkIndex {T : gT} {M : gM} {i n : Int32} {d : Nat} (hd : 1 ≤ d) (h0 : 0 ≤ i) (h1 : i < n) : gRet d yJ0_checkIndex_df160 cJ0_checkIndex_df160 2 none 0 0 [.int i, .int n] T M (gSame T none M) := by
  refine gRet_of (own := RJ0) (by decide) rfl (Nat.le_of_ble_eq_true rfl) (fun Z ad0 hn h9 hF => ?_)
  refine g_iload_n hF 0 rfl rfl dJ0_checkIndex_df160_0 ?_
  refine g_iload_n hF 1 rfl rfl dJ0_checkIndex_df160_1 ?_
  refine g_fmt hF (gws_of 789 (by decide +kernel) (by decide +kernel)) dJ0_checkIndex_df160_2 (fun v hv => ?_)
  refine g_callS (as := [.int i, .int n, v]) (st := []) hF my_J3_checkIndex (gws_of 791 (by decide +kernel) (by decide +kernel)) (gws_of 792 (by decide +kernel) (by decide +kernel)) (c_J3_checkIndex (d := 0) hv h0 h1) hd (Nat.le_refl _) (Nat.le_refl _) rfl rfl (Nat.le_of_ble_eq_true rfl) dJ0_checkIndex_df160_5 (g_same ?_)
  refine g_pop hF rfl dJ0_checkIndex_df160_8 ?_
  exact g_ret_v hF rfl dJ0_checkIndex_df160_9 ⟨rfl, rfl, rfl, rfl⟩ (Nat.le_refl _) (Nat.le_refl _)
theorem gSc_ok : ∀ i, i < 34 → ∀ k, k < gSl i → (((gSc i k &&& (Int16.ofInt 255).toInt32).toUInt32 % 65536).toInt32 = gSc i k) ∧ narrow .char (.int (gSc i k)) = .int (gSc i k) := by decide +kernel
theorem gSl_sm : ∀ i, i < 34 → gSl i < 10 := by decide +kernel
theorem gSc_in {i k : Nat} (hi : i < 34) (hk : k < gSl i) : vp_in (nI k) (gSl i) ∧ (nI k).toNatClampNeg = k ∧ 0 ≤ nI k ∧ nI k < Int32.ofNat (gSl i) := by
  have := gSl_sm i hi
  exact ⟨vp_in_nI hk (by omega), nI_clamp (by omega), nI_pos' (by omega), nI_lt (by omega) (by omega)⟩
theorem c_J1_charAt {T : gT} {M : gM} {i k d : Nat} (hi : i < 34) (hk : k < gSl i) (hd : 2 ≤ d) : gRet d yJ1_charAt_3b067 cJ1_charAt_3b067 2 (some .char) 0 0 [.ref (gSB + 1000 + i), .int (nI k)] T M (gSame T (some (.int (gSc i k))) M) := by
  obtain ⟨g1, g2, g3, g4⟩ := gSc_in hi hk
  obtain ⟨q1, q2⟩ := gSc_ok i hi k hk
  refine gRet_of (own := RJ1) (by decide) rfl (Nat.le_of_ble_eq_true rfl) (fun Z ad0 hn h9 hF => ?_)
  refine g_iload_n hF 1 rfl rfl dJ1_charAt_3b067_0 ?_
  refine g_aload_n hF 0 rfl rfl dJ1_charAt_3b067_1 ?_
  refine g_sblen hF hi dJ1_charAt_3b067_2 ?_
  refine g_callS (as := [.int (nI k), .int (Int32.ofNat (gSl i))]) (st := []) hF my_J0_checkIndex (gws_of 786 (by decide +kernel) (by decide +kernel)) (gws_of 787 (by decide +kernel) (by decide +kernel)) (c_J0_checkIndex (d := 1) (Nat.le_refl _) g3 g4) hd (Nat.le_refl _) (Nat.le_refl _) rfl rfl (Nat.le_of_ble_eq_true rfl) dJ1_charAt_3b067_3 (g_same ?_)
  refine g_aload_n hF 0 rfl rfl dJ1_charAt_3b067_6 ?_
  refine g_iload_n hF 1 rfl rfl dJ1_charAt_3b067_7 ?_
  refine g_sbald hF hi g1 dJ1_charAt_3b067_8 ?_
  rw [g2]
  refine g_sipush hF rfl dJ1_charAt_3b067_9 ?_
  refine g_iand hF dJ1_charAt_3b067_12 ?_
  refine g_i2c hF q1 dJ1_charAt_3b067_13 ?_
  exact g_ret_i hF rfl q2 dJ1_charAt_3b067_14 ⟨rfl, rfl, rfl, rfl⟩ (Nat.le_refl _) (Nat.le_refl _)
theorem c_J0_charAt {T : gT} {M : gM} {i k d : Nat} (hi : i < 34) (hk : k < gSl i) (hd : 3 ≤ d) : gRet d yJ0_charAt_5068e cJ0_charAt_5068e 2 (some .char) 0 0 [.ref (gSB + i), .int (nI k)] T M (gSame T (some (.int (gSc i k))) M) := by
  obtain ⟨q1, q2⟩ := gSc_ok i hi k hk
  refine gRet_of (own := RJ0) (by decide) rfl (Nat.le_of_ble_eq_true rfl) (fun Z ad0 hn h9 hF => ?_)
  refine g_aload_n hF 0 rfl rfl dJ0_charAt_5068e_0 ?_
  refine g_callVSt (as := []) (st := []) hF my_J0_isLatin1 (gws_of 779 (by decide +kernel) (by decide +kernel)) (gws_of 780 (by decide +kernel) (by decide +kernel)) (gws_of 781 (by decide +kernel) (by decide +kernel)) hi rfl (c_J0_isLatin1 (d := 2) hi (by omega)) hd (Nat.le_refl _) (Nat.le_refl _) rfl rfl (Nat.le_of_ble_eq_true rfl) dJ0_charAt_5068e_1 (g_same ?_)
  refine g_if_eq (tgt := 16) hF dJ0_charAt_5068e_4 (by decide) (fun q => absurd q (by decide)) (fun _ => ?_)
  refine g_aload_n hF 0 rfl rfl dJ0_charAt_5068e_7 ?_
  refine g_sval hF hi (gws_of 1343 (by decide +kernel) (by decide +kernel)) dJ0_charAt_5068e_8 ?_
  refine g_iload_n hF 1 rfl rfl dJ0_charAt_5068e_11 ?_
  refine g_callS (as := [.ref (gSB + 1000 + i), .int (nI k)]) (st := []) hF my_J1_charAt (gws_of 783 (by decide +kernel) (by decide +kernel)) (gws_of 784 (by decide +kernel) (by decide +kernel)) (c_J1_charAt (d := 2) hi hk (Nat.le_refl _)) hd (Nat.le_refl _) (Nat.le_refl _) rfl rfl (Nat.le_of_ble_eq_true rfl) dJ0_charAt_5068e_12 (g_same ?_)
  exact g_ret_i hF rfl q2 dJ0_charAt_5068e_15 ⟨rfl, rfl, rfl, rfl⟩ (Nat.le_refl _) (Nat.le_refl _)
