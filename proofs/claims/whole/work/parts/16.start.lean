/-! AT THE LAW'S ENTRY -/
def gPre : List Cond := flatC (Jvm.Cond.and given_1 narrow_1)
def gSx (i : Nat) : Nat := [69, 99, 107, 112, 117, 122, 127, 164, 180, 206, 208, 210, 211].getD i 0
def gSm (i : Nat) : Nat := [220, 189, 194, 199, 204, 209, 214, 177, 183, 128, 134, 136, 138].getD i 0
def gSe (i : Nat) : Nat := [234, 129, 237, 65, 175, 184, 193, 203, 205, 207].getD i 0
def gSt (i : Nat) : Term := Term.string "LinkElection$SetupReader" (gSx i)
abbrev gLn (i : Nat) : Nat := (gStrs.map List.length).getD i 0
abbrev gBy (i j : Nat) : Int32 := ((gStrs.map (fun l => l.map Int32.ofNat)).getD i []).getD j 0
theorem gst1 : ∀ i, i < 13 → Cond.exactly (gSt i) "java/lang/String" ∈ gPre := by decide +kernel
theorem gst2 : ∀ i, i < 13 → Cond.eq (.field (gSt i) "java/lang/String" "coder" "B") (.int 0) ∈ gPre := by decide +kernel
theorem gst3 : ∀ i, i < 13 → Cond.arrayOf (.field (gSt i) "java/lang/String" "value" "[B") .byte ∈ gPre := by decide +kernel
theorem gst4 : ∀ i, i < 13 → Cond.eq (.length (.field (gSt i) "java/lang/String" "value" "[B")) (.int (Int32.ofNat (gLn i))) ∈ gPre := by decide +kernel
theorem gst5 : ∀ i, i < 13 → ∀ j, j < gLn i → Cond.eq (.elem (.field (gSt i) "java/lang/String" "value" "[B") (.int (Int32.ofNat j))) (.int (gBy i j)) ∈ gPre := by decide +kernel
theorem gst6 : ∀ i, i < 13 → Cond.eq (gSt i) (Term.string "LinkElectionModel" (gSm i)) ∈ gPre := by decide +kernel
theorem gst7 : ∀ i, i < 13 → ∀ j, j < 13 → i = j ∨ Int32.ofNat (gLn i) ≠ Int32.ofNat (gLn j) ∨ ¬ ∀ k, k < gLn i → gBy i k = gBy j k := by decide +kernel
theorem gst8 : ∀ i, i < 13 → ∀ j, j < 13 → Int32.ofNat (gLn i) = Int32.ofNat (gLn j) → gLn i = gLn j := by decide +kernel
theorem gst9 : ∀ i, i < 13 → gLn i < 2 ^ 31 := by decide +kernel
section GST
variable {args : Array Value} {s : State} {A : Nat → Prop}
theorem gstr (hs : ∀ w ∈ gPre, w.before args s = true) (hA : ∀ a : Nat, a < s.heap.size → ¬ A a) : ∃ adK adV : Nat → Nat, vk_S 13 (gStrs.map List.length) (gStrs.map (fun l => l.map Int32.ofNat)) adK adV A s s.heap ∧ ∀ i : Nat, i < 13 → (gSt i).eval args s none [] s = some (.ref (adK i)) := by
  have h0 : ∀ i : Nat, ∃ q : Nat × Nat, i < 13 → (va_O "java/lang/String" q.1 A s s.heap ∧ va_OF "java/lang/String" "coder" "B" (.int 0) q.1 A s s.heap ∧ va_OF "java/lang/String" "value" "[B" (.ref q.2) q.1 A s s.heap ∧ va_T .byte q.2 (gLn i) (fun j => .int (gBy i j)) A s s.heap) ∧ (gSt i).eval args s none [] s = some (.ref q.1) := by
    intro i
    by_cases hi : i < 13
    · obtain ⟨adK, adV, ⟨h1, -⟩, h2⟩ := vk_Sof (args := args) (s := s) (N := 1) (tm := fun _ => gSt i) (len := [gLn i]) (byt := [(gStrs.map (fun l => l.map Int32.ofNat)).getD i []]) (A := A) (fun j hj => by rw [show j = 0 by omega]; exact gst9 i hi) (fun _ _ => hs _ (gst1 i hi)) (fun _ _ => hs _ (gst2 i hi)) (fun _ _ => hs _ (gst3 i hi)) (fun j hj => by rw [show j = 0 by omega]; exact hs _ (gst4 i hi)) (fun j hj k hk => by rw [show j = 0 by omega] at hk ⊢; exact hs _ (gst5 i hi k hk)) (fun a b ha hb hab => absurd (show a = b by omega) hab) hA
      exact ⟨(adK 0, adV 0), fun _ => ⟨h1 0 (by omega), h2 0 (by omega)⟩⟩
    · exact ⟨(0, 0), fun h => absurd h hi⟩
  obtain ⟨ad, had⟩ := Classical.axiomOfChoice h0
  refine ⟨fun i => (ad i).1, fun i => (ad i).2, ⟨fun i hi => (had i hi).1, fun i j hi hj e => ?_⟩, fun i hi => (had i hi).2⟩
  dsimp only at e
  obtain ⟨⟨-, -, ⟨cf, k, ix, fd, cell, a1, a2, a3, a4, a5, a6⟩, ⟨ce1, b1, b2, b3, b4, b5, b6, b7⟩⟩, -⟩ := had i hi
  obtain ⟨⟨-, -, ⟨cf', k', ix', fd', cell', a1', a2', a3', a4', a5', a6'⟩, ⟨ce1', b1', b2', b3', b4', b5', b6', b7'⟩⟩, -⟩ := had j hj
  rw [← e] at a3'
  cases a1.symm.trans a1'
  cases a3.symm.trans a3'
  have e9 : (ad i).2 = (ad j).2 := Value.ref.inj (Option.some.inj (a5.symm.trans a5'))
  rw [← e9] at b1'
  cases b1.symm.trans b1'
  have hLij : Int32.ofNat (gLn i) = Int32.ofNat (gLn j) := b5.symm.trans b5'
  rcases gst7 i hi j hj with h | h | h
  · exact h
  · exact absurd hLij h
  · refine absurd (fun k hk => ?_) h
    have e1 := b6 k hk
    have e2 := b6' k (by rw [← gst8 i hi j hj hLij]; exact hk)
    exact Value.int.inj (Option.some.inj (e1.symm.trans e2))
theorem gEq_t {t1 t2 : Term} {a : Nat} (h : (Cond.eq t1 t2).before args s = true) (h1 : t1.eval args s none [] s = some (.ref a)) : t2.eval args s none [] s = some (.ref a) := by
  cases hv : t2.eval args s none [] s with
  | none => simp [Cond.before, Cond.holds, Cond.value, h1, hv] at h
  | some w => cases w <;> simp [Cond.before, Cond.holds, Cond.value, h1, hv] at h <;> first | (rw [h]; done) | (subst h; rfl) | skip
theorem gSlit {own tx : String} {k cur : Nat} (hts : (Cond.stringRef own k tx).before args s = true) (hcur : s.vm.findClass own = some cur) : ∃ a : Nat, (Term.string own k).eval args s none [] s = some (.ref a) := by
  obtain ⟨_, _, _, a, -, -, -, -, -, h⟩ := Cond.stringRef_spec hcur hts
  exact ⟨a, h⟩
end GST
section GKX
variable {args : Array Value} {s : State}

theorem gKc0 (hts : ∀ w ∈ gWS, w.before args s = true) : ∃ x : ClassId × (Nat → Nat), u_Kn s RX0 TX0 5 x.1 x.2 := by
  obtain ⟨a, b, h⟩ := u_known hts gC_0.2.1 (hts _ kw_179)
  exact ⟨(a, b), h⟩
theorem gKc1 (hts : ∀ w ∈ gWS, w.before args s = true) : ∃ x : ClassId × (Nat → Nat), u_Kn s RX1 TX1 7 x.1 x.2 := by
  obtain ⟨a, b, h⟩ := u_known hts gC_1.2.1 (hts _ kw_309)
  exact ⟨(a, b), h⟩
theorem gKc2 (hts : ∀ w ∈ gWS, w.before args s = true) : ∃ x : ClassId × (Nat → Nat), u_Kn s RX2 TX2 3 x.1 x.2 := by
  obtain ⟨a, b, h⟩ := u_known hts gC_2.2.1 (hts _ kw_363)
  exact ⟨(a, b), h⟩
theorem gKc3 (hts : ∀ w ∈ gWS, w.before args s = true) : ∃ x : ClassId × (Nat → Nat), u_Kn s RX3 TX3 6 x.1 x.2 := by
  obtain ⟨a, b, h⟩ := u_known hts gC_3.2.1 (hts _ kw_200)
  exact ⟨(a, b), h⟩
theorem gKc4 (hts : ∀ w ∈ gWS, w.before args s = true) : ∃ x : ClassId × (Nat → Nat), u_Kn s RX4 TX4 3 x.1 x.2 := by
  obtain ⟨a, b, h⟩ := u_known hts gC_4.2.1 (hts _ kw_345)
  exact ⟨(a, b), h⟩
theorem gKc5 (hts : ∀ w ∈ gWS, w.before args s = true) : ∃ x : ClassId × (Nat → Nat), u_Kn s RX5 TX5 11 x.1 x.2 := by
  obtain ⟨a, b, h⟩ := u_known hts gC_5.2.1 (hts _ kw_137)
  exact ⟨(a, b), h⟩
theorem gKc6 (hts : ∀ w ∈ gWS, w.before args s = true) : ∃ x : ClassId × (Nat → Nat), u_Kn s RX6 TX6 8 x.1 x.2 := by
  obtain ⟨a, b, h⟩ := u_known hts gC_6.2.1 (hts _ kw_143)
  exact ⟨(a, b), h⟩
theorem gKc7 (hts : ∀ w ∈ gWS, w.before args s = true) : ∃ x : ClassId × (Nat → Nat), u_Kn s RX7 TX7 2 x.1 x.2 := by
  obtain ⟨a, b, h⟩ := u_known hts gC_7.2.1 (hts _ kw_187)
  exact ⟨(a, b), h⟩
theorem gKc8 (hts : ∀ w ∈ gWS, w.before args s = true) : ∃ x : ClassId × (Nat → Nat), u_Kn s RX8 TX8 9 x.1 x.2 := by
  obtain ⟨a, b, h⟩ := u_known hts gC_8.2.1 (hts _ kw_129)
  exact ⟨(a, b), h⟩
theorem gKc9 (hts : ∀ w ∈ gWS, w.before args s = true) : ∃ x : ClassId × (Nat → Nat), u_Kn s RX9 TX9 27 x.1 x.2 := by
  obtain ⟨a, b, h⟩ := u_known hts gC_9.2.1 (hts _ kw_1082)
  exact ⟨(a, b), h⟩
theorem gKc (hts : ∀ w ∈ gWS, w.before args s = true) : ∃ D : va_G, ∀ (c : Nat) (q : vw_C), vwCl[c]? = some q → u_Kn s q.1 q.2.1 q.2.2 (D.1 c) (D.2 c) := by
  have h0 : ∀ c : Nat, ∃ x : ClassId × (Nat → Nat), ∀ q : vw_C, vwCl[c]? = some q → u_Kn s q.1 q.2.1 q.2.2 x.1 x.2 := by
    intro c
    by_cases hc : c < 10
    · have h1 : c = 0 ∨ c = 1 ∨ c = 2 ∨ c = 3 ∨ c = 4 ∨ c = 5 ∨ c = 6 ∨ c = 7 ∨ c = 8 ∨ c = 9 := by omega
      rcases h1 with rfl | rfl | rfl | rfl | rfl | rfl | rfl | rfl | rfl | rfl
      · obtain ⟨x, h⟩ := gKc0 hts; exact ⟨x, fun q hq => by cases hq; exact h⟩
      · obtain ⟨x, h⟩ := gKc1 hts; exact ⟨x, fun q hq => by cases hq; exact h⟩
      · obtain ⟨x, h⟩ := gKc2 hts; exact ⟨x, fun q hq => by cases hq; exact h⟩
      · obtain ⟨x, h⟩ := gKc3 hts; exact ⟨x, fun q hq => by cases hq; exact h⟩
      · obtain ⟨x, h⟩ := gKc4 hts; exact ⟨x, fun q hq => by cases hq; exact h⟩
      · obtain ⟨x, h⟩ := gKc5 hts; exact ⟨x, fun q hq => by cases hq; exact h⟩
      · obtain ⟨x, h⟩ := gKc6 hts; exact ⟨x, fun q hq => by cases hq; exact h⟩
      · obtain ⟨x, h⟩ := gKc7 hts; exact ⟨x, fun q hq => by cases hq; exact h⟩
      · obtain ⟨x, h⟩ := gKc8 hts; exact ⟨x, fun q hq => by cases hq; exact h⟩
      · obtain ⟨x, h⟩ := gKc9 hts; exact ⟨x, fun q hq => by cases hq; exact h⟩
    · exact ⟨(0, fun _ => 0), fun q hq => absurd (List.getElem?_eq_some_iff.mp hq).1 (by show ¬ c < 10; exact hc)⟩
  obtain ⟨f, hf⟩ := Classical.axiomOfChoice h0
  exact ⟨(fun c => (f c).1, fun c => (f c).2), hf⟩
theorem gArrP {ty : FieldType} (h : (Cond.arrayClass ty).before args s = true) : ∃ cA : ClassId, ArrOfT s cA ty ∧ s.vm.findClass ("[" ++ ty.toString) = some cA := by
  obtain ⟨c, k, comp, h1, h2, h3⟩ := Cond.arrayClass_spec h
  exact ⟨c, fun N z => ⟨(fun k h => by cases h), k, h2, comp, h3⟩, h1⟩
theorem gArrO {C : String} (h : (Cond.arrayOver (.object C)).before args s = true) : ∃ cA : ClassId, ArrOfT s cA (.object C) ∧ va_RA s cA (.object C) := by
  obtain ⟨comp, c, k, h1, h2, h3, h4, h5⟩ := Cond.arrayOver_spec h
  exact ⟨c, fun N z => ⟨(fun k h => by cases h), k, h3, comp, h4⟩, k, comp, h3, h4, h1, h5⟩
theorem gAO2 (h : (Cond.arrayOver (.array .int)).before args s = true) : va_AO2 s := by
  have h : (Cond.arrayOver (.array .int)).holds args s none s [] = true := h
  simp only [Cond.holds, Cond.value, beq_iff_eq] at h
  cases hc : s.vm.findClass (FieldType.array .int).toString with
  | none => simp [hc] at h
  | some comp =>
    simp only [hc, Option.bind_some, Option.bind_eq_some_iff, Option.map_eq_some_iff] at h
    obtain ⟨c, hi, k, hk, hb⟩ := h
    obtain ⟨hlt, hp, -⟩ := Array.findIdx?_eq_some_iff_getElem.mp hi
    have hkk : s.vm.classes[c] = k := (Array.getElem?_eq_some_iff.mp hk).2
    rw [hkk] at hp
    cases hkind : k.kind with
    | array component ty =>
      rw [hkind] at hb hp
      simp at hb hp
      exact ⟨comp, c, k, hc, hi, hk, by rw [hkind, hp, hb.1], hb.2⟩
    | _ => rw [hkind] at hb; simp at hb
theorem gArrA (h : va_AO2 s) : ∃ cA : ClassId, ArrOfT s cA (.array .int) ∧ va_RA s cA (.array .int) := by
  obtain ⟨comp, c, k, h1, h2, h3, h4, h5⟩ := h
  exact ⟨c, fun N z => ⟨(fun k h => by cases h), k, h3, comp, h4⟩, h5⟩
end GKX
