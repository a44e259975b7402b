/-! AT THE LAW'S ENTRY -/
def gPre : List Cond := flatC (Jvm.Cond.and given_1 narrow_1)
def gSx (i : Nat) : String × Nat := [("LinkElection$SetupReader", 69), ("LinkElection$SetupReader", 99), ("LinkElection$SetupReader", 107), ("LinkElection$SetupReader", 112), ("LinkElection$SetupReader", 117), ("LinkElection$SetupReader", 122), ("LinkElection$SetupReader", 127), ("LinkElection$SetupReader", 164), ("LinkElection$SetupReader", 180), ("LinkElection$SetupReader", 206), ("LinkElection$SetupReader", 208), ("LinkElection$SetupReader", 210), ("LinkElection$SetupReader", 211), ("LinkElectionLaw", 145), ("LinkElectionLaw", 151), ("LinkElectionLaw", 117), ("LinkElectionLaw", 131), ("LinkElectionLaw", 157), ("LinkElectionLaw", 176), ("LinkElectionLaw", 178), ("LinkElectionLaw", 180), ("LinkElectionLaw", 185), ("LinkElectionLaw", 194), ("LinkElectionLaw", 196), ("LinkElectionLaw", 205), ("LinkElectionLaw", 207), ("LinkElectionLaw", 212), ("LinkElectionLaw", 224), ("LinkElectionLaw$Node", 60), ("LinkElectionLaw$Node", 62), ("LinkElectionLaw$Node", 64), ("LinkElectionLaw$Node", 66), ("LinkElectionLaw$Node", 68), ("LinkElectionLaw$Node", 70)].getD i ("", 0)
def gSe (i : Nat) : Nat := [234, 129, 237, 65, 175, 184, 193, 203, 205, 207].getD i 0
def gSt (i : Nat) : Term := Term.string (gSx i).1 (gSx i).2
abbrev gLn (i : Nat) : Nat := (gStrs.map List.length).getD i 0
abbrev gBy (i j : Nat) : Int32 := ((gStrs.map (fun l => l.map Int32.ofNat)).getD i []).getD j 0
def gBlk (i : Nat) : List Cond := Cond.exactly (gSt i) "java/lang/String" :: Cond.eq (.field (gSt i) "java/lang/String" "coder" "B") (.int 0) :: Cond.arrayOf (.field (gSt i) "java/lang/String" "value" "[B") .byte :: Cond.eq (.length (.field (gSt i) "java/lang/String" "value" "[B")) (.int (Int32.ofNat (gLn i))) :: (List.range (gLn i)).map (fun j => Cond.eq (.elem (.field (gSt i) "java/lang/String" "value" "[B") (.int (Int32.ofNat j))) (.int (gBy i j)))
def gBb (i : Nat) : Nat := [382, 390, 398, 418, 433, 443, 452, 409, 427, 462, 471, 479, 489, 723, 732, 748, 770, 777, 782, 794, 799, 803, 814, 824, 831, 842, 848, 858, 874, 879, 886, 892, 897, 902].getD i 0
theorem gBb_ok0 : ∀ i, i < 12 → (gPre.drop (gBb i)).take (4 + gLn i) = gBlk i := by decide +kernel
theorem gBb_ok1 : ∀ i, i < 12 → (gPre.drop (gBb (12 + i))).take (4 + gLn (12 + i)) = gBlk (12 + i) := by decide +kernel
theorem gBb_ok2 : ∀ i, i < 10 → (gPre.drop (gBb (24 + i))).take (4 + gLn (24 + i)) = gBlk (24 + i) := by decide +kernel
theorem gBlk_in : ∀ i, i < 34 → ∀ w ∈ gBlk i, w ∈ gPre := by
  intro i hi w hw
  have h : (gPre.drop (gBb i)).take (4 + gLn i) = gBlk i := by
    by_cases h1 : i < 12
    · exact gBb_ok0 i h1
    · by_cases h2 : i < 24
      · have := gBb_ok1 (i - 12) (by omega)
        rwa [show 12 + (i - 12) = i by omega] at this
      · have := gBb_ok2 (i - 24) (by omega)
        rwa [show 24 + (i - 24) = i by omega] at this
  rw [← h] at hw
  exact List.mem_of_mem_drop (List.mem_of_mem_take hw)
theorem gst1 (i : Nat) (hi : i < 34) : Cond.exactly (gSt i) "java/lang/String" ∈ gPre := gBlk_in i hi _ (List.mem_cons_self ..)
theorem gst2 (i : Nat) (hi : i < 34) : Cond.eq (.field (gSt i) "java/lang/String" "coder" "B") (.int 0) ∈ gPre := gBlk_in i hi _ (List.mem_cons_of_mem _ (List.mem_cons_self ..))
theorem gst3 (i : Nat) (hi : i < 34) : Cond.arrayOf (.field (gSt i) "java/lang/String" "value" "[B") .byte ∈ gPre := gBlk_in i hi _ (List.mem_cons_of_mem _ (List.mem_cons_of_mem _ (List.mem_cons_self ..)))
theorem gst4 (i : Nat) (hi : i < 34) : Cond.eq (.length (.field (gSt i) "java/lang/String" "value" "[B")) (.int (Int32.ofNat (gLn i))) ∈ gPre := gBlk_in i hi _ (List.mem_cons_of_mem _ (List.mem_cons_of_mem _ (List.mem_cons_of_mem _ (List.mem_cons_self ..))))
theorem gst5 (i : Nat) (hi : i < 34) (j : Nat) (hj : j < gLn i) : Cond.eq (.elem (.field (gSt i) "java/lang/String" "value" "[B") (.int (Int32.ofNat j))) (.int (gBy i j)) ∈ gPre := gBlk_in i hi _ (List.mem_cons_of_mem _ (List.mem_cons_of_mem _ (List.mem_cons_of_mem _ (List.mem_cons_of_mem _ (List.mem_map.mpr ⟨j, List.mem_range.mpr hj, rfl⟩)))))
theorem gst7 : ∀ i, i < 34 → ∀ j, j < 34 → i = j ∨ Int32.ofNat (gLn i) ≠ Int32.ofNat (gLn j) ∨ ¬ ∀ k, k < gLn i → gBy i k = gBy j k := by decide +kernel
theorem gst8 : ∀ i, i < 34 → ∀ j, j < 34 → Int32.ofNat (gLn i) = Int32.ofNat (gLn j) → gLn i = gLn j := by decide +kernel
theorem gst9 : ∀ i, i < 34 → gLn i < 2 ^ 31 := by decide +kernel
theorem gdg1' : (gPre.drop 14).take 100 = (List.range 100).map (fun j => Cond.eq (.elem (.static "java/lang/Integer" "DigitOnes" "[B") (.int (Int32.ofNat j))) (.int (gDg 2002 j))) := by decide +kernel
theorem gdg2' : (gPre.drop 117).take 100 = (List.range 100).map (fun j => Cond.eq (.elem (.static "java/lang/Integer" "DigitTens" "[B") (.int (Int32.ofNat j))) (.int (gDg 2003 j))) := by decide +kernel
theorem gdg1 (j : Nat) (hj : j < 100) : Cond.eq (.elem (.static "java/lang/Integer" "DigitOnes" "[B") (.int (Int32.ofNat j))) (.int (gDg 2002 j)) ∈ gPre := by
  refine List.mem_of_mem_drop (i := 14) (List.mem_of_mem_take (i := 100) ?_)
  rw [gdg1']
  exact List.mem_map.mpr ⟨j, List.mem_range.mpr hj, rfl⟩
theorem gdg2 (j : Nat) (hj : j < 100) : Cond.eq (.elem (.static "java/lang/Integer" "DigitTens" "[B") (.int (Int32.ofNat j))) (.int (gDg 2003 j)) ∈ gPre := by
  refine List.mem_of_mem_drop (i := 117) (List.mem_of_mem_take (i := 100) ?_)
  rw [gdg2']
  exact List.mem_map.mpr ⟨j, List.mem_range.mpr hj, rfl⟩
theorem gvr1 : ∀ j, j < 4 → Cond.eq (.elem (.static "LinkElectionLaw" "VARIABLES" "[Ljava/lang/String;") (.int (Int32.ofNat j))) (Term.string "LinkElectionLaw" (318 + j)) ∈ gPre ∧ Cond.eq (gSt (9 + j)) (Term.string "LinkElectionLaw" (318 + j)) ∈ gPre := by decide +kernel
section GST
variable {args : Array Value} {s : State} {A : Nat → Prop}
theorem gstr (hs : ∀ w ∈ gPre, w.before args s = true) (hA : ∀ a : Nat, a < s.heap.size → ¬ A a) : ∃ adK adV : Nat → Nat, vk_S 34 (gStrs.map List.length) (gStrs.map (fun l => l.map Int32.ofNat)) adK adV A s s.heap ∧ ∀ i : Nat, i < 34 → (gSt i).eval args s none [] s = some (.ref (adK i)) := by
  have h0 : ∀ i : Nat, ∃ q : Nat × Nat, i < 34 → (va_O "java/lang/String" q.1 A s s.heap ∧ va_OF "java/lang/String" "coder" "B" (.int 0) q.1 A s s.heap ∧ va_OF "java/lang/String" "value" "[B" (.ref q.2) q.1 A s s.heap ∧ va_T .byte q.2 (gLn i) (fun j => .int (gBy i j)) A s s.heap) ∧ (gSt i).eval args s none [] s = some (.ref q.1) := by
    intro i
    by_cases hi : i < 34
    · obtain ⟨adK, adV, ⟨h1, -⟩, h2⟩ := vk_Sof (args := args) (s := s) (N := 1) (tm := fun _ => gSt i) (len := [gLn i]) (byt := [(gStrs.map (fun l => l.map Int32.ofNat)).getD i []]) (A := A) (fun j hj => by rw [show j = 0 by omega]; exact gst9 i hi) (fun _ _ => hs _ (gst1 i hi)) (fun _ _ => hs _ (gst2 i hi)) (fun _ _ => hs _ (gst3 i hi)) (fun j hj => by rw [show j = 0 by omega]; exact hs _ (gst4 i hi)) (fun j hj k hk => by rw [show j = 0 by omega] at hk ⊢; exact hs _ (gst5 i hi k hk)) (fun a b ha hb hab => absurd (show a = b by omega) hab) hA
      exact ⟨(adK 0, adV 0), fun _ => ⟨h1 0 (by omega), h2 0 (by omega)⟩⟩
    · exact ⟨(0, 0), fun h => absurd h hi⟩
  obtain ⟨ad, had⟩ := Classical.axiomOfChoice h0
  refine ⟨fun i => (ad i).1, fun i => (ad i).2, ⟨fun i hi => (had i hi).1, fun i j hi hj e => ?_⟩, fun i hi => (had i hi).2⟩
  dsimp only at e
  obtain ⟨⟨-, -, ⟨cf, k, ix, fd, cell, a1, a2, a3, a4, a5, a6⟩, ⟨ce1, b1, b2, b3, b4, b5, b6, b7⟩⟩, -⟩ := had i hi
  obtain ⟨⟨-, -, ⟨cf', k', ix', fd', cell', a1', a2', a3', a4', a5', a6'⟩, ⟨ce1', b1', b2', b3', b4', b5', b6', b7'⟩⟩, -⟩ := had j hj
  rw [← e] at a3'
  cases a1.symm.trans a1'
  cases a3.symm.trans a3'
  have e9 : (ad i).2 = (ad j).2 := Value.ref.inj (Option.some.inj (a5.symm.trans a5'))
  rw [← e9] at b1'
  cases b1.symm.trans b1'
  have hLij : Int32.ofNat (gLn i) = Int32.ofNat (gLn j) := b5.symm.trans b5'
  rcases gst7 i hi j hj with h | h | h
  · exact h
  · exact absurd hLij h
  · refine absurd (fun k hk => ?_) h
    have e1 := b6 k hk
    have e2 := b6' k (by rw [← gst8 i hi j hj hLij]; exact hk)
    exact Value.int.inj (Option.some.inj (e1.symm.trans e2))
theorem gEq_t {t1 t2 : Term} {a : Nat} (h : (Cond.eq t1 t2).before args s = true) (h1 : t1.eval args s none [] s = some (.ref a)) : t2.eval args s none [] s = some (.ref a) := by
  cases hv : t2.eval args s none [] s with
  | none => simp [Cond.before, Cond.holds, Cond.value, h1, hv] at h
  | some w => cases w <;> simp [Cond.before, Cond.holds, Cond.value, h1, hv] at h <;> first | (rw [h]; done) | (subst h; rfl) | skip
theorem gEq_s {t1 t2 : Term} {a : Nat} (h : (Cond.eq t1 t2).before args s = true) (h1 : t2.eval args s none [] s = some (.ref a)) : t1.eval args s none [] s = some (.ref a) := by
  cases hv : t1.eval args s none [] s with
  | none => simp [Cond.before, Cond.holds, Cond.value, h1, hv] at h
  | some w => cases w <;> simp [Cond.before, Cond.holds, Cond.value, h1, hv] at h <;> first | (rw [h]; done) | (subst h; rfl) | skip
theorem gSlit {own tx : String} {k cur : Nat} (hts : (Cond.stringRef own k tx).before args s = true) (hcur : s.vm.findClass own = some cur) : ∃ a : Nat, (Term.string own k).eval args s none [] s = some (.ref a) := by
  obtain ⟨_, _, _, a, -, -, -, -, -, h⟩ := Cond.stringRef_spec hcur hts
  exact ⟨a, h⟩
end GST
section GKX
variable {args : Array Value} {s : State}

theorem gKc0 (hts : ∀ w ∈ gWS, w.before args s = true) : ∃ x : ClassId × (Nat → Nat), u_Kn s RX0 TX0 5 x.1 x.2 := by
  obtain ⟨a, b, h⟩ := u_known hts gC_0.2.1 (hts (Cond.instantiable RX0 5) (gws_of 147 (by decide +kernel) (by decide +kernel)))
  exact ⟨(a, b), h⟩
theorem gKc1 (hts : ∀ w ∈ gWS, w.before args s = true) : ∃ x : ClassId × (Nat → Nat), u_Kn s RX1 TX1 7 x.1 x.2 := by
  obtain ⟨a, b, h⟩ := u_known hts gC_1.2.1 (hts (Cond.instantiable RX1 7) (gws_of 277 (by decide +kernel) (by decide +kernel)))
  exact ⟨(a, b), h⟩
theorem gKc2 (hts : ∀ w ∈ gWS, w.before args s = true) : ∃ x : ClassId × (Nat → Nat), u_Kn s RX2 TX2 3 x.1 x.2 := by
  obtain ⟨a, b, h⟩ := u_known hts gC_2.2.1 (hts (Cond.instantiable RX2 3) (gws_of 327 (by decide +kernel) (by decide +kernel)))
  exact ⟨(a, b), h⟩
theorem gKc3 (hts : ∀ w ∈ gWS, w.before args s = true) : ∃ x : ClassId × (Nat → Nat), u_Kn s RX3 TX3 6 x.1 x.2 := by
  obtain ⟨a, b, h⟩ := u_known hts gC_3.2.1 (hts (Cond.instantiable RX3 6) (gws_of 168 (by decide +kernel) (by decide +kernel)))
  exact ⟨(a, b), h⟩
theorem gKc4 (hts : ∀ w ∈ gWS, w.before args s = true) : ∃ x : ClassId × (Nat → Nat), u_Kn s RX4 TX4 3 x.1 x.2 := by
  obtain ⟨a, b, h⟩ := u_known hts gC_4.2.1 (hts (Cond.instantiable RX4 3) (gws_of 310 (by decide +kernel) (by decide +kernel)))
  exact ⟨(a, b), h⟩
theorem gKc5 (hts : ∀ w ∈ gWS, w.before args s = true) : ∃ x : ClassId × (Nat → Nat), u_Kn s RX5 TX5 11 x.1 x.2 := by
  obtain ⟨a, b, h⟩ := u_known hts gC_5.2.1 (hts (Cond.instantiable RX5 11) (gws_of 105 (by decide +kernel) (by decide +kernel)))
  exact ⟨(a, b), h⟩
theorem gKc6 (hts : ∀ w ∈ gWS, w.before args s = true) : ∃ x : ClassId × (Nat → Nat), u_Kn s RX6 TX6 8 x.1 x.2 := by
  obtain ⟨a, b, h⟩ := u_known hts gC_6.2.1 (hts (Cond.instantiable RX6 8) (gws_of 111 (by decide +kernel) (by decide +kernel)))
  exact ⟨(a, b), h⟩
theorem gKc7 (hts : ∀ w ∈ gWS, w.before args s = true) : ∃ x : ClassId × (Nat → Nat), u_Kn s RX7 TX7 2 x.1 x.2 := by
  obtain ⟨a, b, h⟩ := u_known hts gC_7.2.1 (hts (Cond.instantiable RX7 2) (gws_of 155 (by decide +kernel) (by decide +kernel)))
  exact ⟨(a, b), h⟩
theorem gKc8 (hts : ∀ w ∈ gWS, w.before args s = true) : ∃ x : ClassId × (Nat → Nat), u_Kn s RX8 TX8 9 x.1 x.2 := by
  obtain ⟨a, b, h⟩ := u_known hts gC_8.2.1 (hts (Cond.instantiable RX8 9) (gws_of 97 (by decide +kernel) (by decide +kernel)))
  exact ⟨(a, b), h⟩
theorem gKc9 (hts : ∀ w ∈ gWS, w.before args s = true) : ∃ x : ClassId × (Nat → Nat), u_Kn s RX9 TX9 4 x.1 x.2 := by
  obtain ⟨a, b, h⟩ := u_known hts gC_9.2.1 (hts (Cond.instantiable RX9 4) (gws_of 534 (by decide +kernel) (by decide +kernel)))
  exact ⟨(a, b), h⟩
theorem gKc16 (hts : ∀ w ∈ gWS, w.before args s = true) : ∃ x : ClassId × (Nat → Nat), u_Kn s RX10 TX10 5 x.1 x.2 := by
  obtain ⟨a, b, h⟩ := u_known hts gC_16.2.1 (hts (Cond.instantiable RX10 5) (gws_of 495 (by decide +kernel) (by decide +kernel)))
  exact ⟨(a, b), h⟩
theorem gKc17 (hts : ∀ w ∈ gWS, w.before args s = true) : ∃ x : ClassId × (Nat → Nat), u_Kn s RX11 TX11 4 x.1 x.2 := by
  obtain ⟨a, b, h⟩ := u_known hts gC_17.2.1 (hts (Cond.instantiable RX11 4) (gws_of 1376 (by decide +kernel) (by decide +kernel)))
  exact ⟨(a, b), h⟩
theorem gKc18 (hts : ∀ w ∈ gWS, w.before args s = true) : ∃ x : ClassId × (Nat → Nat), u_Kn s RX12 TX12 1 x.1 x.2 := by
  obtain ⟨a, b, h⟩ := u_known hts gC_18.2.1 (hts (Cond.instantiable RX12 1) (gws_of 627 (by decide +kernel) (by decide +kernel)))
  exact ⟨(a, b), h⟩
theorem gKc19 (hts : ∀ w ∈ gWS, w.before args s = true) : ∃ x : ClassId × (Nat → Nat), u_Kn s RJ0 TJ0 4 x.1 x.2 := by
  obtain ⟨a, b, h⟩ := u_known hts gC_19.2.1 (hts (Cond.instantiable RJ0 4) (gws_of 1270 (by decide +kernel) (by decide +kernel)))
  exact ⟨(a, b), h⟩
theorem gKc20 (hts : ∀ w ∈ gWS, w.before args s = true) : ∃ x : ClassId × (Nat → Nat), u_Kn s RJ4 TJ4 4 x.1 x.2 := by
  obtain ⟨a, b, h⟩ := u_known hts gC_20.2.1 (hts (Cond.instantiable RJ4 4) (gws_of 1131 (by decide +kernel) (by decide +kernel)))
  exact ⟨(a, b), h⟩
theorem gKc (hts : ∀ w ∈ gWS, w.before args s = true) : ∃ D : va_G, ∀ (c : Nat) (q : vw_C), vwCl[c]? = some q → u_Kn s q.1 q.2.1 q.2.2 (D.1 c) (D.2 c) := by
  have h0 : ∀ c : Nat, ∃ x : ClassId × (Nat → Nat), ∀ q : vw_C, vwCl[c]? = some q → u_Kn s q.1 q.2.1 q.2.2 x.1 x.2 := by
    intro c
    by_cases hc : c < 21
    · have h1 : c = 0 ∨ c = 1 ∨ c = 2 ∨ c = 3 ∨ c = 4 ∨ c = 5 ∨ c = 6 ∨ c = 7 ∨ c = 8 ∨ c = 9 ∨ c = 10 ∨ c = 11 ∨ c = 12 ∨ c = 13 ∨ c = 14 ∨ c = 15 ∨ c = 16 ∨ c = 17 ∨ c = 18 ∨ c = 19 ∨ c = 20 := by omega
      rcases h1 with rfl | rfl | rfl | rfl | rfl | rfl | rfl | rfl | rfl | rfl | rfl | rfl | rfl | rfl | rfl | rfl | rfl | rfl | rfl | rfl | rfl
      · obtain ⟨x, h⟩ := gKc0 hts; exact ⟨x, fun q hq => by cases hq; exact h⟩
      · obtain ⟨x, h⟩ := gKc1 hts; exact ⟨x, fun q hq => by cases hq; exact h⟩
      · obtain ⟨x, h⟩ := gKc2 hts; exact ⟨x, fun q hq => by cases hq; exact h⟩
      · obtain ⟨x, h⟩ := gKc3 hts; exact ⟨x, fun q hq => by cases hq; exact h⟩
      · obtain ⟨x, h⟩ := gKc4 hts; exact ⟨x, fun q hq => by cases hq; exact h⟩
      · obtain ⟨x, h⟩ := gKc5 hts; exact ⟨x, fun q hq => by cases hq; exact h⟩
      · obtain ⟨x, h⟩ := gKc6 hts; exact ⟨x, fun q hq => by cases hq; exact h⟩
      · obtain ⟨x, h⟩ := gKc7 hts; exact ⟨x, fun q hq => by cases hq; exact h⟩
      · obtain ⟨x, h⟩ := gKc8 hts; exact ⟨x, fun q hq => by cases hq; exact h⟩
      · obtain ⟨x, h⟩ := gKc9 hts; exact ⟨x, fun q hq => by cases hq; exact h⟩
      · obtain ⟨x, h⟩ := gKc0 hts; exact ⟨x, fun q hq => by cases hq; exact h⟩
      · obtain ⟨x, h⟩ := gKc0 hts; exact ⟨x, fun q hq => by cases hq; exact h⟩
      · obtain ⟨x, h⟩ := gKc0 hts; exact ⟨x, fun q hq => by cases hq; exact h⟩
      · obtain ⟨x, h⟩ := gKc0 hts; exact ⟨x, fun q hq => by cases hq; exact h⟩
      · obtain ⟨x, h⟩ := gKc0 hts; exact ⟨x, fun q hq => by cases hq; exact h⟩
      · obtain ⟨x, h⟩ := gKc0 hts; exact ⟨x, fun q hq => by cases hq; exact h⟩
      · obtain ⟨x, h⟩ := gKc16 hts; exact ⟨x, fun q hq => by cases hq; exact h⟩
      · obtain ⟨x, h⟩ := gKc17 hts; exact ⟨x, fun q hq => by cases hq; exact h⟩
      · obtain ⟨x, h⟩ := gKc18 hts; exact ⟨x, fun q hq => by cases hq; exact h⟩
      · obtain ⟨x, h⟩ := gKc19 hts; exact ⟨x, fun q hq => by cases hq; exact h⟩
      · obtain ⟨x, h⟩ := gKc20 hts; exact ⟨x, fun q hq => by cases hq; exact h⟩
    · exact ⟨(0, fun _ => 0), fun q hq => absurd (List.getElem?_eq_some_iff.mp hq).1 (by show ¬ c < 21; exact hc)⟩
  obtain ⟨f, hf⟩ := Classical.axiomOfChoice h0
  exact ⟨(fun c => (f c).1, fun c => (f c).2), hf⟩
theorem gArrP {ty : FieldType} (h : (Cond.arrayClass ty).before args s = true) : ∃ cA : ClassId, ArrOfT s cA ty ∧ s.vm.findClass ("[" ++ ty.toString) = some cA := by
  obtain ⟨c, k, comp, h1, h2, h3⟩ := Cond.arrayClass_spec h
  exact ⟨c, fun N z => ⟨(fun k h => by cases h), k, h2, comp, h3⟩, h1⟩
theorem gArrO {C : String} (h : (Cond.arrayOver (.object C)).before args s = true) : ∃ cA : ClassId, ArrOfT s cA (.object C) ∧ va_RA s cA (.object C) := by
  obtain ⟨comp, c, k, h1, h2, h3, h4, h5⟩ := Cond.arrayOver_spec h
  exact ⟨c, fun N z => ⟨(fun k h => by cases h), k, h3, comp, h4⟩, k, comp, h3, h4, h1, h5⟩
theorem gAO2 (h : (Cond.arrayOver (.array .int)).before args s = true) : va_AO2 s := by
  have h : (Cond.arrayOver (.array .int)).holds args s none s [] = true := h
  simp only [Cond.holds, Cond.value, beq_iff_eq] at h
  cases hc : s.vm.findClass (FieldType.array .int).toString with
  | none => simp [hc] at h
  | some comp =>
    simp only [hc, Option.bind_some, Option.bind_eq_some_iff, Option.map_eq_some_iff] at h
    obtain ⟨c, hi, k, hk, hb⟩ := h
    obtain ⟨hlt, hp, -⟩ := Array.findIdx?_eq_some_iff_getElem.mp hi
    have hkk : s.vm.classes[c] = k := (Array.getElem?_eq_some_iff.mp hk).2
    rw [hkk] at hp
    cases hkind : k.kind with
    | array component ty =>
      rw [hkind] at hb hp
      simp at hb hp
      exact ⟨comp, c, k, hc, hi, hk, by rw [hkind, hp, hb.1], hb.2⟩
    | _ => rw [hkind] at hb; simp at hb
theorem gArrA (h : va_AO2 s) : ∃ cA : ClassId, ArrOfT s cA (.array .int) ∧ va_RA s cA (.array .int) := by
  obtain ⟨comp, c, k, h1, h2, h3, h4, h5⟩ := h
  exact ⟨c, fun N z => ⟨(fun k h => by cases h), k, h3, comp, h4⟩, h5⟩
end GKX
