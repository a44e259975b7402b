/-! WHOLE, down to a question about functions -/
theorem gLit_ws : ∀ q ∈ gLit, Cond.stringRef q.1 q.2.1 q.2.2.1 ∈ lw_tbl := by decide +kernel
theorem gLit_cases : ∀ q ∈ gLit, (∃ i ∈ List.range 34, q.2.2.2 = gSB + i ∧ (q.1 = (gSx i).1 ∧ q.2.1 = (gSx i).2 ∨ Cond.eq (gSt i) (Term.string q.1 q.2.1) ∈ gPre)) ∨ (∃ i ∈ List.range 10, q.2.2.2 = gSB + 100 + i ∧ q.1 = "LinkElection" ∧ q.2.1 = gSe i) := by decide +kernel
theorem gSe_lit : ∀ i, i < 10 → ∃ q ∈ gLit, q.1 = "LinkElection" ∧ q.2.1 = gSe i := by decide +kernel
theorem gSe_ws : ∀ i, i < 10 → ∃ tx : String, Cond.stringRef "LinkElection" (gSe i) tx ∈ lw_tbl := fun i hi => by
  obtain ⟨q, hq, e1, e2⟩ := gSe_lit i hi
  exact ⟨q.2.2.1, by rw [← e1, ← e2]; exact gLit_ws q hq⟩
theorem gNcs_pre : ∀ q ∈ gNcs, Cond.not (Cond.castable q.1 q.2) ∈ gPre := by decide +kernel
def gAd0 (adK adE adV : Nat → Nat) (fm b vr d1 d2 : Nat) : Nat → Nat := fun a => if a < gSB + 34 then adK (a - gSB) else if a < gSB + 110 then adE (a - gSB - 100) else if a < gSB + 1034 then adV (a - gSB - 1000) else if a = gSB + 2000 then fm else if a = gSB + 2001 then vr else if a = gSB + 2002 then d1 else if a = gSB + 2003 then d2 else b
theorem gWhole {p : Program} {e : Env} {s : State} {m : MethodId} {below : List Frame} {meth : Method} {c : Code} (l : Launch) (hflags : l.flags = flags0) {b L : Nat} {xs : Nat → Int32} (C0 : p.tables.exec = Jvm.exec ∧ c.code = code ∧ meth.sig.returnType = ret ∧ c.maxLocals = 31 ∧ s.vm.findClass RL = some m.cls ∧ (∀ w ∈ lw_tbl, w.before #[Value.ref b] s = true) ∧ va_X b L xs s s.heap ∧ b < s.heap.size ∧ meth.locks = false ∧ (Jvm.Cond.and given_1 narrow_1).before #[Value.ref b] s = true) {Q : State → Prop} (hret : ∀ {pc : Nat} {H : Heap} {ls : Array Slot}, decode code pc = .ok (.ireturn, 1) → W p l e room_1 s m #[Value.ref b] below meth c H [] 590000 5000000 Q (F0 m pc ls [.int 1])) {C9 S9 : Nat} (hC9 : C9 ≤ 590000) (hS9 : S9 ≤ 5000000) (hpure : f_L_law L xs = some (1, C9, S9)) : W p l e room_1 s m #[Value.ref b] below meth c s.heap [] 0 0 Q (entryFrame m ([Value.ref b] : List Value).toArray 31) := by
  obtain ⟨hx, hb, hr, hml, hown, hts, hX, hbl, hlocks, hgv⟩ := C0
  have hs : ∀ w ∈ gPre, w.before #[Value.ref b] s = true := flat_of_before _ hgv
  have hgw : ∀ w ∈ gWS, w.before #[Value.ref b] s = true := fun w hw => hts w (List.mem_filter.mp hw).1
  have hA0 : ∀ a : Nat, a < s.heap.size → ¬ (s.heap.size ≤ a) := fun a h => Nat.not_le.mpr h
  have ht : ∀ {w : Cond} (i : Nat), lw_tbl[i]? = some w → w.before #[Value.ref b] s = true := fun i h => hts _ (List.mem_of_getElem? h)
  obtain ⟨adK, adV, hS, hSe⟩ := gstr (A := fun q => s.heap.size ≤ q) hs hA0
  obtain ⟨D, hD⟩ := gKc hgw
  obtain ⟨c10, a10, r10⟩ := gArrP (ht 145 (by decide +kernel) : (Cond.arrayClass .byte).before #[Value.ref b] s = true)
  obtain ⟨c11, a11, r11⟩ := gArrP (ht 167 (by decide +kernel) : (Cond.arrayClass .int).before #[Value.ref b] s = true)
  obtain ⟨c12, a12, r12⟩ := gArrP (ht 273 (by decide +kernel) : (Cond.arrayClass .long).before #[Value.ref b] s = true)
  have o13 : (Cond.arrayOver (.object RX0)).before #[Value.ref b] s = true := ht 333 (by decide +kernel)
  have o14 : (Cond.arrayOver (.object RX3)).before #[Value.ref b] s = true := ht 153 (by decide +kernel)
  have o15 : va_AO2 s := gAO2 (args := #[Value.ref b]) (ht 616 (by decide +kernel))
  have o21 : (Cond.arrayOver (.object RX9)).before #[Value.ref b] s = true := ht 501 (by decide +kernel)
  have o22 : (Cond.arrayOver (.object RX10)).before #[Value.ref b] s = true := ht 1486 (by decide +kernel)
  obtain ⟨c21, a21, r21⟩ := gArrO o21
  obtain ⟨c22, a22, r22⟩ := gArrO o22
  obtain ⟨c13, a13, r13⟩ := gArrO o13
  obtain ⟨c14, a14, r14⟩ := gArrO o14
  obtain ⟨c15, a15, r15⟩ := gArrA o15
  obtain ⟨cur, -, hcur, -⟩ := Cond.instantiable_spec (hgw (Cond.instantiable "LinkElection" 9) (gws_of 97 (by decide +kernel) (by decide +kernel)))
  have hE0 : ∀ i : Nat, ∃ a : Nat, i < 10 → (Term.string "LinkElection" (gSe i)).eval #[Value.ref b] s none [] s = some (.ref a) := by
    intro i
    by_cases hi : i < 10
    · obtain ⟨tx, hw⟩ := gSe_ws i hi
      obtain ⟨a, ha⟩ := gSlit (hts _ hw) hcur
      exact ⟨a, fun _ => ha⟩
    · exact ⟨0, fun h => absurd h hi⟩
  obtain ⟨adE, hadE⟩ := Classical.axiomOfChoice hE0
  have hfm : ∃ fm : Nat, va_Z "jdk/internal/util/Preconditions" "SIOOBE_FORMATTER" "Ljava/util/function/BiFunction;" .null (fun q => s.heap.size ≤ q) s s.heap ∨ va_Z "jdk/internal/util/Preconditions" "SIOOBE_FORMATTER" "Ljava/util/function/BiFunction;" (.ref fm) (fun q => s.heap.size ≤ q) s s.heap := by
    have hq : (Cond.isRef (.static "jdk/internal/util/Preconditions" "SIOOBE_FORMATTER" "Ljava/util/function/BiFunction;")).before #[Value.ref b] s = true := hs _ (by decide +kernel)
    have q1 : (Cond.laysStatic "jdk/internal/util/Preconditions" "SIOOBE_FORMATTER" "Ljava/util/function/BiFunction;").before #[Value.ref b] s = true := ht 790 (by decide +kernel)
    have q2 : (Cond.initialized "jdk/internal/util/Preconditions").before #[Value.ref b] s = true := ht 87 (by decide +kernel)
    cases hv : (Term.static "jdk/internal/util/Preconditions" "SIOOBE_FORMATTER" "Ljava/util/function/BiFunction;").eval #[Value.ref b] s none [] s with
    | none => simp [Cond.before, Cond.holds, Cond.value, hv] at hq
    | some w =>
      cases w with
      | ref fm => exact ⟨fm, Or.inr (va_Zof q1 q2 hv hA0)⟩
      | null => exact ⟨0, Or.inl (va_Zof q1 q2 hv hA0)⟩
      | _ => simp [Cond.before, Cond.holds, Cond.value, hv] at hq
  obtain ⟨fm, hfm⟩ := hfm
  have hlo : (Term.length (.static "java/lang/Integer" "DigitOnes" "[B")).eval #[Value.ref b] s none [] s = some (.int (Int32.ofNat 100)) := va_eqt (z := 100) (hs _ (by decide +kernel))
  have hlt : (Term.length (.static "java/lang/Integer" "DigitTens" "[B")).eval #[Value.ref b] s none [] s = some (.int (Int32.ofNat 100)) := va_eqt (z := 100) (hs _ (by decide +kernel))
  have hlv : (Term.length (.static "LinkElectionLaw" "VARIABLES" "[Ljava/lang/String;")).eval #[Value.ref b] s none [] s = some (.int (Int32.ofNat 4)) := va_eqt (z := 4) (hs _ (by decide +kernel))
  obtain ⟨d1, hd1, hT1⟩ := va_Tof (ty := .byte) (f := fun j => .int (gDg 2002 j)) (A := fun q => s.heap.size ≤ q) (by decide) (hs _ (by decide +kernel)) hlo (fun j hj => va_eqt (hs _ (gdg1 j hj))) hA0
  obtain ⟨d2, hd2, hT2⟩ := va_Tof (ty := .byte) (f := fun j => .int (gDg 2003 j)) (A := fun q => s.heap.size ≤ q) (by decide) (hs _ (by decide +kernel)) hlt (fun j hj => va_eqt (hs _ (gdg2 j hj))) hA0
  obtain ⟨vr, hvr, hT3⟩ := va_Tof (ty := .object "java/lang/String") (f := fun j => .ref (adK (9 + j))) (A := fun q => s.heap.size ≤ q) (by decide) (hs _ (by decide +kernel)) hlv (fun j hj => gEq_s (hs _ (gvr1 j hj).1) (gEq_t (hs _ (gvr1 j hj).2) (hSe (9 + j) (by omega)))) hA0
  have z1 := va_Zof (C := "java/lang/Integer") (n := "DigitOnes") (d := "[B") (ht 1318 (by decide +kernel)) (ht 93 (by decide +kernel)) hd1 hA0
  have z2 := va_Zof (C := "java/lang/Integer") (n := "DigitTens") (d := "[B") (ht 1320 (by decide +kernel)) (ht 93 (by decide +kernel)) hd2 hA0
  have z3 := va_Zof (C := "LinkElectionLaw") (n := "VARIABLES") (d := "[Ljava/lang/String;") (ht 1408 (by decide +kernel)) (ht 64 (by decide +kernel)) hvr hA0
  have k1 : ∀ i : Nat, i < 34 → gAd0 adK adE adV fm b vr d1 d2 (gSB + i) = adK i := fun i hi => by
    unfold gAd0
    rw [if_pos (by omega), Nat.add_sub_cancel_left]
  have k2 : ∀ i : Nat, i < 10 → gAd0 adK adE adV fm b vr d1 d2 (gSB + 100 + i) = adE i := fun i hi => by
    unfold gAd0
    rw [if_neg (by omega), if_pos (by omega), show gSB + 100 + i - gSB - 100 = i by omega]
  have k3 : ∀ i : Nat, i < 34 → gAd0 adK adE adV fm b vr d1 d2 (gSB + 1000 + i) = adV i := fun i hi => by
    unfold gAd0
    rw [if_neg (by omega), if_neg (by omega), if_pos (by omega), show gSB + 1000 + i - gSB - 1000 = i by omega]
  have k4 : gAd0 adK adE adV fm b vr d1 d2 (gSB + 2000) = fm := by
    unfold gAd0
    rw [if_neg (by omega), if_neg (by omega), if_neg (by omega), if_pos rfl]
  have k5 : gAd0 adK adE adV fm b vr d1 d2 (gSB + 3000) = b := by
    unfold gAd0
    rw [if_neg (by omega), if_neg (by omega), if_neg (by omega), if_neg (by omega), if_neg (by omega), if_neg (by omega), if_neg (by omega)]
  have k6 : gAd0 adK adE adV fm b vr d1 d2 (gSB + 2001) = vr := by
    unfold gAd0
    rw [if_neg (by omega), if_neg (by omega), if_neg (by omega), if_neg (by omega), if_pos rfl]
  have k7 : gAd0 adK adE adV fm b vr d1 d2 (gSB + 2002) = d1 := by
    unfold gAd0
    rw [if_neg (by omega), if_neg (by omega), if_neg (by omega), if_neg (by omega), if_neg (by omega), if_pos rfl]
  have k8 : gAd0 adK adE adV fm b vr d1 d2 (gSB + 2003) = d2 := by
    unfold gAd0
    rw [if_neg (by omega), if_neg (by omega), if_neg (by omega), if_neg (by omega), if_neg (by omega), if_neg (by omega), if_pos rfl]
  have hEnv : gEnv (fun q => s.heap.size ≤ q) adV (gAd0 adK adE adV fm b vr d1 d2) s s.heap := by
    refine ⟨fun w hw => va_Nw.of (gNb_tab (List.mem_filter.mp hw).2) (hts w (List.mem_filter.mp hw).1), fun q hq => ?_, ?_, ?_, ?_, va_AO.of o13, va_AO.of o14, va_AO.of o21, va_AO.of o22, o15, fun q hq => va_Nc.of (hs _ (gNcs_pre q hq)), ?_, ?_, fun i hi => k3 i hi, ?_⟩
    · refine vk_R.of (A := #[Value.ref b]) (hts _ (gLit_ws q hq)) ?_
      rcases gLit_cases q hq with ⟨i, hi, e3, h9⟩ | ⟨i, hi, e3, e1, e2⟩ <;> have hi := List.mem_range.mp hi
      · rw [e3, k1 i hi]
        rcases h9 with ⟨e1, e2⟩ | h9
        · rw [e1, e2]
          exact hSe i hi
        · exact gEq_t (hs _ h9) (hSe i hi)
      · rw [e1, e2, e3, k2 i hi]
        exact hadE i hi
    · refine ⟨fun i hi => ?_, fun i j hi hj h => hS.2 i j hi hj ?_⟩
      · dsimp only
        rw [k1 i hi]
        exact hS.1 i hi
      · dsimp only at h
        rw [k1 i hi, k1 j hj] at h
        exact h
    · exact vx_Zqof (ht 676 (by decide +kernel)) (ht 76 (by decide +kernel)) (hs _ (by decide +kernel)) hA0
    · exact vx_Zqof (ht 678 (by decide +kernel)) (ht 76 (by decide +kernel)) (hs _ (by decide +kernel)) hA0
    · exact va_Zof (ht 774 (by decide +kernel)) (ht 85 (by decide +kernel)) (va_eqt (hs _ (by decide +kernel))) hA0
    · rw [k4]
      exact hfm
    · unfold gDig
      rw [k6, k7, k8, show (fun j => Value.ref (gAd0 adK adE adV fm b vr d1 d2 (gSB + 9 + j))) = (fun j => if j < 4 then Value.ref (adK (9 + j)) else Value.ref (gAd0 adK adE adV fm b vr d1 d2 (gSB + 9 + j))) from funext fun j => by
        by_cases hj : j < 4
        · rw [if_pos hj, Nat.add_assoc, k1 (9 + j) (by omega)]
        · rw [if_neg hj]]
      refine ⟨z1, z2, z3, hT1, hT2, ?_⟩
      obtain ⟨cell, q1, q2, q3, q4, q5, q6, q7⟩ := hT3
      exact ⟨cell, q1, q2, q3, q4, q5, fun j hj => by dsimp only; rw [if_pos hj]; exact q6 j hj, q7⟩
  have hK : va_K D vwCl (gTy (fun k => if k < 16 then [c10, c11, c12, c13, c14, c15].getD (k - 10) 0 else if k = 21 then c21 else c22)) s := by
    refine ⟨hD, fun k q hk => ?_⟩
    have hk6 : k < 8 := (List.getElem?_eq_some_iff.mp hk).1
    have h6 : k = 0 ∨ k = 1 ∨ k = 2 ∨ k = 3 ∨ k = 4 ∨ k = 5 ∨ k = 6 ∨ k = 7 := by omega
    rcases h6 with rfl | rfl | rfl | rfl | rfl | rfl | rfl | rfl
    · cases hk; exact ⟨a10, r10⟩
    · cases hk; exact ⟨a11, r11⟩
    · cases hk; exact ⟨a12, r12⟩
    · cases hk; exact ⟨a13, r13⟩
    · cases hk; exact ⟨a14, r14⟩
    · cases hk; exact ⟨a15, r15⟩
    · cases hk; exact ⟨a21, r21⟩
    · cases hk; exact ⟨a22, r22⟩
  have hst : l.stackTraces = false := by
    unfold Launch.stackTraces
    rw [hflags]
    decide
  generalize hZ : (((fun H locs ce so pc la st => W p l e room_1 s m #[Value.ref b] below meth c H locs ce so Q (F0 m pc la st)), (fun q => s.heap.size ≤ q), s.heap, D, (fun k => if k < 16 then [c10, c11, c12, c13, c14, c15].getD (k - 10) 0 else if k = 21 then c21 else c22), 31, gAd0 adK adE adV fm b vr d1 d2) : gZ) = Z
  have hFL : gFixL Z cL_law RL meth.name (some .boolean) 60 590000 5000000 (fun v _ _ _ => v = some (.int 1)) (fun _ _ _ _ => False) L xs := by
    refine ⟨p, l, e, room_1, s, m, #[Value.ref b], below, meth, c, Q, adV, b, ?_⟩
    subst hZ
    refine ⟨⟨rfl, hx, hb, hml, hown, hgw, hK, rfl, fun q hq => hq, hEnv, ⟨Nat.le_of_ble_eq_true rfl, Nat.le_of_ble_eq_true rfl, Nat.le_of_ble_eq_true rfl, Nat.le_of_ble_eq_true rfl⟩, rfl, hlocks, hst, ?_, ?_, ?_, ?_, ?_, ?_⟩, hX, hbl, hA0 b hbl, k5⟩
    · intro H locs ce so pc la ad T M x ty hR hrt hn hd ha h1 h2
      cases ha
      refine va_forget (fun q hq => hR.2.2.1.2.2 q hq) ?_
      exact W.widen h1 h2 (hret hd)
    · intro H locs ce so pc la ad T M x hR hrt
      cases hrt
    · intro H locs ce so pc la ad T M a ty hR hrt hty hd ha
      cases ha
    · intro H locs ce so pc la ad T M hR hrt
      cases hrt
    · intro H locs ce so pc la rest ad T M k ik is ic text sa hR ha
      exact ha.elim
    · intro H locs ce so pc la rest ad T M k q cell hR ha
      exact ha.elim
  have hn7 : Z.2.2.2.2.2.1 = 31 := by rw [← hZ]
  have hZ0 : Z.2.2.2.2.2.2 = gAd0 adK adE adV fm b vr d1 d2 := by rw [← hZ]
  have hG := t_L_law (ad := gAd0 adK adE adV fm b vr d1 d2) (T := []) (M := gM0) (ce := 0) (so := 0) hFL hn7 (Nat.le_refl _) (by omega) (by omega) hpure rfl
  rw [lg_entry_eq]
  have hl := lv_entry ([Value.ref b]) (n := 31) (Nat.le_of_ble_eq_true rfl)
  subst hZ
  have hP0 : va_P D vwCl (gW (fun k => if k < 16 then [c10, c11, c12, c13, c14, c15].getD (k - 10) 0 else if k = 21 then c21 else c22) (gAd0 adK adE adV fm b vr d1 d2) [] gM0) s.heap := fun k q h => by simp [gW] at h
  have hD0 : va_D (fun q => s.heap.size ≤ q) (gW (fun k => if k < 16 then [c10, c11, c12, c13, c14, c15].getD (k - 10) 0 else if k = 21 then c21 else c22) (gAd0 adK adE adV fm b vr d1 d2) [] gM0) := ⟨fun i j x y h => by simp [gW] at h, fun k q h => by simp [gW] at h⟩
  have hC0 : gCl [] gM0 := fun a k b' h => by cases h
  refine hG s.heap [] _ ⟨hP0, hD0, va_S.rf, hC0, fun _ _ => rfl⟩ ?_
  show lv_has _ 31 [(0, Value.ref (gAd0 adK adE adV fm b vr d1 d2 (gSB + 3000)))]
  rw [k5]
  exact hl
