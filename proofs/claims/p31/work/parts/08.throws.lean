/-! THROWN EXCEPTIONS -/
theorem gNb_tab {w : Cond} (h : gNb w = true) : w.onTables = true := by
  cases w <;> first | rfl | exact absurd h (fun q => nomatch q)
theorem gNw_use {w : Cond} {s : State} {args : Array Value} (hw : w ∈ gNw) (h : va_Nw w s) : w.before args s = true := va_Nw.use (gNb_tab (List.mem_filter.mp hw).2) h
def gThrown (ad0 : Nat → Nat) (T : gT) (M : gM) (k : Nat) : Nat → (Nat → Nat) → gT → gM → Prop := fun k' ad T' M' => k' = k ∧ ad = ad0 ∧ T' = T ∧ M' = M
def gXC (A : Nat → Prop) (D : va_G) (dA : Nat → ClassId) (ad0 : Nat → Nat) (T : gT) (M : gM) (k : Nat) : String → State → State → Prop := fun E st t => E = gExN k ∧ va_P D vwCl (gW dA ad0 T M) t.heap ∧ va_F A st t
def gRetXW (l : Launch) (d : Nat) (y : MethodName) (cc : ByteArray) (nL : Nat) (rt : Option FieldType) (mc ms : Nat) (av : List Value) (T : gT) (M : gM) (k : Nat) : Prop :=
  ∀ (D : va_G) (dA : Nat → ClassId) (adV ad0 : Nat → Nat) (sz : Nat), vx_Met l y (gWs y cc nL rt) { frames := d, cells := mc, slots := ms, locals := 64 * d } (va_Pc (av.map (gv ad0)) (gIn (gA ad0 T.length sz) D dA adV ad0 T M sz)) (fun _ _ _ _ => False) (gXC (gA ad0 T.length sz) D dA ad0 T M k) mc ms (gA ad0 T.length sz)
/-- at these arguments and this memory the method throws the exception k, nothing changed -/
def gRetX (d : Nat) (y : MethodName) (cc : ByteArray) (nL : Nat) (rt : Option FieldType) (mc ms : Nat) (av : List Value) (T : gT) (M : gM) (k : Nat) : Prop := ∀ l : Launch, l.stackTraces = false → gRetXW l d y cc nL rt mc ms av T M k
/-- the heap grew, and nothing else -/
theorem gXC_of {Z : gZ} {ad : Nat → Nat} {T : gT} {M : gM} {H : Heap} {locs : List Loc} {s t : State} (hR : gRp Z ad T M H locs) (hH : Z.2.2.1 = s.heap) (hz : H.size ≤ t.heap.size) (hk : ∀ q : Nat, q < H.size → t.heap[q]? = H[q]?) (k : Nat) : gXC Z.2.1 Z.2.2.2.1 Z.2.2.2.2.1 ad T M k (gExN k) s t := by
  refine ⟨rfl, hR.1.kept (fun j q hq => hk q.1 (hR.1 j q hq).lt), ?_⟩
  have hS := hR.2.2.1
  rw [hH] at hS
  exact ⟨Nat.le_trans hS.1 hz, fun q h1 h2 => (hk q (Nat.lt_of_lt_of_le h1 hS.1)).trans (hS.2.1 q h1 h2)⟩
section GX
variable {d : Nat} {y : MethodName} {cc : ByteArray} {nL : Nat} {rt : Option FieldType} {mc ms : Nat} {av : List Value} {T : gT} {M : gM} {k : Nat}
theorem gRetX_of {own : String} (hy : plainName y.cls = true) (hcls : y.cls = own) (hlen : (lg_sl av).length ≤ nL)
    (body : ∀ (Z : gZ) (ad0 : Nat → Nat), Z.2.2.2.2.2.1 = nL → Z.2.2.2.2.2.2 = ad0 → gFix Z cc own y.name rt d mc ms (fun _ _ _ _ => False) (gThrown ad0 T M k) → gG Z ad0 T M 0 0 0 (lv_args 0 av) []) : gRetX d y cc nL rt mc ms av T M k := by
  intro l hst D dA adV ad0 sz
  refine vx_ofW (cc := cc) (maxL := nL) (ret := rt) hy rfl ?_
  intro p e s m args below meth c s₁ B hml htab hv
  obtain ⟨rfl, hsz, hP, hD, hC, hK, hE⟩ := hv
  subst hsz
  have hts := atoms_spec (ws := gWs y cc nL rt) B.pre
  have hts' : ∀ w ∈ gWS, w.before (av.map (gv ad0)).toArray s = true := fun w hw => hts w (List.mem_cons_of_mem _ hw)
  have hown : s.vm.findClass own = some m.cls := by rw [← hcls]; exact findClass_of_methodNamed B.named
  have hnm : meth.name = y.name := (name_of_methodNamed B.named B.method).1
  have hlocks := B.notSynchronized
  generalize hZ : (((fun H locs ce so pc la st => W p l e ((headSpec (gWs y cc nL rt) { frames := d, cells := mc, slots := ms, locals := 64 * d }).room) s m ((av.map (gv ad0)).toArray) below meth c H locs ce so (vx_MQ below (fun _ _ _ _ => False) (gXC (gA ad0 T.length s.heap.size) D dA ad0 T M k) ((av.map (gv ad0)).toArray) s mc ms (gA ad0 T.length s.heap.size)) (F0 m pc la st)), gA ad0 T.length s.heap.size, s.heap, D, dA, nL, ad0) : gZ) = Z
  have hb := body Z ad0 (by rw [← hZ]) (by rw [← hZ]) ⟨p, l, e, _, s, m, _, below, meth, c, _, adV, by
    subst hZ
    refine ⟨rfl, B.exec, B.bytes, hml, hown, hts', hK, rfl, fun q hq => Or.inr hq, hE, ⟨Nat.le_refl d, Nat.le_refl _, Nat.le_refl mc, Nat.le_refl ms⟩, hnm, hlocks, hst, fun _ _ _ _ _ _ _ _ _ _ _ _ _ _ _ h => h.elim, fun _ _ _ _ _ _ _ _ _ _ _ _ _ h => h.elim, fun _ _ _ _ _ _ _ _ _ _ _ _ _ _ _ h => h.elim, fun _ _ _ _ _ _ _ _ _ _ _ _ h => h.elim, ?_, ?_⟩
    · rintro H locs ce so pc la rest ad T1 M1 k1 ik is ic text sa hR ⟨rfl, rfl, rfl, rfl⟩ hsize ⟨t1, t2, t3, t4⟩ hstr d0 d3 d4 d6 d9 hcat h6 hce hso
      refine vx_throwS (names := ["java/lang/RuntimeException", "java/lang/Exception"]) (A := gA ad T1.length s.heap.size) B.exec B.bytes hst hown t4 (fun n hn => ?_) (hts' _ t1) (hts' _ t2) hstr (fun w hw => ?_) (fun w hw => ?_) hE.2.2.2.1 hE.2.2.2.2.1 hR.2.2.1 hsize d0 d3 d4 d6 d9 (fun x hx => (htab x hx).elim) (by show 2 + 3 < d; omega) (by show _ + (13 * 3 + 43) ≤ 64 * d; omega) hce hso hlocks (fun t hal hz hk => gXC_of hR rfl hz hk k1) hR.2.2.1.2.2 hce hso
      · have hn' : n ∈ ["java/lang/RuntimeException", "java/lang/Exception"] := hn
        simp only [List.mem_cons, List.not_mem_nil, or_false] at hn'
        rcases hn' with rfl | rfl <;> decide +kernel
      · rcases t3 w hw with h | h
        · exact hts' _ h
        · exact gNw_use h (hE.1 _ h)
      · have good : ∀ w' : Cond, w' ∈ gWS → vx_ot w' = true := fun w' h' => by
          have := (List.mem_filter.mp h').2
          simp only [vx_ot, this, Bool.or_true]
        rcases List.mem_cons.mp hw with e1 | hw
        · rw [e1]; exact good _ t1
        rcases List.mem_cons.mp hw with e1 | hw
        · rw [e1]; exact good _ t2
        rcases t3 w hw with h | h
        · exact good _ h
        · have := gNb_tab (List.mem_filter.mp h).2
          simp only [vx_ot, this, Bool.true_or]
    · rintro H locs ce so pc la rest ad T1 M1 k1 q cell hR ⟨rfl, rfl, rfl, rfl⟩ hq hv hcl hce hso
      exact vx_out (fun x hx => (htab x hx).elim) hlocks hq hv hcl (fun t ht hal => gXC_of hR rfl (by rw [ht]; exact Nat.le_refl _) (fun j hj => by rw [ht]) k1) hR.2.2.1.2.2 hce hso⟩
  rw [lg_entry_eq]
  have hl := lv_entry (av.map (gv ad0)) (n := nL) (by rw [glg_len]; exact hlen)
  rw [gmp_args] at hl
  subst hZ
  exact hb s.heap [] _ ⟨hP, hD, va_S.rf, hC, fun _ _ => rfl⟩ hl
end GX
section GXR
variable {Z : gZ} {cc : ByteArray} {own nm : String} {rt : Option FieldType} {d mc ms : Nat} {Acc : Option Value → (Nat → Nat) → gT → gM → Prop} {AccX : Nat → (Nat → Nat) → gT → gM → Prop} {ad : Nat → Nat} {T : gT} {M : gM} {ce so pc : Nat} {ls : List (Nat × Value)} {st st0 : List Value}
theorem g_throw (hF : gFix Z cc own nm rt d mc ms Acc AccX) {k ik is ic sa : Nat} {text : String} (hthr : gThr own ik ic k) (hlit : (own, is, text, sa) ∈ gLit) (hcat : (st.map fun v => v.category).sum ≤ 8) (h6 : 6 ≤ d) (h1 : ce + 1 ≤ mc) (h2 : so + 6 ≤ ms) (ha : AccX k ad T M)
    (d0 : decode cc pc = .ok (.new ik, 3)) (d3 : decode cc (pc + 3) = .ok (.dup, 1)) (d4 : decode cc (pc + 4) = .ok (.ldc is, 2)) (d6 : decode cc (pc + 6) = .ok (.invokespecial ic, 3)) (d9 : decode cc (pc + 9) = .ok (.athrow, 1)) : gG Z ad T M ce so pc ls st := by
  obtain ⟨p, l, e, R, s, m, args, below, meth, c, Q, adV, hKq, hx, hb, hml, hown, hts, hK, hH, hA, hE, hRm, hnm, hlk9, hst, hrr1, hrr2, hrr3, hrr4, hrt, hrp⟩ := hF
  intro H locs la hR hl
  rw [hKq]
  exact hrt H locs ce so pc la (st.map (gv ad)) ad T M k ik is ic text _ hR ha (hl.1.trans hml.symm) hthr (hE.2.1 _ hlit) d0 d3 d4 d6 d9 (by
    rw [List.map_map, show ((fun v : Value => v.category) ∘ gv ad) = (fun v => v.category) from funext fun v => gv_cat ad v]
    exact hcat) h6 h1 h2
variable {y : MethodName} {cc' : ByteArray} {nL' n idx mc' ms' d' : Nat} {rt' : Option FieldType} {as : List Value} {k : Nat}
/-- a call of a method that throws: what its run gives -/
theorem g_callX_run {p : Program} {l : Launch} {e : Env} {R : Room} {s : State} {m : MethodId} {args : Array Value} {below : List Frame} {meth : Method} {c : Code} {Q : State → Prop} {adV : Nat → Nat} (hBs : gBase Z cc own nm rt d mc ms Acc AccX p l e R s m args below meth c Q adV) {b ci : Nat} {C : String} (hm : gMy y cc' nL' rt' n) (hlk : Cond.methodLink own idx y ∈ gWS) (hin : Cond.instanceMethod y ∈ gWS) (hse : Cond.selects C y y ∈ gWS) {TT : u_T} {N : Nat} (hC : vwCl[ci]? = some (C, TT, N)) (hci : gOb ci) {len9 : Nat} (hTb : T[b]? = some (ci, len9))
    (hc : gRetX d' y cc' nL' rt' mc' ms' (.ref b :: as) T M k) (hdd : d' + 1 ≤ d) (hmc : ce + mc' ≤ mc) (hms : so + ms' ≤ ms) (hn : as.length = n) (hst0 : st0 = as.reverse ++ .ref b :: st) (hcat : (st.map fun v => v.category).sum ≤ 8) (hd : decode cc pc = .ok (.invokevirtual idx, 3))
    (kk : ∀ (H : Heap) (locs : List Loc) (la : Array Slot) (q : Nat) (cell : Cell), gRp Z ad T M H locs → lv_has la Z.2.2.2.2.2.1 (gmp ad ls) → H[q]? = some cell → cell.vm = .none → s.vm.findClass (gExN k) = some cell.cls → vx_W p l e R s m args below meth c H locs (ce + mc') (so + ms') Q (F0 m pc la (st.map (gv ad))) q) : gG Z ad T M ce so pc ls st0 := by
  obtain ⟨hKq, hx, hb, hml, hown, hts, hK, hH, hA, hE, hRm, hnm, hlk9, hst, -⟩ := hBs
  intro H locs la hR hl
  subst hst0
  rw [hKq]
  dsimp only
  obtain ⟨hm1, hm2, hm3, hm4, hm5⟩ := hm
  have hgw := gws_in hm1
  have hroom : d' + 1 ≤ R.frames ∧ 8 + (nL' + 11) + 64 * d' ≤ R.locals := ⟨by have := hRm.1; omega, by have := hRm.2.1; omega⟩
  have hlen : (as.map (gv ad)).length = n := by rw [List.length_map]; exact hn
  have hrest : (((st.map (gv ad)).map fun v => v.category).sum) ≤ 8 := by
    rw [List.map_map, show ((fun v : Value => v.category) ∘ gv ad) = (fun v => v.category) from funext fun v => gv_cat ad v]
    exact hcat
  have hbd : ce + mc' ≤ R.cells ∧ so + ms' ≤ R.slots := ⟨Nat.le_trans hmc hRm.2.2.1, Nat.le_trans hms hRm.2.2.2⟩
  have hrecv : ∃ cellB : Cell, H[ad b]? = some cellB ∧ cellB.vm.isStatics = false ∧ s.vm.findClass C = some cellB.cls := by
    have he := gW_get (dA := Z.2.2.2.2.1) (ad := ad) (M := M) hTb
    rw [gE_obj hci] at he
    exact va_recv hK hR.1 hC he
  have hcb := callB_of (R := R) (rm := { frames := d', cells := mc', slots := ms', locals := 64 * d' }) (mc := mc') (ms := ms') n hts hgw rfl rfl rfl (hts _ hm2) (hts _ hlk) ⟨hm3.1, hm3.2, hm4⟩ hroom
  have hrun := vx_runV (e := e) (below := below) (meth := meth) (H := H) (locs := locs) (cells := ce) (slots := so) (b := ad b) (As := as.map (gv ad)) (rest := st.map (gv ad)) (g := F0 m pc la ((as.reverse ++ .ref b :: st).map (gv ad))) ⟨hx, hb, hml, hown, hts⟩ (hc l hst Z.2.2.2.1 Z.2.2.2.2.1 adV ad H.size) ⟨hcb, hts _ hin, hts _ hse⟩ ⟨gBlind, hrecv, fun U hU hW => ⟨rfl, gIn_of hR hH hA hK hE hU hW⟩⟩ rfl hlen hl.1 (by show (as.reverse ++ .ref b :: st).map (gv ad) = _; rw [List.map_append, List.map_reverse]; rfl) (lv_room (pc := pc) (ls := la) (rest := (as.reverse ++ .ref b :: st).map (gv ad)) (m := m) hrest) hd hbd
  have hf := gA_sub hR hH hA
  intro T9 hT X
  rcases hrun T9 hT X with ⟨v, st₀, t, T', L, h0, X', hL, e1, e2, hqa, hst⟩ | ⟨q, st₀, t, T', L, E, ce1, h0, X', hL, e1, e2, ⟨hxe, hxp, hxf⟩, hce, hcv, hcl, hsteps⟩
  · exact hqa.elim
  · obtain ⟨hz, hk⟩ := hxf
    rw [h0] at hz hk
    subst hxe
    obtain ⟨t2, a1, b1⟩ := kk T'.heap (locs ++ L) la q ce1 ⟨by rw [e1]; exact hxp, hR.2.1, ⟨Nat.le_trans hR.2.2.1.1 (by rw [e1]; exact hz), fun q h1 h2 => by rw [e1, hk q (Nat.lt_of_lt_of_le h1 hR.2.2.1.1) (fun z => h2 (hf _ z))]; exact hR.2.2.1.2.1 q h1 h2, fun q hq => by
      rcases List.mem_append.mp hq with h | h
      · exact hR.2.2.1.2.2 q h
      · exact hf _ (hL q h)⟩, hR.2.2.2.1, hR.2.2.2.2⟩ hl (by rw [e1]; exact hce) hcv hcl T' rfl X'
    exact ⟨t2, hsteps.trans a1, b1⟩
/-- .. and goes on to the caller -/
theorem g_callVX (hF : gFix Z cc own nm rt d mc ms Acc AccX) {b ci : Nat} {C : String} (hm : gMy y cc' nL' rt' n) (hlk : Cond.methodLink own idx y ∈ gWS) (hin : Cond.instanceMethod y ∈ gWS) (hse : Cond.selects C y y ∈ gWS) {TT : u_T} {N : Nat} (hC : vwCl[ci]? = some (C, TT, N)) (hci : gOb ci) {len9 : Nat} (hTb : T[b]? = some (ci, len9))
    (hc : gRetX d' y cc' nL' rt' mc' ms' (.ref b :: as) T M k) (hdd : d' + 1 ≤ d) (hmc : ce + mc' ≤ mc) (hms : so + ms' ≤ ms) (hn : as.length = n) (hst0 : st0 = as.reverse ++ .ref b :: st) (hcat : (st.map fun v => v.category).sum ≤ 8) (ha : AccX k ad T M) (hd : decode cc pc = .ok (.invokevirtual idx, 3)) : gG Z ad T M ce so pc ls st0 := by
  obtain ⟨p, l, e, R, s, m, args, below, meth, c, Q, adV, hBs⟩ := hF
  refine g_callX_run (ls := ls) hBs hm hlk hin hse hC hci hTb hc hdd hmc hms hn hst0 hcat hd ?_
  obtain ⟨hKq, hx, hb, hml, hown, hts, hK, hH, hA, hE, hRm, hnm, hlk9, hst, hrr1, hrr2, hrr3, hrr4, hrt, hrp⟩ := hBs
  intro H locs la q cell hR hl hq hv hcl
  exact hrp H locs (ce + mc') (so + ms') pc la (st.map (gv ad)) ad T M k q cell hR ha hq hv hcl hmc hms
end GXR
/-! METHODS WITH A TABLE OF HANDLERS -/
def gWsH (y : MethodName) (cc : ByteArray) (nL : Nat) (rt : Option FieldType) (hh : List (Nat × Nat × Nat × Nat)) : List Cond := Cond.codeWith y cc nL rt hh :: gWS
def gRetH (d : Nat) (y : MethodName) (cc : ByteArray) (nL : Nat) (rt : Option FieldType) (hh : List (Nat × Nat × Nat × Nat)) (mc ms : Nat) (av : List Value) (T : gT) (M : gM) (Acc : gAcc) : Prop := ∀ l : Launch, l.stackTraces = false →
  ∀ (D : va_G) (dA : Nat → ClassId) (adV ad0 : Nat → Nat) (sz : Nat), Met l y (gWsH y cc nL rt hh) { frames := d, cells := mc, slots := ms, locals := 64 * d } (va_Pc (av.map (gv ad0)) (gIn (gA ad0 T.length sz) D dA adV ad0 T M sz)) (gOut (gA ad0 T.length sz) D dA ad0 Acc) mc ms (gA ad0 T.length sz)
def gFixH (Z : gZ) (cc : ByteArray) (own nm : String) (rt : Option FieldType) (hh : List (Nat × Nat × Nat × Nat)) (d mc ms : Nat) (Acc : Option Value → (Nat → Nat) → gT → gM → Prop) (AccX : Nat → (Nat → Nat) → gT → gM → Prop) : Prop :=
  ∃ (p : Program) (l : Launch) (e : Env) (R : Room) (s : State) (m : MethodId) (args : Array Value) (below : List Frame) (meth : Method) (c : Code) (Q : State → Prop) (adV : Nat → Nat), gBase Z cc own nm rt d mc ms Acc AccX p l e R s m args below meth c Q adV ∧ c.exceptionTable.toList = tableOf hh
theorem gFixH.fix {Z : gZ} {cc : ByteArray} {own nm : String} {rt : Option FieldType} {hh : List (Nat × Nat × Nat × Nat)} {d mc ms : Nat} {Acc : Option Value → (Nat → Nat) → gT → gM → Prop} {AccX : Nat → (Nat → Nat) → gT → gM → Prop} (h : gFixH Z cc own nm rt hh d mc ms Acc AccX) : gFix Z cc own nm rt d mc ms Acc AccX := by
  obtain ⟨p, l, e, R, s, m, args, below, meth, c, Q, adV, hB, -⟩ := h
  exact ⟨p, l, e, R, s, m, args, below, meth, c, Q, adV, hB⟩
section GXH
variable {d : Nat} {y : MethodName} {cc : ByteArray} {nL : Nat} {rt : Option FieldType} {hh : List (Nat × Nat × Nat × Nat)} {mc ms : Nat} {av : List Value} {T : gT} {M : gM} {Acc : gAcc}
theorem gRetH_of {own : String} (hy : plainName y.cls = true) (hcls : y.cls = own) (hlen : (lg_sl av).length ≤ nL)
    (body : ∀ (Z : gZ) (ad0 : Nat → Nat), Z.2.2.2.2.2.1 = nL → Z.2.2.2.2.2.2 = ad0 → gFixH Z cc own y.name rt hh d mc ms (Acc ad0) (fun _ _ _ _ => False) → gG Z ad0 T M 0 0 0 (lv_args 0 av) []) : gRetH d y cc nL rt hh mc ms av T M Acc := by
  intro l hst D dA adV ad0 sz
  have hV : vx_Met l y (gWsH y cc nL rt hh) { frames := d, cells := mc, slots := ms, locals := 64 * d } (va_Pc (av.map (gv ad0)) (gIn (gA ad0 T.length sz) D dA adV ad0 T M sz)) (gOut (gA ad0 T.length sz) D dA ad0 Acc) (fun _ _ _ => False) mc ms (gA ad0 T.length sz) := by
    refine vx_ofWH (cc := cc) (maxL := nL) (ret := rt) (hh := hh) hy rfl ?_
    intro p e s m args below meth c s₁ B hml hv
    obtain ⟨rfl, hsz, hP, hD, hC, hK, hE⟩ := hv
    subst hsz
    have hts := atoms_spec (ws := gWsH y cc nL rt hh) B.pre
    have hown : s.vm.findClass own = some m.cls := by rw [← hcls]; exact findClass_of_methodNamed B.named
    have hnm : meth.name = y.name := (name_of_methodNamed B.named B.method).1
    have hr := B.returns
    have hlocks := B.notSynchronized
    have htab : c.exceptionTable.toList = tableOf hh := vx_table (x := y) B (hts _ List.mem_cons_self)
    generalize hZ : (((fun H locs ce so pc la st => W p l e ((headSpec (gWsH y cc nL rt hh) { frames := d, cells := mc, slots := ms, locals := 64 * d }).room) s m ((av.map (gv ad0)).toArray) below meth c H locs ce so (vx_MQ below (gOut (gA ad0 T.length s.heap.size) D dA ad0 Acc) (fun _ _ _ => False) ((av.map (gv ad0)).toArray) s mc ms (gA ad0 T.length s.heap.size)) (F0 m pc la st)), gA ad0 T.length s.heap.size, s.heap, D, dA, nL, ad0) : gZ) = Z
    have hb := body Z ad0 (by rw [← hZ]) (by rw [← hZ]) ⟨p, l, e, _, s, m, _, below, meth, c, _, adV, by
      subst hZ
      refine ⟨rfl, B.exec, B.bytes, hml, hown, fun w hw => hts w (List.mem_cons_of_mem _ hw), hK, rfl, fun q hq => Or.inr hq, hE, ⟨Nat.le_refl d, Nat.le_refl _, Nat.le_refl mc, Nat.le_refl ms⟩, hnm, hlocks, hst, ?_, ?_, ?_, ?_, fun _ _ _ _ _ _ _ _ _ _ _ _ _ _ _ _ _ h => h.elim, fun _ _ _ _ _ _ _ _ _ _ _ _ _ _ h => h.elim⟩
      · intro H locs ce so pc la ad T1 M1 x ty hR hrt hn hd ha h1 h2
        refine vx_ret (W.widen h1 h2 ?_)
        exact W.zret B.exec B.bytes (hr.trans hrt) hn (fun t ht hW => ⟨⟨some (.int x), ad, T1, M1, rfl, ha, by rw [ht]; exact hR.1, hR.2.1, hR.2.2.2.1, hR.2.2.2.2⟩, hR.2.2.1.F ht⟩) hR.2.2.1.2.2 hd hlocks
      · intro H locs ce so pc la ad T1 M1 x hR hrt hd ha h1 h2
        refine vx_ret (W.widen h1 h2 ?_)
        exact W.lret B.exec B.bytes (hr.trans hrt) (fun t ht hW => ⟨⟨some (.long x), ad, T1, M1, rfl, ha, by rw [ht]; exact hR.1, hR.2.1, hR.2.2.2.1, hR.2.2.2.2⟩, hR.2.2.1.F ht⟩) hR.2.2.1.2.2 hd hlocks
      · intro H locs ce so pc la ad T1 M1 a ty hR hrt hty hd ha h1 h2
        refine vx_ret (W.widen h1 h2 ?_)
        exact W.aret B.exec B.bytes (hr.trans hrt) hty (Or.inr ⟨_, rfl⟩) (fun t ht hW => ⟨⟨some (.ref a), ad, T1, M1, rfl, ha, by rw [ht]; exact hR.1, hR.2.1, hR.2.2.2.1, hR.2.2.2.2⟩, hR.2.2.1.F ht⟩) hR.2.2.1.2.2 hd hlocks
      · intro H locs ce so pc la ad T1 M1 hR hrt hd ha h1 h2
        refine vx_ret (W.widen h1 h2 ?_)
        exact W.vret B.exec B.bytes (hr.trans hrt) (fun t ht hW => ⟨⟨none, ad, T1, M1, rfl, ha, by rw [ht]; exact hR.1, hR.2.1, hR.2.2.2.1, hR.2.2.2.2⟩, hR.2.2.1.F ht⟩) hR.2.2.1.2.2 hd hlocks, htab⟩
    rw [lg_entry_eq]
    have hl := lv_entry (av.map (gv ad0)) (n := nL) (by rw [glg_len]; exact hlen)
    rw [gmp_args] at hl
    subst hZ
    exact hb s.heap [] _ ⟨hP, hD, va_S.rf, hC, fun _ _ => rfl⟩ hl
  refine MetFree.mono hV (fun _ _ h => h) (fun _ _ _ _ _ h => h) (fun a s' o t _ hq => ?_)
  rcases hq with h | ⟨q, -, E, ce, L, hxc, -⟩
  · exact h
  · exact hxc.elim
end GXH
section GXC
variable {Z : gZ} {cc : ByteArray} {own nm : String} {rt : Option FieldType} {hh : List (Nat × Nat × Nat × Nat)} {d mc ms : Nat} {Acc : Option Value → (Nat → Nat) → gT → gM → Prop} {AccX : Nat → (Nat → Nat) → gT → gM → Prop} {ad : Nat → Nat} {T : gT} {M : gM} {ce so pc : Nat} {ls ls' : List (Nat × Value)} {st st0 : List Value}
variable {y : MethodName} {cc' : ByteArray} {nL' n idx mc' ms' d' : Nat} {rt' : Option FieldType} {as : List Value} {k : Nat}
/-- a call that throws, caught by the row x of the table; the exception goes into the local i -/
theorem g_callVC (hF : gFixH Z cc own nm rt hh d mc ms Acc AccX) {b ci : Nat} {C : String} (hm : gMy y cc' nL' rt' n) (hlk : Cond.methodLink own idx y ∈ gWS) (hin : Cond.instanceMethod y ∈ gWS) (hse : Cond.selects C y y ∈ gWS) {TT : u_T} {N : Nat} (hC : vwCl[ci]? = some (C, TT, N)) (hci : gOb ci) {len9 : Nat} (hTb : T[b]? = some (ci, len9))
    (hc : gRetX d' y cc' nL' rt' mc' ms' (.ref b :: as) T M k) (hdd : d' + 1 ≤ d) (hmc : ce + mc' ≤ mc) (hms : so + ms' ≤ ms) (hn : as.length = n) (hst0 : st0 = as.reverse ++ .ref b :: st) (hcat : (st.map fun v => v.category).sum ≤ 8) (hd : decode cc pc = .ok (.invokevirtual idx, 3))
    (pre : List (Nat × Nat × Nat × Nat)) (x : Nat × Nat × Nat × Nat) (suf : List (Nat × Nat × Nat × Nat)) (hsplit : hh = pre ++ x :: suf) (hcov : x.1 ≤ pc ∧ pc < x.2.1) (hx0 : x.2.2.2 ≠ 0) (hpass : ∀ z ∈ pre, z.2.2.2 ≠ 0 ∧ ∃ nm' : String, Cond.classLink own z.2.2.2 nm' ∈ gWS ∧ (gExN k, nm') ∈ gNcs)
    (hlx : Cond.classLink own x.2.2.2 (gExN k) ∈ gWS) (hcast : Cond.castable (gExN k) (gExN k) ∈ gNw) {i pc2 : Nat} (hst : (∃ kf : Fin 4, decode cc x.2.2.1 = .ok (.astore_n kf, 1) ∧ (kf : Nat) = i ∧ pc2 = x.2.2.1 + 1) ∨ (decode cc x.2.2.1 = .ok (.astore i, 2) ∧ pc2 = x.2.2.1 + 2)) (hi : i < Z.2.2.2.2.2.1)
    (hls : ls.filter (fun q => !(q.1 == i) && !(q.1 + 1 == i && q.2.category == 2)) = ls') (kk : gG Z ad T M (ce + mc') (so + ms') pc2 ls' []) : gG Z ad T M ce so pc ls st0 := by
  obtain ⟨p, l, e, R, s, m, args, below, meth, c, Q, adV, hBs, htab⟩ := hF
  refine g_callX_run (ls := ls) hBs hm hlk hin hse hC hci hTb hc hdd hmc hms hn hst0 hcat hd ?_
  obtain ⟨hKq, hx, hb, hml, hown, hts, hK, hH, hA, hE, hRm, hnm, hlk9, hst9, -⟩ := hBs
  intro H locs la q cell hR hl hq hv hcl
  have kk := fun la hl => kk H locs la hR hl
  rw [hKq] at kk
  have drop : ∀ la', lv_has la' Z.2.2.2.2.2.1 ((i, Value.ref q) :: (gmp ad ls).filter (fun q => !(q.1 == i) && !(q.1 + 1 == i && q.2.category == 2))) → lv_has la' Z.2.2.2.2.2.1 (gmp ad ls') := fun la' h => by
    have e1 := gl_st1 (ad := ad) (v := .int 0) (i := i) (ls := ls) rfl
    have e2 : (gmp ad ls).filter (fun q => !(q.1 == i) && !(q.1 + 1 == i && q.2.category == 2)) = gmp ad ls' := by
      rw [← hls]
      exact (List.cons.inj e1).2
    rw [e2] at h
    exact ⟨h.1, h.2.1, fun z hz => h.2.2 z (List.mem_cons_of_mem _ hz)⟩
  refine vx_catch (own := own) (name := gExN k) (E := gExN k) hown (tableOf pre) ⟨x.1, x.2.1, x.2.2.1, x.2.2.2⟩ (tableOf suf) (by rw [htab, hsplit]; simp [tableOf]) (fun z hz => ?_) ?_ hx0 (hts _ hlx) (gNw_use hcast (hE.1 _ hcast)) hq hv hcl ?_
  · obtain ⟨z', hz', rfl⟩ := List.mem_map.mp hz
    obtain ⟨g1, nm', g2, g3⟩ := hpass z' hz'
    exact Or.inr ⟨g1, nm', hts _ g2, hE.2.2.2.2.2.2.2.2.2.2.1 _ g3⟩
  · simp only [covers]
    simp [hcov.1, hcov.2]
  · rcases hst with ⟨kf, h1, h2, h3⟩ | ⟨h1, h3⟩
    · subst h3
      exact lv_astore_n hx hb h1 h2 hl hi rfl (fun la hl => kk la (drop la hl))
    · subst h3
      exact lv_astore hx hb h1 hl hi rfl (fun la hl => kk la (drop la hl))
/-- a static call of a method with a table of handlers -/
theorem g_callSW (hF : gFix Z cc own nm rt d mc ms Acc AccX) {Acc' : gAcc} {hh' : List (Nat × Nat × Nat × Nat)} (hm1 : Cond.codeWith y cc' nL' rt' hh' ∈ gWS) (hm2 : Cond.initialized y.cls ∈ gWS) (hm3 : y.cls = own) (hm6 : y.cls ≠ "java/lang/invoke/MethodHandle" ∧ y.cls ≠ "java/lang/invoke/VarHandle") (hm4 : (parseMethodDescriptor y.desc).map (fun d => d.parameters.length) = some n) (hm5 : nL' ≤ 45) (hlk : Cond.methodLink own idx y ∈ gWS) (hsta : Cond.static y ∈ gWS)
    (hc : gRetH d' y cc' nL' rt' hh' mc' ms' as T M Acc') (hdd : d' + 1 ≤ d) (hmc : ce + mc' ≤ mc) (hms : so + ms' ≤ ms) (hn : as.length = n) (hst0 : st0 = as.reverse ++ st) (hcat : (st.map fun v => v.category).sum ≤ 8) (hd : decode cc pc = .ok (.invokestatic idx, 3))
    (k : ∀ (v : Option Value) (ad1 : Nat → Nat) (T1 : gT) (M1 : gM), Acc' ad v ad1 T1 M1 → (∀ a : Nat, gSB ≤ a → ad1 a = ad a) → ∀ H locs la, gRp Z ad1 T1 M1 H locs → lv_has la Z.2.2.2.2.2.1 (gmp ad ls) → Z.1 H locs (ce + mc') (so + ms') (pc + 3) la ((v.map (gv ad1)).toList ++ st.map (gv ad))) : gG Z ad T M ce so pc ls st0 := by
  obtain ⟨p, l, e, R, s, m, args, below, meth, c, Q, adV, hKq, hx, hb, hml, hown, hts, hK, hH, hA, hE, hRm, hnm, hlk9, hst, -⟩ := hF
  intro H locs la hR hl
  subst hst0
  have k := fun v ad1 T1 M1 ha had H1 locs1 hR1 => k v ad1 T1 M1 ha had H1 locs1 la hR1 hl
  rw [hKq] at k ⊢
  dsimp only at k ⊢
  have hroom : d' + 1 ≤ R.frames ∧ 8 + (nL' + 11) + 64 * d' ≤ R.locals := ⟨by have := hRm.1; omega, by have := hRm.2.1; omega⟩
  have hlen : (as.map (gv ad)).length = n := by rw [List.length_map]; exact hn
  have hrest : (((st.map (gv ad)).map fun v => v.category).sum) ≤ 8 := by
    rw [List.map_map, show ((fun v : Value => v.category) ∘ gv ad) = (fun v => v.category) from funext fun v => gv_cat ad v]
    exact hcat
  have hbd : ce + mc' ≤ R.cells ∧ so + ms' ≤ R.slots := ⟨Nat.le_trans hmc hRm.2.2.1, Nat.le_trans hms hRm.2.2.2⟩
  have hgood : ∀ w ∈ gWsH y cc' nL' rt' hh', w ∈ gWS := fun w hw => (List.mem_cons.mp hw).elim (fun e => e ▸ hm1) id
  have hpay : ∀ w ∈ gWsH y cc' nL' rt' hh', ∀ (a' : Array Value) (U : State), s.WarmedH U.vm → w.before a' U = true := fun w hw a' U hW => word_at hW (good_of_word (List.mem_filter.mp (hgood w hw)).2) (hts _ (hgood w hw))
  have hcw : vx_CSW R s args own idx y cc' nL' rt' hh' (gWsH y cc' nL' rt' hh') { frames := d', cells := mc', slots := ms', locals := 64 * d' } mc' ms' n := ⟨⟨rfl, rfl, hroom.1, hroom.2, hpay, List.mem_cons_self⟩, hts _ hm1, hts _ hm2, hm6, fun sig h => by rw [h] at hm4; exact (Option.some.inj hm4).symm, hts _ hlk, hts _ hsta⟩
  have hrun := vx_runSW (e := e) (below := below) (meth := meth) (H := H) (locs := locs) (cells := ce) (slots := so) (As := as.map (gv ad)) (rest := st.map (gv ad)) (g := F0 m pc la ((as.reverse ++ st).map (gv ad))) ⟨hx, hb, hml, hown, hts⟩ (hc l hst Z.2.2.2.1 Z.2.2.2.2.1 adV ad H.size) hcw ⟨gBlind, fun U hU hW => ⟨rfl, gIn_of hR hH hA hK hE hU hW⟩⟩ rfl hlen hl.1 (by show (as.reverse ++ st).map (gv ad) = _; rw [List.map_append, List.map_reverse]) (lv_room (pc := pc) (ls := la) (rest := (as.reverse ++ st).map (gv ad)) (m := m) hrest) hd hbd
  exact g_after hrun hR (gA_sub hR hH hA) (fun v ad1 T1 M1 H1 locs1 ha hR1 => k v ad1 T1 M1 ha (fun a q => (hR1.2.2.2.2 a q).trans (hR.2.2.2.2 a q).symm) H1 locs1 hR1)
end GXC
