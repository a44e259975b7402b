/-! CONTRACTS: a method at given arguments and memory returns a given answer with a given memory behind it -/
def gWs (y : MethodName) (cc : ByteArray) (nL : Nat) (rt : Option FieldType) : List Cond := Cond.code y cc nL rt :: gWS
def gA (ad : Nat → Nat) (n sz : Nat) : Nat → Prop := fun q => (∃ a, a < n ∧ q = ad a) ∨ sz ≤ q
def gIn (A : Nat → Prop) (D : va_G) (dA : Nat → ClassId) (adV ad : Nat → Nat) (T : gT) (M : gM) (sz : Nat) (U : State) : Prop :=
  U.heap.size = sz ∧ va_P D vwCl (gW dA ad T M) U.heap ∧ va_D A (gW dA ad T M) ∧ gCl T M ∧ va_K D vwCl (gTy dA) U ∧ gEnv A adV ad U U.heap
abbrev gAcc : Type := (Nat → Nat) → Option Value → (Nat → Nat) → gT → gM → Prop
def gOut (A : Nat → Prop) (D : va_G) (dA : Nat → ClassId) (ad0 : Nat → Nat) (Acc : gAcc) : Array Value → State → Outcome → State → Prop := fun _ st oc t =>
  (∃ (v : Option Value) (ad : Nat → Nat) (T1 : gT) (M1 : gM), oc = .returned (v.map (gv ad)) ∧ Acc ad0 v ad T1 M1 ∧ va_P D vwCl (gW dA ad T1 M1) t.heap ∧ va_D A (gW dA ad T1 M1) ∧ gCl T1 M1 ∧ ∀ a : Nat, gSB ≤ a → ad a = ad0 a) ∧ va_F A st t
def gRetW (l : Launch) (d : Nat) (y : MethodName) (cc : ByteArray) (nL : Nat) (rt : Option FieldType) (mc ms : Nat) (av : List Value) (T : gT) (M : gM) (Acc : gAcc) : Prop :=
  ∀ (D : va_G) (dA : Nat → ClassId) (adV ad0 : Nat → Nat) (sz : Nat), Met l y (gWs y cc nL rt) { frames := d, cells := mc, slots := ms, locals := 64 * d } (va_Pc (av.map (gv ad0)) (gIn (gA ad0 T.length sz) D dA adV ad0 T M sz)) (gOut (gA ad0 T.length sz) D dA ad0 Acc) mc ms (gA ad0 T.length sz)
def gRet (d : Nat) (y : MethodName) (cc : ByteArray) (nL : Nat) (rt : Option FieldType) (mc ms : Nat) (av : List Value) (T : gT) (M : gM) (Acc : gAcc) : Prop := ∀ l : Launch, l.stackTraces = false → gRetW l d y cc nL rt mc ms av T M Acc
/-- the answer r, the memory M' behind it, nothing made -/
def gSame (T : gT) (r : Option Value) (M' : gM) : gAcc := fun ad0 v ad T1 M1 => v = r ∧ ad = ad0 ∧ T1 = T ∧ M1 = M'
/-- what stood stands -/
def gExt (T T1 : gT) : Prop := ∀ (b : Nat) (x : Nat × Nat), T[b]? = some x → T1[b]? = some x
def gMade (T : gT) (r : Option Value) (T' : gT) (M' : gM) : gAcc := fun ad0 v ad T1 M1 => v = r ∧ T1 = T' ∧ M1 = M' ∧ gExt T T1 ∧ ∀ a : Nat, a < T.length → ad a = ad0 a
theorem gws_good : gWS.all goodWord = true := List.all_eq_true.mpr fun w h => (List.mem_filter.mp h).2
theorem gws_in {y : MethodName} {cc : ByteArray} {nL : Nat} {rt : Option FieldType} (h : Cond.code y cc nL rt ∈ gWS) : GoodIn gWS (gWs y cc nL rt) := goodIn_sub (fun w hw => (List.mem_cons.mp hw).elim (fun e => e ▸ h) id) (by
  show ((Cond.code y cc nL rt) :: gWS).all goodWord = true
  rw [List.all_cons, gws_good, Bool.and_true]
  exact List.all_eq_true.mp gws_good _ h)
theorem glit_ge : ∀ q ∈ gLit, gSB ≤ q.2.2.2 := by decide +kernel
theorem gCst_moved {C D : String} {u U : State} (hvm : u.vm.Alike U.vm) (h : va_Nw (.castable C D) u) : va_Nw (.castable C D) U := by
  unfold va_Nw at h ⊢
  simp only [Cond.before, Cond.holds, Cond.value, hvm.findClass] at h ⊢
  cases h1 : u.vm.findClass C with
  | none => simp [h1] at h
  | some a =>
    cases h2 : u.vm.findClass D with
    | none => simp [h1, h2] at h
    | some b => simpa [h1, h2, hvm.assignable] using h
theorem gNw_warm {w : Cond} {s U : State} (hw : w ∈ gNw) (hW : s.WarmedH U.vm) (h : va_Nw w s) : va_Nw w U := by
  have hp := (List.mem_filter.mp hw).2
  cases w with
  | fieldLinkNest => exact va_Nw.warmF hW h
  | methodLinkNest => exact va_Nw.warmM hW h
  | declares => exact va_Nw.warmD hW h
  | castable => exact gCst_moved hW.alike h
  | privateMethod => exact Cond.privateMethod_warm hW h
  | _ => cases hp
theorem gNw_same {w : Cond} {s U : State} (hw : w ∈ gNw) (hv : s.vm = U.vm) (h : va_Nw w s) : va_Nw w U := by
  have hp := (List.mem_filter.mp hw).2
  cases w with
  | fieldLinkNest => exact va_Nw.same rfl hv h
  | methodLinkNest => exact va_Nw.same rfl hv h
  | declares => exact va_Nw.same rfl hv h
  | castable => exact va_Nw.same rfl hv h
  | privateMethod => exact va_tabs rfl hv h
  | _ => cases hp
theorem gEnv_to {A A1 : Nat → Prop} {adV ad ad1 : Nat → Nat} {s U : State} {H : Heap} {locs : List Loc} (hE : gEnv A adV ad s s.heap) (hW : s.WarmedH U.vm) (hS : va_S A s.heap H locs) (hA : ∀ q, A1 q → A q) (had : ∀ a : Nat, gSB ≤ a → ad1 a = ad a) : gEnv A1 adV ad1 U H := by
  obtain ⟨e1, e2, e3, e4, e5, e6, e7, e6b, e7b, e8, e9, e10, e11, e12, e13⟩ := hE
  refine ⟨fun w hw => gNw_warm hw hW (e1 w hw), fun q hq => ?_, ?_, vx_Zq.moved hW.alike ((e4.kept hS.2.1).narrow hA), vx_Zq.moved hW.alike ((e5.kept hS.2.1).narrow hA), va_AO.moved hW.alike e6, va_AO.moved hW.alike e7, va_AO.moved hW.alike e6b, va_AO.moved hW.alike e7b, va_AO2.moved hW.alike e8, fun q hq => (e9 q hq).moved hW.alike, va_Z.moved hW.alike ((e10.kept hS.2.1).narrow hA), ?_, fun i hi => (had _ (by omega)).trans (e12 i hi), (gDig.moved hW.alike ((e13.kept hS.2.1).narrow hA)).to had⟩
  · rw [had _ (glit_ge q hq)]
    exact vk_R.warm hW (e2 q hq)
  · rw [show (fun i => ad1 (gSB + i)) = (fun i => ad (gSB + i)) from funext fun i => had _ (Nat.le_add_right _ _)]
    exact vk_S.moved hW.alike ((e3.kept hS.2.1).narrow hA)
  · rw [had _ (by omega)]
    exact e11.imp (fun h => va_Z.moved hW.alike ((h.kept hS.2.1).narrow hA)) (fun h => va_Z.moved hW.alike ((h.kept hS.2.1).narrow hA))
theorem gEnv_calling {A : Nat → Prop} {adV ad : Nat → Nat} {U : State} {H : Heap} (g : JFrame) (mk : MethodId) (a : Array Value) (h : gEnv A adV ad U H) : gEnv A adV ad (U.calling g mk a) H := by
  obtain ⟨e1, e2, e3, e4, e5, e6, e7, e6b, e7b, e8, e9, e10, e11, e12, e13⟩ := h
  have hal := Vm.Alike.refl U.vm
  exact ⟨fun w hw => gNw_same (s := U) (U := U.calling g mk a) hw rfl (e1 w hw), fun q hq => vk_R.same (u := U) (U := U.calling g mk a) rfl (e2 q hq), vk_S.moved (U := U.calling g mk a) hal e3, vx_Zq.moved (U := U.calling g mk a) hal e4, vx_Zq.moved (U := U.calling g mk a) hal e5, va_AO.moved (U := U.calling g mk a) hal e6, va_AO.moved (U := U.calling g mk a) hal e7, va_AO.moved (U := U.calling g mk a) hal e6b, va_AO.moved (U := U.calling g mk a) hal e7b, va_AO2.moved (U := U.calling g mk a) hal e8, fun q hq => va_Nc.moved (U := U.calling g mk a) hal (e9 q hq), va_Z.moved (U := U.calling g mk a) hal e10, e11.imp (fun h => va_Z.moved (U := U.calling g mk a) hal h) (fun h => va_Z.moved (U := U.calling g mk a) hal h), e12, gDig.moved (U := U.calling g mk a) hal e13⟩
theorem gBlind {A : Nat → Prop} {D : va_G} {dA : Nat → ClassId} {adV ad : Nat → Nat} {T : gT} {M : gM} {sz : Nat} {av : List Value} : FrameBlind (va_Pc av (gIn A D dA adV ad T M sz)) := by
  intro a U g mk ⟨q1, q2, q3, q4, q5, q6, q7⟩
  exact ⟨q1, q2, q3, q4, q5, va_K.moved (u := U) (U := U.calling g mk a) (Vm.Alike.refl U.vm) q6, gEnv_calling g mk a q7⟩
theorem gA_sub {Z : gZ} {ad : Nat → Nat} {T : gT} {M : gM} {H : Heap} {locs : List Loc} {s : State} (hR : gRp Z ad T M H locs) (hH : Z.2.2.1 = s.heap) (hA : ∀ q : Nat, s.heap.size ≤ q → Z.2.1 q) : ∀ q, gA ad T.length H.size q → Z.2.1 q := by
  rintro q (⟨a, ha, rfl⟩ | h)
  · obtain ⟨sh, hsh⟩ : ∃ sh, T[a]? = some sh := ⟨T[a], List.getElem?_eq_getElem ha⟩
    exact hR.2.1.2 a _ (gW_get hsh)
  · exact hA q (Nat.le_trans (by have := hR.2.2.1.1; rw [hH] at this; exact this) h)
/-- the callee may begin -/
theorem gIn_of {Z : gZ} {ad : Nat → Nat} {T : gT} {M : gM} {H : Heap} {locs : List Loc} {s U : State} {adV : Nat → Nat} (hR : gRp Z ad T M H locs) (hH : Z.2.2.1 = s.heap) (hA : ∀ q : Nat, s.heap.size ≤ q → Z.2.1 q) (hK : va_K Z.2.2.2.1 vwCl (gTy Z.2.2.2.2.1) s) (hE : gEnv Z.2.1 adV Z.2.2.2.2.2.2 s s.heap) (hU : U.heap = H) (hW : s.WarmedH U.vm) :
    gIn (gA ad T.length H.size) Z.2.2.2.1 Z.2.2.2.2.1 adV ad T M H.size U := by
  have hS := hR.2.2.1
  rw [hH] at hS
  refine ⟨by rw [hU], by rw [hU]; exact hR.1, hR.2.1.weaken (fun k q hk _ => ?_), hR.2.2.2.1, va_K.moved hW.alike hK, by rw [hU]; exact gEnv_to hE hW hS (gA_sub hR hH hA) hR.2.2.2.2⟩
  obtain ⟨sh, h1, h2⟩ := gW_inv hk
  exact Or.inl ⟨k, (List.getElem?_eq_some_iff.mp h1).1, by rw [h2]⟩
section GE
variable {d : Nat} {y : MethodName} {cc : ByteArray} {nL : Nat} {rt : Option FieldType} {mc ms : Nat} {av : List Value} {T : gT} {M : gM} {Acc : gAcc}
theorem gmp_args (ad : Nat → Nat) : ∀ (av : List Value) (i : Nat), lv_args i (av.map (gv ad)) = gmp ad (lv_args i av)
  | [], _ => rfl
  | v :: vs, i => by
    show (i, gv ad v) :: lv_args (if (gv ad v).category = 2 then i + 2 else i + 1) (vs.map (gv ad)) = (i, gv ad v) :: gmp ad (lv_args (if v.category = 2 then i + 2 else i + 1) vs)
    rw [gv_cat, gmp_args ad vs]
theorem glg_len (ad : Nat → Nat) : ∀ (av : List Value), (lg_sl (av.map (gv ad))).length = (lg_sl av).length
  | [] => rfl
  | v :: vs => by
    have ih := glg_len ad vs
    simp only [lg_sl, List.map_cons, List.flatMap_cons, List.length_append] at ih ⊢
    rw [ih, gv_cat]
    split <;> rfl
/-- a contract out of a walk -/
theorem gRet_of {own : String} (hy : plainName y.cls = true) (hcls : y.cls = own) (hlen : (lg_sl av).length ≤ nL)
    (body : ∀ (Z : gZ) (ad0 : Nat → Nat), Z.2.2.2.2.2.1 = nL → Z.2.2.2.2.2.2 = ad0 → gFix Z cc own y.name rt d mc ms (Acc ad0) (fun _ _ _ _ => False) → gG Z ad0 T M 0 0 0 (lv_args 0 av) []) : gRet d y cc nL rt mc ms av T M Acc := by
  intro l hst D dA adV ad0 sz
  refine Met.ofW (cc := cc) (maxL := nL) (ret := rt) hy rfl ?_
  intro p e s m args below meth c s₁ B hml hv
  obtain ⟨rfl, hsz, hP, hD, hC, hK, hE⟩ := hv
  subst hsz
  have hts := atoms_spec (ws := gWs y cc nL rt) B.pre
  have hown : s.vm.findClass own = some m.cls := by rw [← hcls]; exact findClass_of_methodNamed B.named
  have hnm : meth.name = y.name := (name_of_methodNamed B.named B.method).1
  have hr := B.returns
  have hlocks := B.notSynchronized
  generalize hZ : (((fun H locs ce so pc la st => W p l e ((headSpec (gWs y cc nL rt) { frames := d, cells := mc, slots := ms, locals := 64 * d }).room) s m ((av.map (gv ad0)).toArray) below meth c H locs ce so (MQ below (gOut (gA ad0 T.length s.heap.size) D dA ad0 Acc) ((av.map (gv ad0)).toArray) s mc ms (gA ad0 T.length s.heap.size)) (F0 m pc la st)), gA ad0 T.length s.heap.size, s.heap, D, dA, nL, ad0) : gZ) = Z
  have hb := body Z ad0 (by rw [← hZ]) (by rw [← hZ]) ⟨p, l, e, _, s, m, _, below, meth, c, _, adV, by
    subst hZ
    refine ⟨rfl, B.exec, B.bytes, hml, hown, fun w hw => hts w (List.mem_cons_of_mem _ hw), hK, rfl, fun q hq => Or.inr hq, hE, ⟨Nat.le_refl d, Nat.le_refl _, Nat.le_refl mc, Nat.le_refl ms⟩, hnm, hlocks, hst, ?_, ?_, ?_, ?_, fun _ _ _ _ _ _ _ _ _ _ _ _ _ _ _ _ _ h => h.elim, fun _ _ _ _ _ _ _ _ _ _ _ _ _ _ h => h.elim⟩
    · intro H locs ce so pc la ad T1 M1 x ty hR hrt hn hd ha h1 h2
      refine W.widen h1 h2 ?_
      exact W.zret B.exec B.bytes (hr.trans hrt) hn (fun t ht hW => ⟨⟨some (.int x), ad, T1, M1, rfl, ha, by rw [ht]; exact hR.1, hR.2.1, hR.2.2.2.1, hR.2.2.2.2⟩, hR.2.2.1.F ht⟩) hR.2.2.1.2.2 hd hlocks
    · intro H locs ce so pc la ad T1 M1 x hR hrt hd ha h1 h2
      refine W.widen h1 h2 ?_
      exact W.lret B.exec B.bytes (hr.trans hrt) (fun t ht hW => ⟨⟨some (.long x), ad, T1, M1, rfl, ha, by rw [ht]; exact hR.1, hR.2.1, hR.2.2.2.1, hR.2.2.2.2⟩, hR.2.2.1.F ht⟩) hR.2.2.1.2.2 hd hlocks
    · intro H locs ce so pc la ad T1 M1 a ty hR hrt hty hd ha h1 h2
      refine W.widen h1 h2 ?_
      exact W.aret B.exec B.bytes (hr.trans hrt) hty (Or.inr ⟨_, rfl⟩) (fun t ht hW => ⟨⟨some (.ref a), ad, T1, M1, rfl, ha, by rw [ht]; exact hR.1, hR.2.1, hR.2.2.2.1, hR.2.2.2.2⟩, hR.2.2.1.F ht⟩) hR.2.2.1.2.2 hd hlocks
    · intro H locs ce so pc la ad T1 M1 hR hrt hd ha h1 h2
      refine W.widen h1 h2 ?_
      exact W.vret B.exec B.bytes (hr.trans hrt) (fun t ht hW => ⟨⟨none, ad, T1, M1, rfl, ha, by rw [ht]; exact hR.1, hR.2.1, hR.2.2.2.1, hR.2.2.2.2⟩, hR.2.2.1.F ht⟩) hR.2.2.1.2.2 hd hlocks⟩
  rw [lg_entry_eq]
  have hl := lv_entry (av.map (gv ad0)) (n := nL) (by rw [glg_len]; exact hlen)
  rw [gmp_args] at hl
  subst hZ
  exact hb s.heap [] _ ⟨hP, hD, va_S.rf, hC, fun _ _ => rfl⟩ hl
end GE
/-- behind a call -/
theorem g_after {p : Program} {l : Launch} {e : Env} {R : Room} {s : State} {m : MethodId} {args : Array Value} {below : List Frame} {meth : Method} {c : Code} {H : Heap} {locs : List Loc} {ce so mc ms pc : Nat} {la : Array Slot} {st0 rest : List Value} {a : Array Value} {Q : State → Prop} {Z : gZ} {ad : Nat → Nat} {T : gT} {M : gM} {Acc : gAcc}
    (hr : va_Run p l e R s m args below meth c H locs ce so mc ms (F0 m pc la st0) rest (gOut (gA ad T.length H.size) Z.2.2.2.1 Z.2.2.2.2.1 ad Acc a) (gA ad T.length H.size)) (hR : gRp Z ad T M H locs) (hf : ∀ q, gA ad T.length H.size q → Z.2.1 q)
    (kk : ∀ (v : Option Value) (ad1 : Nat → Nat) (T1 : gT) (M1 : gM) (H1 : Heap) (locs1 : List Loc), Acc ad v ad1 T1 M1 → gRp Z ad1 T1 M1 H1 locs1 → W p l e R s m args below meth c H1 locs1 (ce + mc) (so + ms) Q (F0 m (pc + 3) la ((v.map (gv ad1)).toList ++ rest))) : W p l e R s m args below meth c H locs ce so Q (F0 m pc la st0) := by
  intro T9 hT X
  obtain ⟨v, st₀, t, T', L, h0, X', hL, e1, e2, ⟨⟨v1, ad1, T1, M1, hv, ha, hP, hD, hC, had⟩, hz, hk⟩, st⟩ := hr T9 hT X
  cases hv
  rw [h0] at hz hk
  obtain ⟨t2, a1, b1⟩ := kk v1 ad1 T1 M1 T'.heap (locs ++ L) ha ⟨by rw [e1]; exact hP, hD.weaken (fun k q hq h9 => hf _ h9), ⟨Nat.le_trans hR.2.2.1.1 (by rw [e1]; exact hz), fun q h1 h2 => by rw [e1, hk q (Nat.lt_of_lt_of_le h1 hR.2.2.1.1) (fun z => h2 (hf _ z))]; exact hR.2.2.1.2.1 q h1 h2, fun q hq => by
      rcases List.mem_append.mp hq with h | h
      · exact hR.2.2.1.2.2 q h
      · exact hf _ (hL q h)⟩, hC, fun a ha => (had a ha).trans (hR.2.2.2.2 a ha)⟩ T' rfl X'
  exact ⟨t2, st t2 a1, b1⟩
/-- what the tables say of a method that is called -/
def gMy (y : MethodName) (cc : ByteArray) (nL : Nat) (rt : Option FieldType) (n : Nat) : Prop := Cond.code y cc nL rt ∈ gWS ∧ Cond.initialized y.cls ∈ gWS ∧ (y.cls ≠ "java/lang/invoke/MethodHandle" ∧ y.cls ≠ "java/lang/invoke/VarHandle") ∧ (parseMethodDescriptor y.desc).map (fun d => d.parameters.length) = some n ∧ nL ≤ 45
section GCALL
variable {Z : gZ} {cc : ByteArray} {own nm : String} {rt : Option FieldType} {d mc ms : Nat} {Acc : Option Value → (Nat → Nat) → gT → gM → Prop} {AccX : Nat → (Nat → Nat) → gT → gM → Prop} {ad : Nat → Nat} {T : gT} {M : gM} {ce so pc : Nat} {ls : List (Nat × Value)} {st st0 : List Value}
variable {y : MethodName} {cc' : ByteArray} {nL' n idx mc' ms' d' : Nat} {rt' : Option FieldType} {as : List Value} {Acc' : gAcc}
theorem g_callV (hF : gFix Z cc own nm rt d mc ms Acc AccX) {b ci : Nat} {C : String} (hm : gMy y cc' nL' rt' n) (hlk : Cond.methodLink own idx y ∈ gWS) (hin : Cond.instanceMethod y ∈ gWS) (hse : Cond.selects C y y ∈ gWS) {TT : u_T} {N : Nat} (hC : vwCl[ci]? = some (C, TT, N)) (hci : gOb ci) {len9 : Nat} (hTb : T[b]? = some (ci, len9)) (hc : gRet d' y cc' nL' rt' mc' ms' (.ref b :: as) T M Acc') (hdd : d' + 1 ≤ d) (hmc : ce + mc' ≤ mc) (hms : so + ms' ≤ ms) (hn : as.length = n) (hst0 : st0 = as.reverse ++ .ref b :: st) (hcat : (st.map fun v => v.category).sum ≤ 8) (hd : decode cc pc = .ok (.invokevirtual idx, 3))
    (k : ∀ (v : Option Value) (ad1 : Nat → Nat) (T1 : gT) (M1 : gM), Acc' ad v ad1 T1 M1 → (∀ a : Nat, gSB ≤ a → ad1 a = ad a) → ∀ H locs la, gRp Z ad1 T1 M1 H locs → lv_has la Z.2.2.2.2.2.1 (gmp ad ls) → Z.1 H locs (ce + mc') (so + ms') (pc + 3) la ((v.map (gv ad1)).toList ++ st.map (gv ad))) : gG Z ad T M ce so pc ls st0 := by
  obtain ⟨p, l, e, R, s, m, args, below, meth, c, Q, adV, hKq, hx, hb, hml, hown, hts, hK, hH, hA, hE, hRm, hnm, hlk9, hst, -⟩ := hF
  intro H locs la hR hl
  subst hst0
  have k := fun v ad1 T1 M1 ha had H1 locs1 hR1 => k v ad1 T1 M1 ha had H1 locs1 la hR1 hl
  rw [hKq] at k ⊢
  dsimp only at k ⊢
  obtain ⟨hm1, hm2, hm3, hm4, hm5⟩ := hm
  have hgw := gws_in hm1
  have hroom : d' + 1 ≤ R.frames ∧ 8 + (nL' + 11) + 64 * d' ≤ R.locals := ⟨by have := hRm.1; omega, by have := hRm.2.1; omega⟩
  have hlen : (as.map (gv ad)).length = n := by rw [List.length_map]; exact hn
  have hrest : (((st.map (gv ad)).map fun v => v.category).sum) ≤ 8 := by
    rw [List.map_map, show ((fun v : Value => v.category) ∘ gv ad) = (fun v => v.category) from funext fun v => gv_cat ad v]
    exact hcat
  have hbd : ce + mc' ≤ R.cells ∧ so + ms' ≤ R.slots := ⟨Nat.le_trans hmc hRm.2.2.1, Nat.le_trans hms hRm.2.2.2⟩
  have hrecv : ∃ cellB : Cell, H[ad b]? = some cellB ∧ cellB.vm.isStatics = false ∧ s.vm.findClass C = some cellB.cls := by
    have he := gW_get (dA := Z.2.2.2.2.1) (ad := ad) (M := M) hTb
    rw [gE_obj hci] at he
    exact va_recv hK hR.1 hC he
  have hcb := callB_of (R := R) (rm := { frames := d', cells := mc', slots := ms', locals := 64 * d' }) (mc := mc') (ms := ms') n hts hgw rfl rfl rfl (hts _ hm2) (hts _ hlk) ⟨hm3.1, hm3.2, hm4⟩ hroom
  have hrun := va_runV (e := e) (below := below) (meth := meth) (H := H) (locs := locs) (cells := ce) (slots := so) (b := ad b) (As := as.map (gv ad)) (rest := st.map (gv ad)) (g := F0 m pc la ((as.reverse ++ .ref b :: st).map (gv ad))) ⟨hx, hb, hml, hown, hts⟩ (hc l hst Z.2.2.2.1 Z.2.2.2.2.1 adV ad H.size) ⟨hcb, hts _ hin, hts _ hse⟩ ⟨gBlind, hrecv, fun U hU hW => ⟨rfl, gIn_of hR hH hA hK hE hU hW⟩⟩ rfl hlen hl.1 (by show (as.reverse ++ .ref b :: st).map (gv ad) = _; rw [List.map_append, List.map_reverse]; rfl) (lv_room (pc := pc) (ls := la) (rest := (as.reverse ++ .ref b :: st).map (gv ad)) (m := m) hrest) hd hbd
  exact g_after hrun hR (gA_sub hR hH hA) (fun v ad1 T1 M1 H1 locs1 ha hR1 => k v ad1 T1 M1 ha (fun a q => (hR1.2.2.2.2 a q).trans (hR.2.2.2.2 a q).symm) H1 locs1 hR1)

theorem g_callVSt (hF : gFix Z cc own nm rt d mc ms Acc AccX) {b i : Nat} (hm : gMy y cc' nL' rt' n) (hlk : Cond.methodLink own idx y ∈ gWS) (hin : Cond.instanceMethod y ∈ gWS) (hse : Cond.selects "java/lang/String" y y ∈ gWS) (hi : i < 34) (hbi : b = gSB + i) (hc : gRet d' y cc' nL' rt' mc' ms' (.ref b :: as) T M Acc') (hdd : d' + 1 ≤ d) (hmc : ce + mc' ≤ mc) (hms : so + ms' ≤ ms) (hn : as.length = n) (hst0 : st0 = as.reverse ++ .ref b :: st) (hcat : (st.map fun v => v.category).sum ≤ 8) (hd : decode cc pc = .ok (.invokevirtual idx, 3))
    (k : ∀ (v : Option Value) (ad1 : Nat → Nat) (T1 : gT) (M1 : gM), Acc' ad v ad1 T1 M1 → (∀ a : Nat, gSB ≤ a → ad1 a = ad a) → ∀ H locs la, gRp Z ad1 T1 M1 H locs → lv_has la Z.2.2.2.2.2.1 (gmp ad ls) → Z.1 H locs (ce + mc') (so + ms') (pc + 3) la ((v.map (gv ad1)).toList ++ st.map (gv ad))) : gG Z ad T M ce so pc ls st0 := by
  obtain ⟨p, l, e, R, s, m, args, below, meth, c, Q, adV, hKq, hx, hb, hml, hown, hts, hK, hH, hA, hE, hRm, hnm, hlk9, hst, -⟩ := hF
  intro H locs la hR hl
  subst hst0
  have k := fun v ad1 T1 M1 ha had H1 locs1 hR1 => k v ad1 T1 M1 ha had H1 locs1 la hR1 hl
  rw [hKq] at k ⊢
  dsimp only at k ⊢
  obtain ⟨hm1, hm2, hm3, hm4, hm5⟩ := hm
  have hgw := gws_in hm1
  have hroom : d' + 1 ≤ R.frames ∧ 8 + (nL' + 11) + 64 * d' ≤ R.locals := ⟨by have := hRm.1; omega, by have := hRm.2.1; omega⟩
  have hlen : (as.map (gv ad)).length = n := by rw [List.length_map]; exact hn
  have hrest : (((st.map (gv ad)).map fun v => v.category).sum) ≤ 8 := by
    rw [List.map_map, show ((fun v : Value => v.category) ∘ gv ad) = (fun v => v.category) from funext fun v => gv_cat ad v]
    exact hcat
  have hbd : ce + mc' ≤ R.cells ∧ so + ms' ≤ R.slots := ⟨Nat.le_trans hmc hRm.2.2.1, Nat.le_trans hms hRm.2.2.2⟩
  have hrecv : ∃ cellB : Cell, H[ad b]? = some cellB ∧ cellB.vm.isStatics = false ∧ s.vm.findClass "java/lang/String" = some cellB.cls := by
    have hS9 := hR.2.2.1
    rw [hH] at hS9
    rw [hbi, hR.2.2.2.2 _ (Nat.le_add_right _ _)]
    exact vk_recv (i := i) (adK := fun j => Z.2.2.2.2.2.2 (gSB + j)) hE.2.2.1 hi hS9
  have hcb := callB_of (R := R) (rm := { frames := d', cells := mc', slots := ms', locals := 64 * d' }) (mc := mc') (ms := ms') n hts hgw rfl rfl rfl (hts _ hm2) (hts _ hlk) ⟨hm3.1, hm3.2, hm4⟩ hroom
  have hrun := va_runV (e := e) (below := below) (meth := meth) (H := H) (locs := locs) (cells := ce) (slots := so) (b := ad b) (As := as.map (gv ad)) (rest := st.map (gv ad)) (g := F0 m pc la ((as.reverse ++ .ref b :: st).map (gv ad))) ⟨hx, hb, hml, hown, hts⟩ (hc l hst Z.2.2.2.1 Z.2.2.2.2.1 adV ad H.size) ⟨hcb, hts _ hin, hts _ hse⟩ ⟨gBlind, hrecv, fun U hU hW => ⟨rfl, gIn_of hR hH hA hK hE hU hW⟩⟩ rfl hlen hl.1 (by show (as.reverse ++ .ref b :: st).map (gv ad) = _; rw [List.map_append, List.map_reverse]; rfl) (lv_room (pc := pc) (ls := la) (rest := (as.reverse ++ .ref b :: st).map (gv ad)) (m := m) hrest) hd hbd
  exact g_after hrun hR (gA_sub hR hH hA) (fun v ad1 T1 M1 H1 locs1 ha hR1 => k v ad1 T1 M1 ha (fun a q => (hR1.2.2.2.2 a q).trans (hR.2.2.2.2 a q).symm) H1 locs1 hR1)

theorem g_callVN (hF : gFix Z cc own nm rt d mc ms Acc AccX) {b ci : Nat} {C : String} (hm : gMy y cc' nL' rt' n) {host : String} (hlk : Cond.methodLinkNest own idx y host ∈ gNw) (hin : Cond.instanceMethod y ∈ gWS) (hse : Cond.selects C y y ∈ gWS) {TT : u_T} {N : Nat} (hC : vwCl[ci]? = some (C, TT, N)) (hci : gOb ci) {len9 : Nat} (hTb : T[b]? = some (ci, len9)) (hc : gRet d' y cc' nL' rt' mc' ms' (.ref b :: as) T M Acc') (hdd : d' + 1 ≤ d) (hmc : ce + mc' ≤ mc) (hms : so + ms' ≤ ms) (hn : as.length = n) (hst0 : st0 = as.reverse ++ .ref b :: st) (hcat : (st.map fun v => v.category).sum ≤ 8) (hd : decode cc pc = .ok (.invokevirtual idx, 3))
    (k : ∀ (v : Option Value) (ad1 : Nat → Nat) (T1 : gT) (M1 : gM), Acc' ad v ad1 T1 M1 → (∀ a : Nat, gSB ≤ a → ad1 a = ad a) → ∀ H locs la, gRp Z ad1 T1 M1 H locs → lv_has la Z.2.2.2.2.2.1 (gmp ad ls) → Z.1 H locs (ce + mc') (so + ms') (pc + 3) la ((v.map (gv ad1)).toList ++ st.map (gv ad))) : gG Z ad T M ce so pc ls st0 := by
  obtain ⟨p, l, e, R, s, m, args, below, meth, c, Q, adV, hKq, hx, hb, hml, hown, hts, hK, hH, hA, hE, hRm, hnm, hlk9, hst, -⟩ := hF
  intro H locs la hR hl
  subst hst0
  have k := fun v ad1 T1 M1 ha had H1 locs1 hR1 => k v ad1 T1 M1 ha had H1 locs1 la hR1 hl
  rw [hKq] at k ⊢
  dsimp only at k ⊢
  obtain ⟨hm1, hm2, hm3, hm4, hm5⟩ := hm
  have hgw := gws_in hm1
  have hroom : d' + 1 ≤ R.frames ∧ 8 + (nL' + 11) + 64 * d' ≤ R.locals := ⟨by have := hRm.1; omega, by have := hRm.2.1; omega⟩
  have hlen : (as.map (gv ad)).length = n := by rw [List.length_map]; exact hn
  have hrest : (((st.map (gv ad)).map fun v => v.category).sum) ≤ 8 := by
    rw [List.map_map, show ((fun v : Value => v.category) ∘ gv ad) = (fun v => v.category) from funext fun v => gv_cat ad v]
    exact hcat
  have hbd : ce + mc' ≤ R.cells ∧ so + ms' ≤ R.slots := ⟨Nat.le_trans hmc hRm.2.2.1, Nat.le_trans hms hRm.2.2.2⟩
  have hrecv : ∃ cellB : Cell, H[ad b]? = some cellB ∧ cellB.vm.isStatics = false ∧ s.vm.findClass C = some cellB.cls := by
    have he := gW_get (dA := Z.2.2.2.2.1) (ad := ad) (M := M) hTb
    rw [gE_obj hci] at he
    exact va_recv hK hR.1 hC he
  have hcb := va_cnB (R := R) (rm := { frames := d', cells := mc', slots := ms', locals := 64 * d' }) (mc := mc') (ms := ms') n hts hgw rfl rfl rfl (hE.1 _ hlk) (hts _ hm2) ⟨hm3.1, hm3.2, hm4⟩ hroom
  have hrun := va_runVN (e := e) (below := below) (meth := meth) (H := H) (locs := locs) (cells := ce) (slots := so) (b := ad b) (As := as.map (gv ad)) (rest := st.map (gv ad)) (g := F0 m pc la ((as.reverse ++ .ref b :: st).map (gv ad))) ⟨hx, hb, hml, hown, hts⟩ (hc l hst Z.2.2.2.1 Z.2.2.2.2.1 adV ad H.size) ⟨hcb, hts _ hin, hts _ hse⟩ ⟨gBlind, hrecv, fun U hU hW => ⟨rfl, gIn_of hR hH hA hK hE hU hW⟩⟩ rfl hlen hl.1 (by show (as.reverse ++ .ref b :: st).map (gv ad) = _; rw [List.map_append, List.map_reverse]; rfl) (lv_room (pc := pc) (ls := la) (rest := (as.reverse ++ .ref b :: st).map (gv ad)) (m := m) hrest) hd hbd
  exact g_after hrun hR (gA_sub hR hH hA) (fun v ad1 T1 M1 H1 locs1 ha hR1 => k v ad1 T1 M1 ha (fun a q => (hR1.2.2.2.2 a q).trans (hR.2.2.2.2 a q).symm) H1 locs1 hR1)

theorem g_callS (hF : gFix Z cc own nm rt d mc ms Acc AccX) (hm : gMy y cc' nL' rt' n) (hlk : Cond.methodLink own idx y ∈ gWS) (hsta : Cond.static y ∈ gWS) (hc : gRet d' y cc' nL' rt' mc' ms' as T M Acc') (hdd : d' + 1 ≤ d) (hmc : ce + mc' ≤ mc) (hms : so + ms' ≤ ms) (hn : as.length = n) (hst0 : st0 = as.reverse ++ st) (hcat : (st.map fun v => v.category).sum ≤ 8) (hd : decode cc pc = .ok (.invokestatic idx, 3))
    (k : ∀ (v : Option Value) (ad1 : Nat → Nat) (T1 : gT) (M1 : gM), Acc' ad v ad1 T1 M1 → (∀ a : Nat, gSB ≤ a → ad1 a = ad a) → ∀ H locs la, gRp Z ad1 T1 M1 H locs → lv_has la Z.2.2.2.2.2.1 (gmp ad ls) → Z.1 H locs (ce + mc') (so + ms') (pc + 3) la ((v.map (gv ad1)).toList ++ st.map (gv ad))) : gG Z ad T M ce so pc ls st0 := by
  obtain ⟨p, l, e, R, s, m, args, below, meth, c, Q, adV, hKq, hx, hb, hml, hown, hts, hK, hH, hA, hE, hRm, hnm, hlk9, hst, -⟩ := hF
  intro H locs la hR hl
  subst hst0
  have k := fun v ad1 T1 M1 ha had H1 locs1 hR1 => k v ad1 T1 M1 ha had H1 locs1 la hR1 hl
  rw [hKq] at k ⊢
  dsimp only at k ⊢
  obtain ⟨hm1, hm2, hm3, hm4, hm5⟩ := hm
  have hgw := gws_in hm1
  have hroom : d' + 1 ≤ R.frames ∧ 8 + (nL' + 11) + 64 * d' ≤ R.locals := ⟨by have := hRm.1; omega, by have := hRm.2.1; omega⟩
  have hlen : (as.map (gv ad)).length = n := by rw [List.length_map]; exact hn
  have hrest : (((st.map (gv ad)).map fun v => v.category).sum) ≤ 8 := by
    rw [List.map_map, show ((fun v : Value => v.category) ∘ gv ad) = (fun v => v.category) from funext fun v => gv_cat ad v]
    exact hcat
  have hbd : ce + mc' ≤ R.cells ∧ so + ms' ≤ R.slots := ⟨Nat.le_trans hmc hRm.2.2.1, Nat.le_trans hms hRm.2.2.2⟩
  have hcb := callB_of (R := R) (rm := { frames := d', cells := mc', slots := ms', locals := 64 * d' }) (mc := mc') (ms := ms') n hts hgw rfl rfl rfl (hts _ hm2) (hts _ hlk) ⟨hm3.1, hm3.2, hm4⟩ hroom
  have hrun := va_runS (e := e) (below := below) (meth := meth) (H := H) (locs := locs) (cells := ce) (slots := so) (As := as.map (gv ad)) (rest := st.map (gv ad)) (g := F0 m pc la ((as.reverse ++ st).map (gv ad))) ⟨hx, hb, hml, hown, hts⟩ (hc l hst Z.2.2.2.1 Z.2.2.2.2.1 adV ad H.size) ⟨hcb, hts _ hsta⟩ ⟨gBlind, fun U hU hW => ⟨rfl, gIn_of hR hH hA hK hE hU hW⟩⟩ rfl hlen hl.1 (by show (as.reverse ++ st).map (gv ad) = _; rw [List.map_append, List.map_reverse]) (lv_room (pc := pc) (ls := la) (rest := (as.reverse ++ st).map (gv ad)) (m := m) hrest) hd hbd
  exact g_after hrun hR (gA_sub hR hH hA) (fun v ad1 T1 M1 H1 locs1 ha hR1 => k v ad1 T1 M1 ha (fun a q => (hR1.2.2.2.2 a q).trans (hR.2.2.2.2 a q).symm) H1 locs1 hR1)

theorem g_callSN (hF : gFix Z cc own nm rt d mc ms Acc AccX) (hm : gMy y cc' nL' rt' n) {host : String} (hlk : Cond.methodLinkNest own idx y host ∈ gNw) (hsta : Cond.static y ∈ gWS) (hc : gRet d' y cc' nL' rt' mc' ms' as T M Acc') (hdd : d' + 1 ≤ d) (hmc : ce + mc' ≤ mc) (hms : so + ms' ≤ ms) (hn : as.length = n) (hst0 : st0 = as.reverse ++ st) (hcat : (st.map fun v => v.category).sum ≤ 8) (hd : decode cc pc = .ok (.invokestatic idx, 3))
    (k : ∀ (v : Option Value) (ad1 : Nat → Nat) (T1 : gT) (M1 : gM), Acc' ad v ad1 T1 M1 → (∀ a : Nat, gSB ≤ a → ad1 a = ad a) → ∀ H locs la, gRp Z ad1 T1 M1 H locs → lv_has la Z.2.2.2.2.2.1 (gmp ad ls) → Z.1 H locs (ce + mc') (so + ms') (pc + 3) la ((v.map (gv ad1)).toList ++ st.map (gv ad))) : gG Z ad T M ce so pc ls st0 := by
  obtain ⟨p, l, e, R, s, m, args, below, meth, c, Q, adV, hKq, hx, hb, hml, hown, hts, hK, hH, hA, hE, hRm, hnm, hlk9, hst, -⟩ := hF
  intro H locs la hR hl
  subst hst0
  have k := fun v ad1 T1 M1 ha had H1 locs1 hR1 => k v ad1 T1 M1 ha had H1 locs1 la hR1 hl
  rw [hKq] at k ⊢
  dsimp only at k ⊢
  obtain ⟨hm1, hm2, hm3, hm4, hm5⟩ := hm
  have hgw := gws_in hm1
  have hroom : d' + 1 ≤ R.frames ∧ 8 + (nL' + 11) + 64 * d' ≤ R.locals := ⟨by have := hRm.1; omega, by have := hRm.2.1; omega⟩
  have hlen : (as.map (gv ad)).length = n := by rw [List.length_map]; exact hn
  have hrest : (((st.map (gv ad)).map fun v => v.category).sum) ≤ 8 := by
    rw [List.map_map, show ((fun v : Value => v.category) ∘ gv ad) = (fun v => v.category) from funext fun v => gv_cat ad v]
    exact hcat
  have hbd : ce + mc' ≤ R.cells ∧ so + ms' ≤ R.slots := ⟨Nat.le_trans hmc hRm.2.2.1, Nat.le_trans hms hRm.2.2.2⟩
  have hcb := va_cnB (R := R) (rm := { frames := d', cells := mc', slots := ms', locals := 64 * d' }) (mc := mc') (ms := ms') n hts hgw rfl rfl rfl (hE.1 _ hlk) (hts _ hm2) ⟨hm3.1, hm3.2, hm4⟩ hroom
  have hrun := va_runSN (e := e) (below := below) (meth := meth) (H := H) (locs := locs) (cells := ce) (slots := so) (As := as.map (gv ad)) (rest := st.map (gv ad)) (g := F0 m pc la ((as.reverse ++ st).map (gv ad))) ⟨hx, hb, hml, hown, hts⟩ (hc l hst Z.2.2.2.1 Z.2.2.2.2.1 adV ad H.size) ⟨hcb, hts _ hsta, trivial⟩ ⟨gBlind, fun U hU hW => ⟨rfl, gIn_of hR hH hA hK hE hU hW⟩⟩ rfl hlen hl.1 (by show (as.reverse ++ st).map (gv ad) = _; rw [List.map_append, List.map_reverse]) (lv_room (pc := pc) (ls := la) (rest := (as.reverse ++ st).map (gv ad)) (m := m) hrest) hd hbd
  exact g_after hrun hR (gA_sub hR hH hA) (fun v ad1 T1 M1 H1 locs1 ha hR1 => k v ad1 T1 M1 ha (fun a q => (hR1.2.2.2.2 a q).trans (hR.2.2.2.2 a q).symm) H1 locs1 hR1)

theorem g_callI (hF : gFix Z cc own nm rt d mc ms Acc AccX) {b ci : Nat} {C : String} (hm : gMy y cc' nL' none n) (hlk : Cond.methodLink own idx y ∈ gWS) (hin : Cond.instanceMethod y ∈ gWS) (hin0 : y.name = "<init>") {TT : u_T} {N : Nat} (hC : vwCl[ci]? = some (C, TT, N)) (hci : gOb ci) {len9 : Nat} (hTb : T[b]? = some (ci, len9)) (hc : gRet d' y cc' nL' none mc' ms' (.ref b :: as) T M Acc') (hdd : d' + 1 ≤ d) (hmc : ce + mc' ≤ mc) (hms : so + ms' ≤ ms) (hn : as.length = n) (hst0 : st0 = as.reverse ++ .ref b :: st) (hcat : (st.map fun v => v.category).sum ≤ 8) (hd : decode cc pc = .ok (.invokespecial idx, 3))
    (k : ∀ (v : Option Value) (ad1 : Nat → Nat) (T1 : gT) (M1 : gM), Acc' ad v ad1 T1 M1 → (∀ a : Nat, gSB ≤ a → ad1 a = ad a) → ∀ H locs la, gRp Z ad1 T1 M1 H locs → lv_has la Z.2.2.2.2.2.1 (gmp ad ls) → Z.1 H locs (ce + mc') (so + ms') (pc + 3) la ((v.map (gv ad1)).toList ++ st.map (gv ad))) : gG Z ad T M ce so pc ls st0 := by
  obtain ⟨p, l, e, R, s, m, args, below, meth, c, Q, adV, hKq, hx, hb, hml, hown, hts, hK, hH, hA, hE, hRm, hnm, hlk9, hst, -⟩ := hF
  intro H locs la hR hl
  subst hst0
  have k := fun v ad1 T1 M1 ha had H1 locs1 hR1 => k v ad1 T1 M1 ha had H1 locs1 la hR1 hl
  rw [hKq] at k ⊢
  dsimp only at k ⊢
  obtain ⟨hm1, hm2, hm3, hm4, hm5⟩ := hm
  have hgw := gws_in hm1
  have hroom : d' + 1 ≤ R.frames ∧ 8 + (nL' + 11) + 64 * d' ≤ R.locals := ⟨by have := hRm.1; omega, by have := hRm.2.1; omega⟩
  have hlen : (as.map (gv ad)).length = n := by rw [List.length_map]; exact hn
  have hrest : (((st.map (gv ad)).map fun v => v.category).sum) ≤ 8 := by
    rw [List.map_map, show ((fun v : Value => v.category) ∘ gv ad) = (fun v => v.category) from funext fun v => gv_cat ad v]
    exact hcat
  have hbd : ce + mc' ≤ R.cells ∧ so + ms' ≤ R.slots := ⟨Nat.le_trans hmc hRm.2.2.1, Nat.le_trans hms hRm.2.2.2⟩
  have hrecv : ∃ cellB : Cell, H[ad b]? = some cellB ∧ cellB.vm.isStatics = false ∧ s.vm.findClass C = some cellB.cls := by
    have he := gW_get (dA := Z.2.2.2.2.1) (ad := ad) (M := M) hTb
    rw [gE_obj hci] at he
    exact va_recv hK hR.1 hC he
  have hcb := callB_of (R := R) (rm := { frames := d', cells := mc', slots := ms', locals := 64 * d' }) (mc := mc') (ms := ms') n hts hgw rfl rfl rfl (hts _ hm2) (hts _ hlk) ⟨hm3.1, hm3.2, hm4⟩ hroom
  have hrun := va_runI (e := e) (below := below) (meth := meth) (H := H) (locs := locs) (cells := ce) (slots := so) (b := ad b) (As := as.map (gv ad)) (rest := st.map (gv ad)) (g := F0 m pc la ((as.reverse ++ .ref b :: st).map (gv ad))) ⟨hx, hb, hml, hown, hts⟩ (hc l hst Z.2.2.2.1 Z.2.2.2.2.1 adV ad H.size) ⟨hcb, hin0, hts _ hin⟩ ⟨gBlind, fun U hU hW => ⟨rfl, gIn_of hR hH hA hK hE hU hW⟩⟩ rfl hlen hl.1 (by show (as.reverse ++ .ref b :: st).map (gv ad) = _; rw [List.map_append, List.map_reverse]; rfl) (lv_room (pc := pc) (ls := la) (rest := (as.reverse ++ .ref b :: st).map (gv ad)) (m := m) hrest) hd hbd
  exact g_after hrun hR (gA_sub hR hH hA) (fun v ad1 T1 M1 H1 locs1 ha hR1 => k v ad1 T1 M1 ha (fun a q => (hR1.2.2.2.2 a q).trans (hR.2.2.2.2 a q).symm) H1 locs1 hR1)

theorem g_callIN (hF : gFix Z cc own nm rt d mc ms Acc AccX) {b ci : Nat} {C : String} (hm : gMy y cc' nL' none n) {host : String} (hlk : Cond.methodLinkNest own idx y host ∈ gNw) (hin : Cond.instanceMethod y ∈ gWS) (hin0 : y.name = "<init>") {TT : u_T} {N : Nat} (hC : vwCl[ci]? = some (C, TT, N)) (hci : gOb ci) {len9 : Nat} (hTb : T[b]? = some (ci, len9)) (hc : gRet d' y cc' nL' none mc' ms' (.ref b :: as) T M Acc') (hdd : d' + 1 ≤ d) (hmc : ce + mc' ≤ mc) (hms : so + ms' ≤ ms) (hn : as.length = n) (hst0 : st0 = as.reverse ++ .ref b :: st) (hcat : (st.map fun v => v.category).sum ≤ 8) (hd : decode cc pc = .ok (.invokespecial idx, 3))
    (k : ∀ (v : Option Value) (ad1 : Nat → Nat) (T1 : gT) (M1 : gM), Acc' ad v ad1 T1 M1 → (∀ a : Nat, gSB ≤ a → ad1 a = ad a) → ∀ H locs la, gRp Z ad1 T1 M1 H locs → lv_has la Z.2.2.2.2.2.1 (gmp ad ls) → Z.1 H locs (ce + mc') (so + ms') (pc + 3) la ((v.map (gv ad1)).toList ++ st.map (gv ad))) : gG Z ad T M ce so pc ls st0 := by
  obtain ⟨p, l, e, R, s, m, args, below, meth, c, Q, adV, hKq, hx, hb, hml, hown, hts, hK, hH, hA, hE, hRm, hnm, hlk9, hst, -⟩ := hF
  intro H locs la hR hl
  subst hst0
  have k := fun v ad1 T1 M1 ha had H1 locs1 hR1 => k v ad1 T1 M1 ha had H1 locs1 la hR1 hl
  rw [hKq] at k ⊢
  dsimp only at k ⊢
  obtain ⟨hm1, hm2, hm3, hm4, hm5⟩ := hm
  have hgw := gws_in hm1
  have hroom : d' + 1 ≤ R.frames ∧ 8 + (nL' + 11) + 64 * d' ≤ R.locals := ⟨by have := hRm.1; omega, by have := hRm.2.1; omega⟩
  have hlen : (as.map (gv ad)).length = n := by rw [List.length_map]; exact hn
  have hrest : (((st.map (gv ad)).map fun v => v.category).sum) ≤ 8 := by
    rw [List.map_map, show ((fun v : Value => v.category) ∘ gv ad) = (fun v => v.category) from funext fun v => gv_cat ad v]
    exact hcat
  have hbd : ce + mc' ≤ R.cells ∧ so + ms' ≤ R.slots := ⟨Nat.le_trans hmc hRm.2.2.1, Nat.le_trans hms hRm.2.2.2⟩
  have hrecv : ∃ cellB : Cell, H[ad b]? = some cellB ∧ cellB.vm.isStatics = false ∧ s.vm.findClass C = some cellB.cls := by
    have he := gW_get (dA := Z.2.2.2.2.1) (ad := ad) (M := M) hTb
    rw [gE_obj hci] at he
    exact va_recv hK hR.1 hC he
  have hcb := va_cnB (R := R) (rm := { frames := d', cells := mc', slots := ms', locals := 64 * d' }) (mc := mc') (ms := ms') n hts hgw rfl rfl rfl (hE.1 _ hlk) (hts _ hm2) ⟨hm3.1, hm3.2, hm4⟩ hroom
  have hrun := va_runIN (e := e) (below := below) (meth := meth) (H := H) (locs := locs) (cells := ce) (slots := so) (b := ad b) (As := as.map (gv ad)) (rest := st.map (gv ad)) (g := F0 m pc la ((as.reverse ++ .ref b :: st).map (gv ad))) ⟨hx, hb, hml, hown, hts⟩ (hc l hst Z.2.2.2.1 Z.2.2.2.2.1 adV ad H.size) ⟨hcb, hin0, hts _ hin⟩ ⟨gBlind, fun U hU hW => ⟨rfl, gIn_of hR hH hA hK hE hU hW⟩⟩ rfl hlen hl.1 (by show (as.reverse ++ .ref b :: st).map (gv ad) = _; rw [List.map_append, List.map_reverse]; rfl) (lv_room (pc := pc) (ls := la) (rest := (as.reverse ++ .ref b :: st).map (gv ad)) (m := m) hrest) hd hbd
  exact g_after hrun hR (gA_sub hR hH hA) (fun v ad1 T1 M1 H1 locs1 ha hR1 => k v ad1 T1 M1 ha (fun a q => (hR1.2.2.2.2 a q).trans (hR.2.2.2.2 a q).symm) H1 locs1 hR1)

end GCALL
section GDONE
variable {Z : gZ} {ad : Nat → Nat} {T : gT} {M' : gM} {ce so pc : Nat} {ls : List (Nat × Value)} {st : List Value}
/-- behind a call that made nothing -/
theorem g_same {r : Option Value} (h : gG Z ad T M' ce so pc ls (r.toList ++ st)) : ∀ (v : Option Value) (ad1 : Nat → Nat) (T1 : gT) (M1 : gM), gSame T r M' ad v ad1 T1 M1 → (∀ a : Nat, gSB ≤ a → ad1 a = ad a) → ∀ H locs la, gRp Z ad1 T1 M1 H locs → lv_has la Z.2.2.2.2.2.1 (gmp ad ls) → Z.1 H locs ce so pc la ((v.map (gv ad1)).toList ++ st.map (gv ad)) := by
  rintro v ad1 T1 M1 ⟨rfl, rfl, rfl, rfl⟩ - H locs la hR hl
  have h1 := h H locs la hR hl
  rw [List.map_append] at h1
  cases v with
  | none => exact h1
  | some x => exact h1
end GDONE
