/-! THE CONTEXT of a walk: what a method's frame stands on, hidden behind one word. -/
/-- the exceptions by number -/
def gExN (k : Nat) : String := match k with
  | 1 => "java/lang/IllegalArgumentException"
  | 2 => "java/lang/IndexOutOfBoundsException"
  | _ => "java/lang/IllegalStateException"
/-- the tables' words of a throw -/
def gThr (own : String) (ik ic k : Nat) : Prop := Cond.classLink own ik (gExN k) ∈ gWS ∧ Cond.initialized (gExN k) ∈ gWS ∧ (∀ w ∈ vx_atS own ic (gExN k) ["java/lang/RuntimeException", "java/lang/Exception"], w ∈ gWS ∨ w ∈ gNw) ∧ Bundle.fit (gExN k) = true
def gBase (Z : gZ) (cc : ByteArray) (own nm : String) (rt : Option FieldType) (d mc ms : Nat) (Acc : Option Value → (Nat → Nat) → gT → gM → Prop) (AccX : Nat → (Nat → Nat) → gT → gM → Prop) (p : Program) (l : Launch) (e : Env) (R : Room) (s : State) (m : MethodId) (args : Array Value) (below : List Frame) (meth : Method) (c : Code) (Q : State → Prop) (adV : Nat → Nat) : Prop :=
  Z.1 = (fun H locs ce so pc la st => W p l e R s m args below meth c H locs ce so Q (F0 m pc la st)) ∧ p.tables.exec = Jvm.exec ∧ c.code = cc ∧
  c.maxLocals = Z.2.2.2.2.2.1 ∧ s.vm.findClass own = some m.cls ∧ (∀ w ∈ gWS, w.before args s = true) ∧ va_K Z.2.2.2.1 vwCl (gTy Z.2.2.2.2.1) s ∧ Z.2.2.1 = s.heap ∧ (∀ q : Nat, s.heap.size ≤ q → Z.2.1 q) ∧ gEnv Z.2.1 adV Z.2.2.2.2.2.2 s s.heap ∧
  (d ≤ R.frames ∧ 64 * d ≤ R.locals ∧ mc ≤ R.cells ∧ ms ≤ R.slots) ∧ meth.name = nm ∧ meth.locks = false ∧ l.stackTraces = false ∧
  ((∀ (H : Heap) (locs : List Loc) (ce so pc : Nat) (la : Array Slot) (ad : Nat → Nat) (T : gT) (M : gM) (x : Int32) (ty : FieldType), gRp Z ad T M H locs → rt = some ty → narrow ty (.int x) = .int x → decode cc pc = .ok (.ireturn, 1) → Acc (some (.int x)) ad T M → ce ≤ mc → so ≤ ms → W p l e R s m args below meth c H locs ce so Q (F0 m pc la [.int x])) ∧
   (∀ (H : Heap) (locs : List Loc) (ce so pc : Nat) (la : Array Slot) (ad : Nat → Nat) (T : gT) (M : gM) (x : Int64), gRp Z ad T M H locs → rt = some .long → decode cc pc = .ok (.lreturn, 1) → Acc (some (.long x)) ad T M → ce ≤ mc → so ≤ ms → W p l e R s m args below meth c H locs ce so Q (F0 m pc la [.long x])) ∧
   (∀ (H : Heap) (locs : List Loc) (ce so pc : Nat) (la : Array Slot) (ad : Nat → Nat) (T : gT) (M : gM) (a : Nat) (ty : FieldType), gRp Z ad T M H locs → rt = some ty → ((∃ n, ty = .object n) ∨ ∃ t, ty = .array t) → decode cc pc = .ok (.areturn, 1) → Acc (some (.ref a)) ad T M → ce ≤ mc → so ≤ ms → W p l e R s m args below meth c H locs ce so Q (F0 m pc la [.ref (ad a)])) ∧
   (∀ (H : Heap) (locs : List Loc) (ce so pc : Nat) (la : Array Slot) (ad : Nat → Nat) (T : gT) (M : gM), gRp Z ad T M H locs → rt = none → decode cc pc = .ok (.return_, 1) → Acc none ad T M → ce ≤ mc → so ≤ ms → W p l e R s m args below meth c H locs ce so Q (F0 m pc la [])) ∧
   (∀ (H : Heap) (locs : List Loc) (ce so pc : Nat) (la : Array Slot) (rest : List Value) (ad : Nat → Nat) (T : gT) (M : gM) (k ik is ic : Nat) (text : String) (sa : Nat), gRp Z ad T M H locs → AccX k ad T M → la.size = c.maxLocals → gThr own ik ic k → vk_R own is text sa s → decode cc pc = .ok (.new ik, 3) → decode cc (pc + 3) = .ok (.dup, 1) → decode cc (pc + 4) = .ok (.ldc is, 2) → decode cc (pc + 6) = .ok (.invokespecial ic, 3) → decode cc (pc + 9) = .ok (.athrow, 1) → (rest.map fun v => v.category).sum ≤ 8 → 6 ≤ d → ce + 1 ≤ mc → so + 6 ≤ ms → W p l e R s m args below meth c H locs ce so Q (F0 m pc la rest)) ∧
   (∀ (H : Heap) (locs : List Loc) (ce so pc : Nat) (la : Array Slot) (rest : List Value) (ad : Nat → Nat) (T : gT) (M : gM) (k q : Nat) (cell : Cell), gRp Z ad T M H locs → AccX k ad T M → H[q]? = some cell → cell.vm = .none → s.vm.findClass (gExN k) = some cell.cls → ce ≤ mc → so ≤ ms → vx_W p l e R s m args below meth c H locs ce so Q (F0 m pc la rest) q))
def gFix (Z : gZ) (cc : ByteArray) (own nm : String) (rt : Option FieldType) (d mc ms : Nat) (Acc : Option Value → (Nat → Nat) → gT → gM → Prop) (AccX : Nat → (Nat → Nat) → gT → gM → Prop) : Prop :=
  ∃ (p : Program) (l : Launch) (e : Env) (R : Room) (s : State) (m : MethodId) (args : Array Value) (below : List Frame) (meth : Method) (c : Code) (Q : State → Prop) (adV : Nat → Nat), gBase Z cc own nm rt d mc ms Acc AccX p l e R s m args below meth c Q adV
section GR
variable {Z : gZ} {cc : ByteArray} {own nm : String} {rt : Option FieldType} {d mc ms : Nat} {Acc : Option Value → (Nat → Nat) → gT → gM → Prop} {AccX : Nat → (Nat → Nat) → gT → gM → Prop} {ad : Nat → Nat} {T : gT} {M : gM} {ce so pc : Nat} {ls ls' : List (Nat × Value)} {st : List Value}
theorem gG_wid {k n : Nat} (hF : gFix Z cc own nm rt d mc ms Acc AccX) (h1 : ce ≤ k) (h2 : so ≤ n) (kk : gG Z ad T M k n pc ls st) : gG Z ad T M ce so pc ls st := by
  obtain ⟨p, l, e, R, s, m, args, below, meth, c, Q, adV, hKq, -⟩ := hF
  intro H locs la hR hl
  have kk := kk H locs la hR hl
  rw [hKq] at kk ⊢
  exact W.widen h1 h2 kk
theorem g_iconst (hF : gFix Z cc own nm rt d mc ms Acc AccX) {n : Int} {v : Int32} (hv : Int32.ofInt n = v) (hd : decode cc pc = .ok (.iconst n, 1))
    (k : gG Z ad T M ce so (pc + 1) ls (.int v :: st)) : gG Z ad T M ce so pc ls (st) := by
  obtain ⟨p, l, e, R, s, m, args, below, meth, c, Q, adV, hKq, hx, hb, hml, hown, hts, hK, hH, hA, hE, hRm, hnm, hlk, -⟩ := hF
  intro H locs la hR hl
  have k := k H locs la hR hl
  rw [hKq] at k ⊢
  exact lv_iconst hx hb hd hv k
theorem g_bipush (hF : gFix Z cc own nm rt d mc ms Acc AccX) {n : Int} {v : Int32} (hv : (Int8.ofInt n).toInt32 = v) (hd : decode cc pc = .ok (.bipush n, 2))
    (k : gG Z ad T M ce so (pc + 2) ls (.int v :: st)) : gG Z ad T M ce so pc ls (st) := by
  obtain ⟨p, l, e, R, s, m, args, below, meth, c, Q, adV, hKq, hx, hb, hml, hown, hts, hK, hH, hA, hE, hRm, hnm, hlk, -⟩ := hF
  intro H locs la hR hl
  have k := k H locs la hR hl
  rw [hKq] at k ⊢
  exact lv_bipush hx hb hd hv k
theorem g_sipush (hF : gFix Z cc own nm rt d mc ms Acc AccX) {n : Int} {v : Int32} (hv : (Int16.ofInt n).toInt32 = v) (hd : decode cc pc = .ok (.sipush n, 3))
    (k : gG Z ad T M ce so (pc + 3) ls (.int v :: st)) : gG Z ad T M ce so pc ls (st) := by
  obtain ⟨p, l, e, R, s, m, args, below, meth, c, Q, adV, hKq, hx, hb, hml, hown, hts, hK, hH, hA, hE, hRm, hnm, hlk, -⟩ := hF
  intro H locs la hR hl
  have k := k H locs la hR hl
  rw [hKq] at k ⊢
  exact lv_sipush hx hb hd hv k
theorem g_lconst (hF : gFix Z cc own nm rt d mc ms Acc AccX) {n : Fin 2} {v : Int64} (hv : Int64.ofNat (n : Nat) = v) (hd : decode cc pc = .ok (.lconst n, 1))
    (k : gG Z ad T M ce so (pc + 1) ls (.long v :: st)) : gG Z ad T M ce so pc ls (st) := by
  obtain ⟨p, l, e, R, s, m, args, below, meth, c, Q, adV, hKq, hx, hb, hml, hown, hts, hK, hH, hA, hE, hRm, hnm, hlk, -⟩ := hF
  intro H locs la hR hl
  have k := k H locs la hR hl
  rw [hKq] at k ⊢
  exact lv_lconst hx hb hd hv k
theorem g_ldc (hF : gFix Z cc own nm rt d mc ms Acc AccX) {index : Nat} {v : Int32} (hw : Cond.constant own index v ∈ gWS) (hd : decode cc pc = .ok (.ldc index, 2))
    (k : gG Z ad T M ce so (pc + 2) ls (.int v :: st)) : gG Z ad T M ce so pc ls (st) := by
  obtain ⟨p, l, e, R, s, m, args, below, meth, c, Q, adV, hKq, hx, hb, hml, hown, hts, hK, hH, hA, hE, hRm, hnm, hlk, -⟩ := hF
  intro H locs la hR hl
  have k := k H locs la hR hl
  rw [hKq] at k ⊢
  exact lv_ldc hx hb hown (hts _ hw) hd k
theorem g_ldc2 (hF : gFix Z cc own nm rt d mc ms Acc AccX) {index : Nat} {v : Int64} (hw : Cond.constantLong own index v ∈ gWS) (hd : decode cc pc = .ok (.ldc2_w index, 3))
    (k : gG Z ad T M ce so (pc + 3) ls (.long v :: st)) : gG Z ad T M ce so pc ls (st) := by
  obtain ⟨p, l, e, R, s, m, args, below, meth, c, Q, adV, hKq, hx, hb, hml, hown, hts, hK, hH, hA, hE, hRm, hnm, hlk, -⟩ := hF
  intro H locs la hR hl
  have k := k H locs la hR hl
  rw [hKq] at k ⊢
  exact lv_ldc2 hx hb hown (hts _ hw) hd k
theorem g_iload_n (hF : gFix Z cc own nm rt d mc ms Acc AccX) {kf : Fin 4} {i : Nat} {x : Int32} (j : Nat) (hj : ls[j]? = some (i, .int x)) (hi : (kf : Nat) = i) (hd : decode cc pc = .ok (.iload_n kf, 1))
    (k : gG Z ad T M ce so (pc + 1) ls (.int x :: st)) : gG Z ad T M ce so pc ls (st) := by
  obtain ⟨p, l, e, R, s, m, args, below, meth, c, Q, adV, hKq, hx, hb, hml, hown, hts, hK, hH, hA, hE, hRm, hnm, hlk, -⟩ := hF
  intro H locs la hR hl
  have k := k H locs la hR hl
  rw [hKq] at k ⊢
  exact lv_iload_n hx hb hd hi (gl_at hl j hj) k
theorem g_iload (hF : gFix Z cc own nm rt d mc ms Acc AccX) {i : Nat} {x : Int32} (j : Nat) (hj : ls[j]? = some (i, .int x)) (hd : decode cc pc = .ok (.iload i, 2))
    (k : gG Z ad T M ce so (pc + 2) ls (.int x :: st)) : gG Z ad T M ce so pc ls (st) := by
  obtain ⟨p, l, e, R, s, m, args, below, meth, c, Q, adV, hKq, hx, hb, hml, hown, hts, hK, hH, hA, hE, hRm, hnm, hlk, -⟩ := hF
  intro H locs la hR hl
  have k := k H locs la hR hl
  rw [hKq] at k ⊢
  exact lv_iload hx hb hd (gl_at hl j hj) k
theorem g_lload_n (hF : gFix Z cc own nm rt d mc ms Acc AccX) {kf : Fin 4} {i : Nat} {x : Int64} (j : Nat) (hj : ls[j]? = some (i, .long x)) (hi : (kf : Nat) = i) (hd : decode cc pc = .ok (.lload_n kf, 1))
    (k : gG Z ad T M ce so (pc + 1) ls (.long x :: st)) : gG Z ad T M ce so pc ls (st) := by
  obtain ⟨p, l, e, R, s, m, args, below, meth, c, Q, adV, hKq, hx, hb, hml, hown, hts, hK, hH, hA, hE, hRm, hnm, hlk, -⟩ := hF
  intro H locs la hR hl
  have k := k H locs la hR hl
  rw [hKq] at k ⊢
  exact lv_lload_n hx hb hd hi (gl_at hl j hj) k
theorem g_lload (hF : gFix Z cc own nm rt d mc ms Acc AccX) {i : Nat} {x : Int64} (j : Nat) (hj : ls[j]? = some (i, .long x)) (hd : decode cc pc = .ok (.lload i, 2))
    (k : gG Z ad T M ce so (pc + 2) ls (.long x :: st)) : gG Z ad T M ce so pc ls (st) := by
  obtain ⟨p, l, e, R, s, m, args, below, meth, c, Q, adV, hKq, hx, hb, hml, hown, hts, hK, hH, hA, hE, hRm, hnm, hlk, -⟩ := hF
  intro H locs la hR hl
  have k := k H locs la hR hl
  rw [hKq] at k ⊢
  exact lv_lload hx hb hd (gl_at hl j hj) k
theorem g_aload_n (hF : gFix Z cc own nm rt d mc ms Acc AccX) {kf : Fin 4} {i : Nat} {x : Nat} (j : Nat) (hj : ls[j]? = some (i, .ref x)) (hi : (kf : Nat) = i) (hd : decode cc pc = .ok (.aload_n kf, 1))
    (k : gG Z ad T M ce so (pc + 1) ls (.ref x :: st)) : gG Z ad T M ce so pc ls (st) := by
  obtain ⟨p, l, e, R, s, m, args, below, meth, c, Q, adV, hKq, hx, hb, hml, hown, hts, hK, hH, hA, hE, hRm, hnm, hlk, -⟩ := hF
  intro H locs la hR hl
  have k := k H locs la hR hl
  rw [hKq] at k ⊢
  exact lv_aload_n hx hb hd hi (gl_at hl j hj) k
theorem g_aload (hF : gFix Z cc own nm rt d mc ms Acc AccX) {i : Nat} {x : Nat} (j : Nat) (hj : ls[j]? = some (i, .ref x)) (hd : decode cc pc = .ok (.aload i, 2))
    (k : gG Z ad T M ce so (pc + 2) ls (.ref x :: st)) : gG Z ad T M ce so pc ls (st) := by
  obtain ⟨p, l, e, R, s, m, args, below, meth, c, Q, adV, hKq, hx, hb, hml, hown, hts, hK, hH, hA, hE, hRm, hnm, hlk, -⟩ := hF
  intro H locs la hR hl
  have k := k H locs la hR hl
  rw [hKq] at k ⊢
  exact lv_aload hx hb hd (gl_at hl j hj) k
theorem g_istore_n (hF : gFix Z cc own nm rt d mc ms Acc AccX) {kf : Fin 4} {i : Nat} {x : Int32} (hi : (kf : Nat) = i) (hn : i < Z.2.2.2.2.2.1) (hs : (i, Value.int x) :: ls.filter (fun q => !(q.1 == i) && !(q.1 + 1 == i && q.2.category == 2)) = ls') (hd : decode cc pc = .ok (.istore_n kf, 1))
    (k : gG Z ad T M ce so (pc + 1) ls' st) : gG Z ad T M ce so pc ls (.int x :: st) := by
  obtain ⟨p, l, e, R, s, m, args, below, meth, c, Q, adV, hKq, hx, hb, hml, hown, hts, hK, hH, hA, hE, hRm, hnm, hlk, -⟩ := hF
  intro H locs la hR hl
  have k := fun la hl => k H locs la hR hl
  rw [hKq] at k ⊢
  exact lv_istore_n hx hb hd hi hl hn (gl_st1 (ad := ad) (v := .int x) hs) (fun la hl => k la hl)
theorem g_istore (hF : gFix Z cc own nm rt d mc ms Acc AccX) {i : Nat} {x : Int32} (hn : i < Z.2.2.2.2.2.1) (hs : (i, Value.int x) :: ls.filter (fun q => !(q.1 == i) && !(q.1 + 1 == i && q.2.category == 2)) = ls') (hd : decode cc pc = .ok (.istore i, 2))
    (k : gG Z ad T M ce so (pc + 2) ls' st) : gG Z ad T M ce so pc ls (.int x :: st) := by
  obtain ⟨p, l, e, R, s, m, args, below, meth, c, Q, adV, hKq, hx, hb, hml, hown, hts, hK, hH, hA, hE, hRm, hnm, hlk, -⟩ := hF
  intro H locs la hR hl
  have k := fun la hl => k H locs la hR hl
  rw [hKq] at k ⊢
  exact lv_istore hx hb hd hl hn (gl_st1 (ad := ad) (v := .int x) hs) (fun la hl => k la hl)
theorem g_lstore_n (hF : gFix Z cc own nm rt d mc ms Acc AccX) {kf : Fin 4} {i : Nat} {x : Int64} (hi : (kf : Nat) = i) (hn : i + 1 < Z.2.2.2.2.2.1) (hs : (i, Value.long x) :: ls.filter (fun q => !(q.1 == i) && (!(q.1 == i + 1) && !(q.1 + 1 == i && q.2.category == 2))) = ls') (hd : decode cc pc = .ok (.lstore_n kf, 1))
    (k : gG Z ad T M ce so (pc + 1) ls' st) : gG Z ad T M ce so pc ls (.long x :: st) := by
  obtain ⟨p, l, e, R, s, m, args, below, meth, c, Q, adV, hKq, hx, hb, hml, hown, hts, hK, hH, hA, hE, hRm, hnm, hlk, -⟩ := hF
  intro H locs la hR hl
  have k := fun la hl => k H locs la hR hl
  rw [hKq] at k ⊢
  exact lv_lstore_n hx hb hd hi hl hn (gl_st2 (ad := ad) (v := .long x) hs) (fun la hl => k la hl)
theorem g_lstore (hF : gFix Z cc own nm rt d mc ms Acc AccX) {i : Nat} {x : Int64} (hn : i + 1 < Z.2.2.2.2.2.1) (hs : (i, Value.long x) :: ls.filter (fun q => !(q.1 == i) && (!(q.1 == i + 1) && !(q.1 + 1 == i && q.2.category == 2))) = ls') (hd : decode cc pc = .ok (.lstore i, 2))
    (k : gG Z ad T M ce so (pc + 2) ls' st) : gG Z ad T M ce so pc ls (.long x :: st) := by
  obtain ⟨p, l, e, R, s, m, args, below, meth, c, Q, adV, hKq, hx, hb, hml, hown, hts, hK, hH, hA, hE, hRm, hnm, hlk, -⟩ := hF
  intro H locs la hR hl
  have k := fun la hl => k H locs la hR hl
  rw [hKq] at k ⊢
  exact lv_lstore hx hb hd hl hn (gl_st2 (ad := ad) (v := .long x) hs) (fun la hl => k la hl)
theorem g_astore_n (hF : gFix Z cc own nm rt d mc ms Acc AccX) {kf : Fin 4} {i : Nat} {x : Nat} (hi : (kf : Nat) = i) (hn : i < Z.2.2.2.2.2.1) (hs : (i, Value.ref x) :: ls.filter (fun q => !(q.1 == i) && !(q.1 + 1 == i && q.2.category == 2)) = ls') (hd : decode cc pc = .ok (.astore_n kf, 1))
    (k : gG Z ad T M ce so (pc + 1) ls' st) : gG Z ad T M ce so pc ls (.ref x :: st) := by
  obtain ⟨p, l, e, R, s, m, args, below, meth, c, Q, adV, hKq, hx, hb, hml, hown, hts, hK, hH, hA, hE, hRm, hnm, hlk, -⟩ := hF
  intro H locs la hR hl
  have k := fun la hl => k H locs la hR hl
  rw [hKq] at k ⊢
  exact lv_astore_n hx hb hd hi hl hn (gl_st1 (ad := ad) (v := .ref x) hs) (fun la hl => k la hl)
theorem g_astore (hF : gFix Z cc own nm rt d mc ms Acc AccX) {i : Nat} {x : Nat} (hn : i < Z.2.2.2.2.2.1) (hs : (i, Value.ref x) :: ls.filter (fun q => !(q.1 == i) && !(q.1 + 1 == i && q.2.category == 2)) = ls') (hd : decode cc pc = .ok (.astore i, 2))
    (k : gG Z ad T M ce so (pc + 2) ls' st) : gG Z ad T M ce so pc ls (.ref x :: st) := by
  obtain ⟨p, l, e, R, s, m, args, below, meth, c, Q, adV, hKq, hx, hb, hml, hown, hts, hK, hH, hA, hE, hRm, hnm, hlk, -⟩ := hF
  intro H locs la hR hl
  have k := fun la hl => k H locs la hR hl
  rw [hKq] at k ⊢
  exact lv_astore hx hb hd hl hn (gl_st1 (ad := ad) (v := .ref x) hs) (fun la hl => k la hl)
theorem g_iinc (hF : gFix Z cc own nm rt d mc ms Acc AccX) {i : Nat} {n : Int} {x v : Int32} (j : Nat) (hj : ls[j]? = some (i, .int x)) (hv : x + Int32.ofInt n = v) (hn : i < Z.2.2.2.2.2.1) (hs : (i, Value.int v) :: ls.filter (fun q => !(q.1 == i) && !(q.1 + 1 == i && q.2.category == 2)) = ls') (hd : decode cc pc = .ok (.iinc i n, 3))
    (k : gG Z ad T M ce so (pc + 3) ls' st) : gG Z ad T M ce so pc ls (st) := by
  obtain ⟨p, l, e, R, s, m, args, below, meth, c, Q, adV, hKq, hx, hb, hml, hown, hts, hK, hH, hA, hE, hRm, hnm, hlk, -⟩ := hF
  intro H locs la hR hl
  have k := fun la hl => k H locs la hR hl
  rw [hKq] at k ⊢
  exact lv_iinc (k := j) hx hb hd hl (by rw [gmp, List.getElem?_map, hj]; rfl) hv hn (gl_st1 (ad := ad) (v := .int v) hs) (fun la hl => k la hl)
theorem g_iadd (hF : gFix Z cc own nm rt d mc ms Acc AccX) {x y : Int32} (hd : decode cc pc = .ok (.iadd, 1))
    (k : gG Z ad T M ce so (pc + 1) ls (.int (x + y) :: st)) : gG Z ad T M ce so pc ls (.int y :: .int x :: st) := by
  obtain ⟨p, l, e, R, s, m, args, below, meth, c, Q, adV, hKq, hx, hb, hml, hown, hts, hK, hH, hA, hE, hRm, hnm, hlk, -⟩ := hF
  intro H locs la hR hl
  have k := k H locs la hR hl
  rw [hKq] at k ⊢
  exact lv_iadd hx hb hd k
theorem g_isub (hF : gFix Z cc own nm rt d mc ms Acc AccX) {x y : Int32} (hd : decode cc pc = .ok (.isub, 1))
    (k : gG Z ad T M ce so (pc + 1) ls (.int (x - y) :: st)) : gG Z ad T M ce so pc ls (.int y :: .int x :: st) := by
  obtain ⟨p, l, e, R, s, m, args, below, meth, c, Q, adV, hKq, hx, hb, hml, hown, hts, hK, hH, hA, hE, hRm, hnm, hlk, -⟩ := hF
  intro H locs la hR hl
  have k := k H locs la hR hl
  rw [hKq] at k ⊢
  exact lv_isub hx hb hd k
theorem g_imul (hF : gFix Z cc own nm rt d mc ms Acc AccX) {x y : Int32} (hd : decode cc pc = .ok (.imul, 1))
    (k : gG Z ad T M ce so (pc + 1) ls (.int (x * y) :: st)) : gG Z ad T M ce so pc ls (.int y :: .int x :: st) := by
  obtain ⟨p, l, e, R, s, m, args, below, meth, c, Q, adV, hKq, hx, hb, hml, hown, hts, hK, hH, hA, hE, hRm, hnm, hlk, -⟩ := hF
  intro H locs la hR hl
  have k := k H locs la hR hl
  rw [hKq] at k ⊢
  exact lv_imul hx hb hd k
theorem g_iand (hF : gFix Z cc own nm rt d mc ms Acc AccX) {x y : Int32} (hd : decode cc pc = .ok (.iand, 1))
    (k : gG Z ad T M ce so (pc + 1) ls (.int (x &&& y) :: st)) : gG Z ad T M ce so pc ls (.int y :: .int x :: st) := by
  obtain ⟨p, l, e, R, s, m, args, below, meth, c, Q, adV, hKq, hx, hb, hml, hown, hts, hK, hH, hA, hE, hRm, hnm, hlk, -⟩ := hF
  intro H locs la hR hl
  have k := k H locs la hR hl
  rw [hKq] at k ⊢
  exact lv_iand hx hb hd k
theorem g_ior (hF : gFix Z cc own nm rt d mc ms Acc AccX) {x y : Int32} (hd : decode cc pc = .ok (.ior, 1))
    (k : gG Z ad T M ce so (pc + 1) ls (.int (x ||| y) :: st)) : gG Z ad T M ce so pc ls (.int y :: .int x :: st) := by
  obtain ⟨p, l, e, R, s, m, args, below, meth, c, Q, adV, hKq, hx, hb, hml, hown, hts, hK, hH, hA, hE, hRm, hnm, hlk, -⟩ := hF
  intro H locs la hR hl
  have k := k H locs la hR hl
  rw [hKq] at k ⊢
  exact lv_ior hx hb hd k
theorem g_ixor (hF : gFix Z cc own nm rt d mc ms Acc AccX) {x y : Int32} (hd : decode cc pc = .ok (.ixor, 1))
    (k : gG Z ad T M ce so (pc + 1) ls (.int (x ^^^ y) :: st)) : gG Z ad T M ce so pc ls (.int y :: .int x :: st) := by
  obtain ⟨p, l, e, R, s, m, args, below, meth, c, Q, adV, hKq, hx, hb, hml, hown, hts, hK, hH, hA, hE, hRm, hnm, hlk, -⟩ := hF
  intro H locs la hR hl
  have k := k H locs la hR hl
  rw [hKq] at k ⊢
  exact lv_ixor hx hb hd k
theorem g_ishl (hF : gFix Z cc own nm rt d mc ms Acc AccX) {x y : Int32} (hd : decode cc pc = .ok (.ishl, 1))
    (k : gG Z ad T M ce so (pc + 1) ls (.int (x <<< (y &&& 31)) :: st)) : gG Z ad T M ce so pc ls (.int y :: .int x :: st) := by
  obtain ⟨p, l, e, R, s, m, args, below, meth, c, Q, adV, hKq, hx, hb, hml, hown, hts, hK, hH, hA, hE, hRm, hnm, hlk, -⟩ := hF
  intro H locs la hR hl
  have k := k H locs la hR hl
  rw [hKq] at k ⊢
  exact lv_ishl hx hb hd k
theorem g_ishr (hF : gFix Z cc own nm rt d mc ms Acc AccX) {x y : Int32} (hd : decode cc pc = .ok (.ishr, 1))
    (k : gG Z ad T M ce so (pc + 1) ls (.int (x >>> (y &&& 31)) :: st)) : gG Z ad T M ce so pc ls (.int y :: .int x :: st) := by
  obtain ⟨p, l, e, R, s, m, args, below, meth, c, Q, adV, hKq, hx, hb, hml, hown, hts, hK, hH, hA, hE, hRm, hnm, hlk, -⟩ := hF
  intro H locs la hR hl
  have k := k H locs la hR hl
  rw [hKq] at k ⊢
  exact lv_ishr hx hb hd k
theorem g_irem (hF : gFix Z cc own nm rt d mc ms Acc AccX) {x y : Int32} (hne : ¬ y = 0) (hd : decode cc pc = .ok (.irem, 1))
    (k : gG Z ad T M ce so (pc + 1) ls (.int (x - x / y * y) :: st)) : gG Z ad T M ce so pc ls (.int y :: .int x :: st) := by
  obtain ⟨p, l, e, R, s, m, args, below, meth, c, Q, adV, hKq, hx, hb, hml, hown, hts, hK, hH, hA, hE, hRm, hnm, hlk, -⟩ := hF
  intro H locs la hR hl
  have k := k H locs la hR hl
  rw [hKq] at k ⊢
  exact lv_irem hx hb hd hne k
theorem g_idiv (hF : gFix Z cc own nm rt d mc ms Acc AccX) {x y : Int32} (hne : ¬ y = 0) (hd : decode cc pc = .ok (.idiv, 1))
    (k : gG Z ad T M ce so (pc + 1) ls (.int (x / y) :: st)) : gG Z ad T M ce so pc ls (.int y :: .int x :: st) := by
  obtain ⟨p, l, e, R, s, m, args, below, meth, c, Q, adV, hKq, hx, hb, hml, hown, hts, hK, hH, hA, hE, hRm, hnm, hlk, -⟩ := hF
  intro H locs la hR hl
  have k := k H locs la hR hl
  rw [hKq] at k ⊢
  exact lv_idiv hx hb hd hne k
theorem g_ladd (hF : gFix Z cc own nm rt d mc ms Acc AccX) {x y : Int64} (hd : decode cc pc = .ok (.ladd, 1))
    (k : gG Z ad T M ce so (pc + 1) ls (.long (x + y) :: st)) : gG Z ad T M ce so pc ls (.long y :: .long x :: st) := by
  obtain ⟨p, l, e, R, s, m, args, below, meth, c, Q, adV, hKq, hx, hb, hml, hown, hts, hK, hH, hA, hE, hRm, hnm, hlk, -⟩ := hF
  intro H locs la hR hl
  have k := k H locs la hR hl
  rw [hKq] at k ⊢
  exact lv_ladd hx hb hd k
theorem g_lsub (hF : gFix Z cc own nm rt d mc ms Acc AccX) {x y : Int64} (hd : decode cc pc = .ok (.lsub, 1))
    (k : gG Z ad T M ce so (pc + 1) ls (.long (x - y) :: st)) : gG Z ad T M ce so pc ls (.long y :: .long x :: st) := by
  obtain ⟨p, l, e, R, s, m, args, below, meth, c, Q, adV, hKq, hx, hb, hml, hown, hts, hK, hH, hA, hE, hRm, hnm, hlk, -⟩ := hF
  intro H locs la hR hl
  have k := k H locs la hR hl
  rw [hKq] at k ⊢
  exact lv_lsub hx hb hd k
theorem g_lmul (hF : gFix Z cc own nm rt d mc ms Acc AccX) {x y : Int64} (hd : decode cc pc = .ok (.lmul, 1))
    (k : gG Z ad T M ce so (pc + 1) ls (.long (x * y) :: st)) : gG Z ad T M ce so pc ls (.long y :: .long x :: st) := by
  obtain ⟨p, l, e, R, s, m, args, below, meth, c, Q, adV, hKq, hx, hb, hml, hown, hts, hK, hH, hA, hE, hRm, hnm, hlk, -⟩ := hF
  intro H locs la hR hl
  have k := k H locs la hR hl
  rw [hKq] at k ⊢
  exact lv_lmul hx hb hd k
theorem g_land (hF : gFix Z cc own nm rt d mc ms Acc AccX) {x y : Int64} (hd : decode cc pc = .ok (.land, 1))
    (k : gG Z ad T M ce so (pc + 1) ls (.long (x &&& y) :: st)) : gG Z ad T M ce so pc ls (.long y :: .long x :: st) := by
  obtain ⟨p, l, e, R, s, m, args, below, meth, c, Q, adV, hKq, hx, hb, hml, hown, hts, hK, hH, hA, hE, hRm, hnm, hlk, -⟩ := hF
  intro H locs la hR hl
  have k := k H locs la hR hl
  rw [hKq] at k ⊢
  exact lv_land hx hb hd k
theorem g_lor (hF : gFix Z cc own nm rt d mc ms Acc AccX) {x y : Int64} (hd : decode cc pc = .ok (.lor, 1))
    (k : gG Z ad T M ce so (pc + 1) ls (.long (x ||| y) :: st)) : gG Z ad T M ce so pc ls (.long y :: .long x :: st) := by
  obtain ⟨p, l, e, R, s, m, args, below, meth, c, Q, adV, hKq, hx, hb, hml, hown, hts, hK, hH, hA, hE, hRm, hnm, hlk, -⟩ := hF
  intro H locs la hR hl
  have k := k H locs la hR hl
  rw [hKq] at k ⊢
  exact lv_lor hx hb hd k
theorem g_ldiv (hF : gFix Z cc own nm rt d mc ms Acc AccX) {x y : Int64} (hne : ¬ y = 0) (hd : decode cc pc = .ok (.ldiv, 1))
    (k : gG Z ad T M ce so (pc + 1) ls (.long (x / y) :: st)) : gG Z ad T M ce so pc ls (.long y :: .long x :: st) := by
  obtain ⟨p, l, e, R, s, m, args, below, meth, c, Q, adV, hKq, hx, hb, hml, hown, hts, hK, hH, hA, hE, hRm, hnm, hlk, -⟩ := hF
  intro H locs la hR hl
  have k := k H locs la hR hl
  rw [hKq] at k ⊢
  exact lv_ldiv hx hb hd hne k
theorem g_lshl (hF : gFix Z cc own nm rt d mc ms Acc AccX) {x : Int64} {y : Int32} (hd : decode cc pc = .ok (.lshl, 1))
    (k : gG Z ad T M ce so (pc + 1) ls (.long (x <<< (y.toInt64 &&& 63)) :: st)) : gG Z ad T M ce so pc ls (.int y :: .long x :: st) := by
  obtain ⟨p, l, e, R, s, m, args, below, meth, c, Q, adV, hKq, hx, hb, hml, hown, hts, hK, hH, hA, hE, hRm, hnm, hlk, -⟩ := hF
  intro H locs la hR hl
  have k := k H locs la hR hl
  rw [hKq] at k ⊢
  exact lv_lshl hx hb hd rfl k
theorem g_lcmp (hF : gFix Z cc own nm rt d mc ms Acc AccX) {x y : Int64} (hd : decode cc pc = .ok (.lcmp, 1))
    (k : gG Z ad T M ce so (pc + 1) ls (.int (lg_cmp x y) :: st)) : gG Z ad T M ce so pc ls (.long y :: .long x :: st) := by
  obtain ⟨p, l, e, R, s, m, args, below, meth, c, Q, adV, hKq, hx, hb, hml, hown, hts, hK, hH, hA, hE, hRm, hnm, hlk, -⟩ := hF
  intro H locs la hR hl
  have k := k H locs la hR hl
  rw [hKq] at k ⊢
  exact W.lcmp hx hb hd k
theorem g_i2l (hF : gFix Z cc own nm rt d mc ms Acc AccX) {x : Int32} (hd : decode cc pc = .ok (.i2l, 1))
    (k : gG Z ad T M ce so (pc + 1) ls (.long x.toInt64 :: st)) : gG Z ad T M ce so pc ls (.int x :: st) := by
  obtain ⟨p, l, e, R, s, m, args, below, meth, c, Q, adV, hKq, hx, hb, hml, hown, hts, hK, hH, hA, hE, hRm, hnm, hlk, -⟩ := hF
  intro H locs la hR hl
  have k := k H locs la hR hl
  rw [hKq] at k ⊢
  exact lv_i2l hx hb hd rfl k
theorem g_l2i (hF : gFix Z cc own nm rt d mc ms Acc AccX) {x : Int64} (hd : decode cc pc = .ok (.l2i, 1))
    (k : gG Z ad T M ce so (pc + 1) ls (.int x.toInt32 :: st)) : gG Z ad T M ce so pc ls (.long x :: st) := by
  obtain ⟨p, l, e, R, s, m, args, below, meth, c, Q, adV, hKq, hx, hb, hml, hown, hts, hK, hH, hA, hE, hRm, hnm, hlk, -⟩ := hF
  intro H locs la hR hl
  have k := k H locs la hR hl
  rw [hKq] at k ⊢
  exact lv_l2i hx hb hd rfl k
theorem g_i2b (hF : gFix Z cc own nm rt d mc ms Acc AccX) {x : Int32} (hd : decode cc pc = .ok (.i2b, 1))
    (k : gG Z ad T M ce so (pc + 1) ls (.int x.toInt8.toInt32 :: st)) : gG Z ad T M ce so pc ls (.int x :: st) := by
  obtain ⟨p, l, e, R, s, m, args, below, meth, c, Q, adV, hKq, hx, hb, hml, hown, hts, hK, hH, hA, hE, hRm, hnm, hlk, -⟩ := hF
  intro H locs la hR hl
  have k := k H locs la hR hl
  rw [hKq] at k ⊢
  exact lv_i2b hx hb hd rfl k
theorem g_dup (hF : gFix Z cc own nm rt d mc ms Acc AccX) {va : Value} (hc : va.category = 1) (hd : decode cc pc = .ok (.dup, 1))
    (k : gG Z ad T M ce so (pc + 1) ls (va :: va :: st)) : gG Z ad T M ce so pc ls (va :: st) := by
  obtain ⟨p, l, e, R, s, m, args, below, meth, c, Q, adV, hKq, hx, hb, hml, hown, hts, hK, hH, hA, hE, hRm, hnm, hlk, -⟩ := hF
  intro H locs la hR hl
  have k := k H locs la hR hl
  rw [hKq] at k ⊢
  exact lv_dup hx hb hd (by rw [gv_cat]; exact hc) k
theorem g_dup2 (hF : gFix Z cc own nm rt d mc ms Acc AccX) {va vb : Value} (hc : va.category = 1) (hc2 : vb.category = 1) (hd : decode cc pc = .ok (.dup2, 1))
    (k : gG Z ad T M ce so (pc + 1) ls (va :: vb :: va :: vb :: st)) : gG Z ad T M ce so pc ls (va :: vb :: st) := by
  obtain ⟨p, l, e, R, s, m, args, below, meth, c, Q, adV, hKq, hx, hb, hml, hown, hts, hK, hH, hA, hE, hRm, hnm, hlk, -⟩ := hF
  intro H locs la hR hl
  have k := k H locs la hR hl
  rw [hKq] at k ⊢
  exact lv_dup2_11 hx hb hd (by rw [gv_cat]; exact hc) (by rw [gv_cat]; exact hc2) k
theorem g_pop (hF : gFix Z cc own nm rt d mc ms Acc AccX) {va : Value} (hc : va.category = 1) (hd : decode cc pc = .ok (.pop, 1))
    (k : gG Z ad T M ce so (pc + 1) ls (st)) : gG Z ad T M ce so pc ls (va :: st) := by
  obtain ⟨p, l, e, R, s, m, args, below, meth, c, Q, adV, hKq, hx, hb, hml, hown, hts, hK, hH, hA, hE, hRm, hnm, hlk, -⟩ := hF
  intro H locs la hR hl
  have k := k H locs la hR hl
  rw [hKq] at k ⊢
  exact lv_pop hx hb hd (by rw [gv_cat]; exact hc) k
theorem g_if_eq (hF : gFix Z cc own nm rt d mc ms Acc AccX) {x : Int32} {off : Int} {tgt : Nat} (hd : decode cc pc = .ok (.ifCond .eq off, 3)) (ht : (pc : Int) + off = (tgt : Int))
    (kt : x = 0 → gG Z ad T M ce so tgt ls st) (kf : ¬ x = 0 → gG Z ad T M ce so (pc + 3) ls st) : gG Z ad T M ce so pc ls (.int x :: st) := by
  obtain ⟨p, l, e, R, s, m, args, below, meth, c, Q, adV, hKq, hx, hb, hml, hown, hts, hK, hH, hA, hE, hRm, hnm, hlk, -⟩ := hF
  intro H locs la hR hl
  have kt := fun q => kt q H locs la hR hl
  have kf := fun q => kf q H locs la hR hl
  rw [hKq] at kt kf ⊢
  exact lv_if_eq hx hb hd ht kt kf
theorem g_icmp_eq (hF : gFix Z cc own nm rt d mc ms Acc AccX) {x y : Int32} {off : Int} {tgt : Nat} (hd : decode cc pc = .ok (.if_icmp .eq off, 3)) (ht : (pc : Int) + off = (tgt : Int))
    (kt : x = y → gG Z ad T M ce so tgt ls st) (kf : ¬ x = y → gG Z ad T M ce so (pc + 3) ls st) : gG Z ad T M ce so pc ls (.int y :: .int x :: st) := by
  obtain ⟨p, l, e, R, s, m, args, below, meth, c, Q, adV, hKq, hx, hb, hml, hown, hts, hK, hH, hA, hE, hRm, hnm, hlk, -⟩ := hF
  intro H locs la hR hl
  have kt := fun q => kt q H locs la hR hl
  have kf := fun q => kf q H locs la hR hl
  rw [hKq] at kt kf ⊢
  exact lv_icmp_eq hx hb hd ht kt kf
theorem g_if_ne (hF : gFix Z cc own nm rt d mc ms Acc AccX) {x : Int32} {off : Int} {tgt : Nat} (hd : decode cc pc = .ok (.ifCond .ne off, 3)) (ht : (pc : Int) + off = (tgt : Int))
    (kt : ¬ x = 0 → gG Z ad T M ce so tgt ls st) (kf : x = 0 → gG Z ad T M ce so (pc + 3) ls st) : gG Z ad T M ce so pc ls (.int x :: st) := by
  obtain ⟨p, l, e, R, s, m, args, below, meth, c, Q, adV, hKq, hx, hb, hml, hown, hts, hK, hH, hA, hE, hRm, hnm, hlk, -⟩ := hF
  intro H locs la hR hl
  have kt := fun q => kt q H locs la hR hl
  have kf := fun q => kf q H locs la hR hl
  rw [hKq] at kt kf ⊢
  exact lv_if_ne hx hb hd ht kt kf
theorem g_icmp_ne (hF : gFix Z cc own nm rt d mc ms Acc AccX) {x y : Int32} {off : Int} {tgt : Nat} (hd : decode cc pc = .ok (.if_icmp .ne off, 3)) (ht : (pc : Int) + off = (tgt : Int))
    (kt : ¬ x = y → gG Z ad T M ce so tgt ls st) (kf : x = y → gG Z ad T M ce so (pc + 3) ls st) : gG Z ad T M ce so pc ls (.int y :: .int x :: st) := by
  obtain ⟨p, l, e, R, s, m, args, below, meth, c, Q, adV, hKq, hx, hb, hml, hown, hts, hK, hH, hA, hE, hRm, hnm, hlk, -⟩ := hF
  intro H locs la hR hl
  have kt := fun q => kt q H locs la hR hl
  have kf := fun q => kf q H locs la hR hl
  rw [hKq] at kt kf ⊢
  exact lv_icmp_ne hx hb hd ht kt kf
theorem g_if_lt (hF : gFix Z cc own nm rt d mc ms Acc AccX) {x : Int32} {off : Int} {tgt : Nat} (hd : decode cc pc = .ok (.ifCond .lt off, 3)) (ht : (pc : Int) + off = (tgt : Int))
    (kt : x < 0 → gG Z ad T M ce so tgt ls st) (kf : ¬ x < 0 → gG Z ad T M ce so (pc + 3) ls st) : gG Z ad T M ce so pc ls (.int x :: st) := by
  obtain ⟨p, l, e, R, s, m, args, below, meth, c, Q, adV, hKq, hx, hb, hml, hown, hts, hK, hH, hA, hE, hRm, hnm, hlk, -⟩ := hF
  intro H locs la hR hl
  have kt := fun q => kt q H locs la hR hl
  have kf := fun q => kf q H locs la hR hl
  rw [hKq] at kt kf ⊢
  exact lv_if_lt hx hb hd ht kt kf
theorem g_icmp_lt (hF : gFix Z cc own nm rt d mc ms Acc AccX) {x y : Int32} {off : Int} {tgt : Nat} (hd : decode cc pc = .ok (.if_icmp .lt off, 3)) (ht : (pc : Int) + off = (tgt : Int))
    (kt : x < y → gG Z ad T M ce so tgt ls st) (kf : ¬ x < y → gG Z ad T M ce so (pc + 3) ls st) : gG Z ad T M ce so pc ls (.int y :: .int x :: st) := by
  obtain ⟨p, l, e, R, s, m, args, below, meth, c, Q, adV, hKq, hx, hb, hml, hown, hts, hK, hH, hA, hE, hRm, hnm, hlk, -⟩ := hF
  intro H locs la hR hl
  have kt := fun q => kt q H locs la hR hl
  have kf := fun q => kf q H locs la hR hl
  rw [hKq] at kt kf ⊢
  exact lv_icmp_lt hx hb hd ht kt kf
theorem g_if_ge (hF : gFix Z cc own nm rt d mc ms Acc AccX) {x : Int32} {off : Int} {tgt : Nat} (hd : decode cc pc = .ok (.ifCond .ge off, 3)) (ht : (pc : Int) + off = (tgt : Int))
    (kt : 0 ≤ x → gG Z ad T M ce so tgt ls st) (kf : ¬ 0 ≤ x → gG Z ad T M ce so (pc + 3) ls st) : gG Z ad T M ce so pc ls (.int x :: st) := by
  obtain ⟨p, l, e, R, s, m, args, below, meth, c, Q, adV, hKq, hx, hb, hml, hown, hts, hK, hH, hA, hE, hRm, hnm, hlk, -⟩ := hF
  intro H locs la hR hl
  have kt := fun q => kt q H locs la hR hl
  have kf := fun q => kf q H locs la hR hl
  rw [hKq] at kt kf ⊢
  exact lv_if_ge hx hb hd ht kt kf
theorem g_icmp_ge (hF : gFix Z cc own nm rt d mc ms Acc AccX) {x y : Int32} {off : Int} {tgt : Nat} (hd : decode cc pc = .ok (.if_icmp .ge off, 3)) (ht : (pc : Int) + off = (tgt : Int))
    (kt : y ≤ x → gG Z ad T M ce so tgt ls st) (kf : ¬ y ≤ x → gG Z ad T M ce so (pc + 3) ls st) : gG Z ad T M ce so pc ls (.int y :: .int x :: st) := by
  obtain ⟨p, l, e, R, s, m, args, below, meth, c, Q, adV, hKq, hx, hb, hml, hown, hts, hK, hH, hA, hE, hRm, hnm, hlk, -⟩ := hF
  intro H locs la hR hl
  have kt := fun q => kt q H locs la hR hl
  have kf := fun q => kf q H locs la hR hl
  rw [hKq] at kt kf ⊢
  exact lv_icmp_ge hx hb hd ht kt kf
theorem g_if_gt (hF : gFix Z cc own nm rt d mc ms Acc AccX) {x : Int32} {off : Int} {tgt : Nat} (hd : decode cc pc = .ok (.ifCond .gt off, 3)) (ht : (pc : Int) + off = (tgt : Int))
    (kt : 0 < x → gG Z ad T M ce so tgt ls st) (kf : ¬ 0 < x → gG Z ad T M ce so (pc + 3) ls st) : gG Z ad T M ce so pc ls (.int x :: st) := by
  obtain ⟨p, l, e, R, s, m, args, below, meth, c, Q, adV, hKq, hx, hb, hml, hown, hts, hK, hH, hA, hE, hRm, hnm, hlk, -⟩ := hF
  intro H locs la hR hl
  have kt := fun q => kt q H locs la hR hl
  have kf := fun q => kf q H locs la hR hl
  rw [hKq] at kt kf ⊢
  exact lv_if_gt hx hb hd ht kt kf
theorem g_icmp_gt (hF : gFix Z cc own nm rt d mc ms Acc AccX) {x y : Int32} {off : Int} {tgt : Nat} (hd : decode cc pc = .ok (.if_icmp .gt off, 3)) (ht : (pc : Int) + off = (tgt : Int))
    (kt : y < x → gG Z ad T M ce so tgt ls st) (kf : ¬ y < x → gG Z ad T M ce so (pc + 3) ls st) : gG Z ad T M ce so pc ls (.int y :: .int x :: st) := by
  obtain ⟨p, l, e, R, s, m, args, below, meth, c, Q, adV, hKq, hx, hb, hml, hown, hts, hK, hH, hA, hE, hRm, hnm, hlk, -⟩ := hF
  intro H locs la hR hl
  have kt := fun q => kt q H locs la hR hl
  have kf := fun q => kf q H locs la hR hl
  rw [hKq] at kt kf ⊢
  exact lv_icmp_gt hx hb hd ht kt kf
theorem g_if_le (hF : gFix Z cc own nm rt d mc ms Acc AccX) {x : Int32} {off : Int} {tgt : Nat} (hd : decode cc pc = .ok (.ifCond .le off, 3)) (ht : (pc : Int) + off = (tgt : Int))
    (kt : x ≤ 0 → gG Z ad T M ce so tgt ls st) (kf : ¬ x ≤ 0 → gG Z ad T M ce so (pc + 3) ls st) : gG Z ad T M ce so pc ls (.int x :: st) := by
  obtain ⟨p, l, e, R, s, m, args, below, meth, c, Q, adV, hKq, hx, hb, hml, hown, hts, hK, hH, hA, hE, hRm, hnm, hlk, -⟩ := hF
  intro H locs la hR hl
  have kt := fun q => kt q H locs la hR hl
  have kf := fun q => kf q H locs la hR hl
  rw [hKq] at kt kf ⊢
  exact lv_if_le hx hb hd ht kt kf
theorem g_icmp_le (hF : gFix Z cc own nm rt d mc ms Acc AccX) {x y : Int32} {off : Int} {tgt : Nat} (hd : decode cc pc = .ok (.if_icmp .le off, 3)) (ht : (pc : Int) + off = (tgt : Int))
    (kt : x ≤ y → gG Z ad T M ce so tgt ls st) (kf : ¬ x ≤ y → gG Z ad T M ce so (pc + 3) ls st) : gG Z ad T M ce so pc ls (.int y :: .int x :: st) := by
  obtain ⟨p, l, e, R, s, m, args, below, meth, c, Q, adV, hKq, hx, hb, hml, hown, hts, hK, hH, hA, hE, hRm, hnm, hlk, -⟩ := hF
  intro H locs la hR hl
  have kt := fun q => kt q H locs la hR hl
  have kf := fun q => kf q H locs la hR hl
  rw [hKq] at kt kf ⊢
  exact lv_icmp_le hx hb hd ht kt kf
theorem g_goto (hF : gFix Z cc own nm rt d mc ms Acc AccX) {off : Int} {tgt : Nat} (hd : decode cc pc = .ok (.goto off, 3)) (ht : (pc : Int) + off = (tgt : Int))
    (k : gG Z ad T M ce so tgt ls st) : gG Z ad T M ce so pc ls st := by
  obtain ⟨p, l, e, R, s, m, args, below, meth, c, Q, adV, hKq, hx, hb, hml, hown, hts, hK, hH, hA, hE, hRm, hnm, hlk, -⟩ := hF
  intro H locs la hR hl
  have k := k H locs la hR hl
  rw [hKq] at k ⊢
  exact lv_goto hx hb hd ht k
theorem g_tabOut (hF : gFix Z cc own nm rt d mc ms Acc AccX) {dflt lo hi : Int} {offs : Array Int} {len : Nat} {x : Int32} {tgt : Nat} (hd : decode cc pc = .ok (.tableswitch dflt lo hi offs, len)) (h : x.toInt < lo ∨ hi < x.toInt) (ht : (pc : Int) + dflt = (tgt : Int))
    (k : gG Z ad T M ce so tgt ls st) : gG Z ad T M ce so pc ls (.int x :: st) := by
  obtain ⟨p, l, e, R, s, m, args, below, meth, c, Q, adV, hKq, hx, hb, hml, hown, hts, hK, hH, hA, hE, hRm, hnm, hlk, -⟩ := hF
  intro H locs la hR hl
  have k := k H locs la hR hl
  rw [hKq] at k ⊢
  exact lv_tableOut hx hb hd h ht k
theorem g_tabIn (hF : gFix Z cc own nm rt d mc ms Acc AccX) {dflt lo hi : Int} {offs : Array Int} {len : Nat} {x : Int32} {off : Int} {tgt : Nat} (hd : decode cc pc = .ok (.tableswitch dflt lo hi offs, len)) (h1 : ¬ x.toInt < lo) (h2 : ¬ hi < x.toInt) (ho : offs[(x.toInt - lo).toNat]? = some off) (ht : (pc : Int) + off = (tgt : Int))
    (k : gG Z ad T M ce so tgt ls st) : gG Z ad T M ce so pc ls (.int x :: st) := by
  obtain ⟨p, l, e, R, s, m, args, below, meth, c, Q, adV, hKq, hx, hb, hml, hown, hts, hK, hH, hA, hE, hRm, hnm, hlk, -⟩ := hF
  intro H locs la hR hl
  have k := k H locs la hR hl
  rw [hKq] at k ⊢
  exact lv_tableIn hx hb hd h1 h2 ho ht k
theorem g_ret_i (hF : gFix Z cc own nm rt d mc ms Acc AccX) {x : Int32} {ty : FieldType} (hrt : rt = some ty) (hn : narrow ty (.int x) = .int x) (hd : decode cc pc = .ok (.ireturn, 1)) (ha : Acc (some (.int x)) ad T M) (h1 : ce ≤ mc) (h2 : so ≤ ms) : gG Z ad T M ce so pc ls [.int x] := by
  obtain ⟨p, l, e, R, s, m, args, below, meth, c, Q, adV, hKq, hx, hb, hml, hown, hts, hK, hH, hA, hE, hRm, hnm, hlk, hst, r1, r2, r3, r4, r5, r6⟩ := hF
  intro H locs la hR hl
  rw [hKq]
  exact r1 H locs ce so pc la ad T M x ty hR hrt hn hd ha h1 h2
theorem g_ret_l (hF : gFix Z cc own nm rt d mc ms Acc AccX) {x : Int64} (hrt : rt = some .long) (hd : decode cc pc = .ok (.lreturn, 1)) (ha : Acc (some (.long x)) ad T M) (h1 : ce ≤ mc) (h2 : so ≤ ms) : gG Z ad T M ce so pc ls [.long x] := by
  obtain ⟨p, l, e, R, s, m, args, below, meth, c, Q, adV, hKq, hx, hb, hml, hown, hts, hK, hH, hA, hE, hRm, hnm, hlk, hst, r1, r2, r3, r4, r5, r6⟩ := hF
  intro H locs la hR hl
  rw [hKq]
  exact r2 H locs ce so pc la ad T M x hR hrt hd ha h1 h2
theorem g_ret_a (hF : gFix Z cc own nm rt d mc ms Acc AccX) {a : Nat} {ty : FieldType} (hrt : rt = some ty) (hty : ((∃ n, ty = .object n) ∨ ∃ t, ty = .array t)) (hd : decode cc pc = .ok (.areturn, 1)) (ha : Acc (some (.ref a)) ad T M) (h1 : ce ≤ mc) (h2 : so ≤ ms) : gG Z ad T M ce so pc ls [.ref a] := by
  obtain ⟨p, l, e, R, s, m, args, below, meth, c, Q, adV, hKq, hx, hb, hml, hown, hts, hK, hH, hA, hE, hRm, hnm, hlk, hst, r1, r2, r3, r4, r5, r6⟩ := hF
  intro H locs la hR hl
  rw [hKq]
  exact r3 H locs ce so pc la ad T M a ty hR hrt hty hd ha h1 h2
theorem g_ret_v (hF : gFix Z cc own nm rt d mc ms Acc AccX) (hrt : rt = none) (hd : decode cc pc = .ok (.return_, 1)) (ha : Acc none ad T M) (h1 : ce ≤ mc) (h2 : so ≤ ms) : gG Z ad T M ce so pc ls [] := by
  obtain ⟨p, l, e, R, s, m, args, below, meth, c, Q, adV, hKq, hx, hb, hml, hown, hts, hK, hH, hA, hE, hRm, hnm, hlk, hst, r1, r2, r3, r4, r5, r6⟩ := hF
  intro H locs la hR hl
  rw [hKq]
  exact r4 H locs ce so pc la ad T M hR hrt hd ha h1 h2
theorem g_ldcS (hF : gFix Z cc own nm rt d mc ms Acc AccX) {index a : Nat} {tx : String} (hw : (own, index, tx, a) ∈ gLit) (ha : gSB ≤ a) (hd : decode cc pc = .ok (.ldc index, 2))
    (k : gG Z ad T M ce so (pc + 2) ls (.ref a :: st)) : gG Z ad T M ce so pc ls st := by
  obtain ⟨p, l, e, R, s, m, args, below, meth, c, Q, adV, hKq, hx, hb, hml, hown, hts, hK, hH, hA, hE, hRm, hnm, hlk, -⟩ := hF
  intro H locs la hR hl
  have k := k H locs la hR hl
  rw [hKq] at k ⊢
  have h1 := hE.2.1 _ hw
  rw [← hR.2.2.2.2 a ha] at h1
  exact va_ldcS hx hb hown h1 hd k
end GR
