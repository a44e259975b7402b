/-! THE ABSTRACT MEMORY. Objects and arrays have numbers (an abstract address); T lists their shapes (kind, length): kinds 0..9 and 16..20 objects of vwCl, 10 byte[], 11 int[], 12 long[], 13 Data[], 14 Library[], 15 int[][], 21 the law's Library[], 22 its Linker[]; M holds numbers, longs and references by address and place. -/
abbrev gT : Type := List (Nat × Nat)
abbrev gM : Type := (Nat → Nat → Int32) × (Nat → Nat → Int64) × (Nat → Nat → Option Nat)
def gu {α : Type} (f : Nat → Nat → α) (a k : Nat) (v : α) : Nat → Nat → α := fun b j => if b = a ∧ j = k then v else f b j
def gi (M : gM) (a k : Nat) : Int32 := M.1 a k
def gl (M : gM) (a k : Nat) : Int64 := M.2.1 a k
def gr (M : gM) (a k : Nat) : Option Nat := M.2.2 a k
def si (M : gM) (a k : Nat) (v : Int32) : gM := (gu M.1 a k v, M.2.1, M.2.2)
def sl (M : gM) (a k : Nat) (v : Int64) : gM := (M.1, gu M.2.1 a k v, M.2.2)
def sr (M : gM) (a k : Nat) (v : Option Nat) : gM := (M.1, M.2.1, gu M.2.2 a k v)
/-- a fresh thing at a: all 0 -/
def zr (M : gM) (a : Nat) : gM := (fun b j => if b = a then 0 else M.1 b j, fun b j => if b = a then 0 else M.2.1 b j, fun b j => if b = a then none else M.2.2 b j)
/-- arraycopy of numbers from src to dst -/
def cpi (M : gM) (src sp dst dp n : Nat) : gM := (fun b j => if b = dst ∧ dp ≤ j ∧ j < dp + n then M.1 src (sp + (j - dp)) else M.1 b j, M.2.1, M.2.2)
theorem gi_si (M : gM) (a k : Nat) (v : Int32) (b j : Nat) : gi (si M a k v) b j = if b = a ∧ j = k then v else gi M b j := rfl
theorem gi_sl (M : gM) (a k : Nat) (v : Int64) (b j : Nat) : gi (sl M a k v) b j = gi M b j := rfl
theorem gi_sr (M : gM) (a k : Nat) (v : Option Nat) (b j : Nat) : gi (sr M a k v) b j = gi M b j := rfl
theorem gl_si (M : gM) (a k : Nat) (v : Int32) (b j : Nat) : gl (si M a k v) b j = gl M b j := rfl
theorem gl_sl (M : gM) (a k : Nat) (v : Int64) (b j : Nat) : gl (sl M a k v) b j = if b = a ∧ j = k then v else gl M b j := rfl
theorem gl_sr (M : gM) (a k : Nat) (v : Option Nat) (b j : Nat) : gl (sr M a k v) b j = gl M b j := rfl
theorem gr_si (M : gM) (a k : Nat) (v : Int32) (b j : Nat) : gr (si M a k v) b j = gr M b j := rfl
theorem gr_sl (M : gM) (a k : Nat) (v : Int64) (b j : Nat) : gr (sl M a k v) b j = gr M b j := rfl
theorem gr_sr (M : gM) (a k : Nat) (v : Option Nat) (b j : Nat) : gr (sr M a k v) b j = if b = a ∧ j = k then v else gr M b j := rfl
theorem gi_zr (M : gM) (a b j : Nat) : gi (zr M a) b j = if b = a then 0 else gi M b j := rfl
theorem gl_zr (M : gM) (a b j : Nat) : gl (zr M a) b j = if b = a then 0 else gl M b j := rfl
theorem gr_zr (M : gM) (a b j : Nat) : gr (zr M a) b j = if b = a then none else gr M b j := rfl
theorem gi_cpi (M : gM) (s p d q n b j : Nat) : gi (cpi M s p d q n) b j = if b = d ∧ q ≤ j ∧ j < q + n then gi M s (p + (j - q)) else gi M b j := rfl
theorem gl_cpi (M : gM) (s p d q n b j : Nat) : gl (cpi M s p d q n) b j = gl M b j := rfl
theorem gr_cpi (M : gM) (s p d q n b j : Nat) : gr (cpi M s p d q n) b j = gr M b j := rfl
/-- the kinds of a class's fields: 0 a number, 1 a long, 2 a reference -/
def gK (c : Nat) : List Nat := match c with
  | 0 => [2, 0, 0, 0, 2]
  | 1 => [2, 2, 2, 2, 2, 2, 2]
  | 2 => [2, 0, 0]
  | 3 => [0, 0, 0, 2, 2, 0]
  | 4 => [2, 0, 0]
  | 5 => [2, 2, 2, 2, 2, 0, 0, 0, 0, 0, 0]
  | 6 => [2, 0, 0, 0, 0, 1, 0, 0]
  | 7 => [2, 2]
  | 8 => [2, 0, 0, 2, 2, 2, 2, 2, 2]
  | 9 => [0, 0, 2, 2]
  | 16 => [0, 0, 2, 2, 2]
  | 17 => [0, 0, 2, 2]
  | 18 => [0]
  | 19 => [2, 0, 0, 0]
  | 20 => [2, 0, 0, 0]
  | _ => []
/-- the kinds that are objects -/
abbrev gOb (c : Nat) : Prop := c < 10 ∨ (16 ≤ c ∧ c < 21)
/-- the kinds that are arrays -/
abbrev gAr (c : Nat) : Prop := (10 ≤ c ∧ c < 16) ∨ c = 21 ∨ c = 22
def gv (ad : Nat → Nat) (v : Value) : Value := match v with
  | .ref a => .ref (ad a)
  | w => w
theorem gv_cat (ad : Nat → Nat) (v : Value) : (gv ad v).category = v.category := by cases v <;> rfl
def gfv (M : gM) (ad : Nat → Nat) (a k kd : Nat) : Value := if kd = 0 then .int (gi M a k) else if kd = 1 then .long (gl M a k) else va_rf ((gr M a k).map ad)
def gE (dA : Nat → ClassId) (ad : Nat → Nat) (M : gM) (a : Nat) (sh : Nat × Nat) : va_E :=
  if gOb sh.1 then .inr (sh.1, (gK sh.1).mapIdx (gfv M ad a))
  else if sh.1 < 12 then .inl (dA sh.1, sh.2, .inl (fun j => gi M a j))
  else if sh.1 = 12 then .inl (dA sh.1, sh.2, .inr (.inl (fun j => gl M a j)))
  else .inl (dA sh.1, sh.2, .inr (.inr (.inr (.inr (fun j => (gr M a j).map ad)))))
def gW (dA : Nat → ClassId) (ad : Nat → Nat) (T : gT) (M : gM) : va_W := T.mapIdx (fun a sh => (ad a, gE dA ad M a sh))
def gTy (dA : Nat → ClassId) : List (ClassId × FieldType) := [(dA 10, .byte), (dA 11, .int), (dA 12, .long), (dA 13, .object RX0), (dA 14, .object RX3), (dA 15, .array .int), (dA 21, .object RX9), (dA 22, .object RX10)]
theorem gW_get {dA : Nat → ClassId} {ad : Nat → Nat} {T : gT} {M : gM} {a : Nat} {sh : Nat × Nat} (h : T[a]? = some sh) : (gW dA ad T M)[a]? = some (ad a, gE dA ad M a sh) := by
  unfold gW
  rw [List.getElem?_mapIdx, h]
  rfl
theorem gW_len {dA : Nat → ClassId} {ad : Nat → Nat} {T : gT} {M : gM} : (gW dA ad T M).length = T.length := by simp [gW]
theorem gW_inv {dA : Nat → ClassId} {ad : Nat → Nat} {T : gT} {M : gM} {k : Nat} {q : Nat × va_E} (h : (gW dA ad T M)[k]? = some q) : ∃ sh, T[k]? = some sh ∧ q = (ad k, gE dA ad M k sh) := by
  unfold gW at h
  rw [List.getElem?_mapIdx] at h
  cases hk : T[k]? with
  | none => rw [hk] at h; cases h
  | some sh => rw [hk] at h; exact ⟨sh, rfl, (Option.some.inj h).symm⟩
/-- the world with one cell written is the world of the written memory -/
theorem gW_set {dA : Nat → ClassId} {ad : Nat → Nat} {T : gT} {M M' : gM} {a : Nat} {sh : Nat × Nat} {e : va_E} (h : T[a]? = some sh) (he : gE dA ad M' a sh = e) (hne : ∀ b sh', b ≠ a → gE dA ad M' b sh' = gE dA ad M b sh') : (gW dA ad T M).set a (ad a, e) = gW dA ad T M' := by
  apply List.ext_getElem?
  intro k
  by_cases hk : k = a
  · subst hk
    rw [List.getElem?_set_self (by rw [gW_len]; exact (List.getElem?_eq_some_iff.mp h).1), gW_get h, he]
  · rw [List.getElem?_set_ne (Ne.symm hk)]
    unfold gW
    rw [List.getElem?_mapIdx, List.getElem?_mapIdx]
    cases T[k]? with
    | none => rfl
    | some sh' => simp only [Option.map_some, hne k sh' hk]
theorem gE_ext {dA : Nat → ClassId} {ad : Nat → Nat} {M M' : gM} {a : Nat} {sh : Nat × Nat} (h1 : ∀ j, gi M' a j = gi M a j) (h2 : ∀ j, gl M' a j = gl M a j) (h3 : ∀ j, gr M' a j = gr M a j) : gE dA ad M' a sh = gE dA ad M a sh := by
  have e0 : gfv M' ad a = gfv M ad a := by
    funext k kd
    simp only [gfv, h1, h2, h3]
  simp only [gE, e0, h1, h2, h3]
theorem gE_si {dA : Nat → ClassId} {ad : Nat → Nat} {M : gM} {a k : Nat} {v : Int32} : ∀ b sh', b ≠ a → gE dA ad (si M a k v) b sh' = gE dA ad M b sh' := fun b sh' hb => gE_ext (fun j => by rw [gi_si, if_neg (fun q => hb q.1)]) (fun j => rfl) (fun j => rfl)
theorem gE_sl {dA : Nat → ClassId} {ad : Nat → Nat} {M : gM} {a k : Nat} {v : Int64} : ∀ b sh', b ≠ a → gE dA ad (sl M a k v) b sh' = gE dA ad M b sh' := fun b sh' hb => gE_ext (fun j => rfl) (fun j => by rw [gl_sl, if_neg (fun q => hb q.1)]) (fun j => rfl)
theorem gE_sr {dA : Nat → ClassId} {ad : Nat → Nat} {M : gM} {a k : Nat} {v : Option Nat} : ∀ b sh', b ≠ a → gE dA ad (sr M a k v) b sh' = gE dA ad M b sh' := fun b sh' hb => gE_ext (fun j => rfl) (fun j => rfl) (fun j => by rw [gr_sr, if_neg (fun q => hb q.1)])
theorem gE_cpi {dA : Nat → ClassId} {ad : Nat → Nat} {M : gM} {s p d q n : Nat} : ∀ b sh', b ≠ d → gE dA ad (cpi M s p d q n) b sh' = gE dA ad M b sh' := fun b sh' hb => gE_ext (fun j => by rw [gi_cpi, if_neg (fun z => hb z.1)]) (fun j => rfl) (fun j => rfl)
theorem gfs_get {M : gM} {ad : Nat → Nat} {a k c kd : Nat} (h : (gK c)[k]? = some kd) : ((gK c).mapIdx (gfv M ad a))[k]? = some (gfv M ad a k kd) := by
  rw [List.getElem?_mapIdx, h]; rfl
theorem gfs_set {M M' : gM} {ad : Nat → Nat} {a k c kd : Nat} {v : Value} (h : (gK c)[k]? = some kd) (hv : gfv M' ad a k kd = v) (hne : ∀ j kd', j ≠ k → gfv M' ad a j kd' = gfv M ad a j kd') : (gK c).mapIdx (gfv M' ad a) = ((gK c).mapIdx (gfv M ad a)).set k v := by
  apply List.ext_getElem?
  intro j
  by_cases hj : j = k
  · subst hj
    rw [List.getElem?_set_self (by rw [List.length_mapIdx]; exact (List.getElem?_eq_some_iff.mp h).1), List.getElem?_mapIdx, h]
    simp only [Option.map_some, hv]
  · rw [List.getElem?_set_ne (Ne.symm hj), List.getElem?_mapIdx, List.getElem?_mapIdx]
    cases (gK c)[j]? with
    | none => rfl
    | some kd' => simp only [Option.map_some, hne j kd' hj]
theorem gfv_si {M : gM} {ad : Nat → Nat} {a k : Nat} {v : Int32} : ∀ j kd', j ≠ k → gfv (si M a k v) ad a j kd' = gfv M ad a j kd' := fun j kd' hj => by
  simp only [gfv, gi_si, gl_si, gr_si, true_and, if_neg hj]
theorem gfv_sl {M : gM} {ad : Nat → Nat} {a k : Nat} {v : Int64} : ∀ j kd', j ≠ k → gfv (sl M a k v) ad a j kd' = gfv M ad a j kd' := fun j kd' hj => by
  simp only [gfv, gi_sl, gl_sl, gr_sl, true_and, if_neg hj]
theorem gfv_sr {M : gM} {ad : Nat → Nat} {a k : Nat} {v : Option Nat} : ∀ j kd', j ≠ k → gfv (sr M a k v) ad a j kd' = gfv M ad a j kd' := fun j kd' hj => by
  simp only [gfv, gi_sr, gl_sr, gr_sr, true_and, if_neg hj]
/-- every reference held is to a thing that is there -/
def gCl (T : gT) (M : gM) : Prop := ∀ a k b : Nat, gr M a k = some b → b < T.length
theorem gCl_si {T : gT} {M : gM} {a k : Nat} {v : Int32} (h : gCl T M) : gCl T (si M a k v) := h
theorem gCl_sl {T : gT} {M : gM} {a k : Nat} {v : Int64} (h : gCl T M) : gCl T (sl M a k v) := h
theorem gCl_cpi {T : gT} {M : gM} {s p d q n : Nat} (h : gCl T M) : gCl T (cpi M s p d q n) := h
theorem gCl_sr {T : gT} {M : gM} {a k b : Nat} (h : gCl T M) (hb : b < T.length) : gCl T (sr M a k (some b)) := fun a' k' b' e => by
  rw [gr_sr] at e
  split at e
  · cases e; exact hb
  · exact h a' k' b' e
theorem gCl_zr {T : gT} {M : gM} {a : Nat} {sh : Nat × Nat} (h : gCl T M) : gCl (T ++ [sh]) (zr M a) := fun a' k' b' e => by
  rw [gr_zr] at e
  split at e
  · cases e
  · have := h a' k' b' e
    rw [List.length_append]
    omega
/-- the strings: abstract addresses from gSB on; what they spell -/
def gSB : Nat := 1000000
def gStrs : List (List Nat) := ["link".toList.map Char.toNat, "name".toList.map Char.toNat, "library".toList.map Char.toNat, "offer".toList.map Char.toNat, "prefer".toList.map Char.toNat, "share".toList.map Char.toNat, "weight".toList.map Char.toNat, "keeps".toList.map Char.toNat, "to".toList.map Char.toNat, "trust".toList.map Char.toNat, "rank".toList.map Char.toNat, "offers".toList.map Char.toNat, "friends".toList.map Char.toNat, "link;".toList.map Char.toNat, "name ".toList.map Char.toNat, "n".toList.map Char.toNat, "lib".toList.map Char.toNat, ";".toList.map Char.toNat, "library ".toList.map Char.toNat, " ".toList.map Char.toNat, "".toList.map Char.toNat, " keeps;".toList.map Char.toNat, "offer ".toList.map Char.toNat, "to ".toList.map Char.toNat, "prefer ".toList.map Char.toNat, " ;".toList.map Char.toNat, "share ".toList.map Char.toNat, "weight ".toList.map Char.toNat, "+".toList.map Char.toNat, " - ".toList.map Char.toNat, "* ".toList.map Char.toNat, "/".toList.map Char.toNat, "(".toList.map Char.toNat, ")".toList.map Char.toNat]
/-! THE JUDGEMENT. K: what the machine's frame owes at a place, by heap, written places, cells, slots, pc, locals and stack. -/
abbrev gZ : Type := (Heap → List Loc → Nat → Nat → Nat → Array Slot → List Value → Prop) × (Nat → Prop) × Heap × va_G × (Nat → ClassId) × Nat × (Nat → Nat)
def gmp (ad : Nat → Nat) (ls : List (Nat × Value)) : List (Nat × Value) := ls.map (fun q => (q.1, gv ad q.2))
def gRp (Z : gZ) (ad : Nat → Nat) (T : gT) (M : gM) (H : Heap) (locs : List Loc) : Prop := va_P Z.2.2.2.1 vwCl (gW Z.2.2.2.2.1 ad T M) H ∧ va_D Z.2.1 (gW Z.2.2.2.2.1 ad T M) ∧ va_S Z.2.1 Z.2.2.1 H locs ∧ gCl T M ∧ ∀ a : Nat, gSB ≤ a → ad a = Z.2.2.2.2.2.2 a
def gG (Z : gZ) (ad : Nat → Nat) (T : gT) (M : gM) (ce so pc : Nat) (ls : List (Nat × Value)) (st : List Value) : Prop :=
  ∀ (H : Heap) (locs : List Loc) (la : Array Slot), gRp Z ad T M H locs → lv_has la Z.2.2.2.2.2.1 (gmp ad ls) → Z.1 H locs ce so pc la (st.map (gv ad))
theorem gl_at {la : Array Slot} {nL : Nat} {ad : Nat → Nat} {ls : List (Nat × Value)} (h : lv_has la nL (gmp ad ls)) (j : Nat) {i : Nat} {v : Value} (hj : ls[j]? = some (i, v)) : la[i]? = some (.val (gv ad v)) := lv_at h j (by rw [gmp, List.getElem?_map, hj]; rfl)
theorem gl_st1 {ad : Nat → Nat} {i : Nat} {v : Value} {ls ls' : List (Nat × Value)} (h : (i, v) :: ls.filter (fun q => !(q.1 == i) && !(q.1 + 1 == i && q.2.category == 2)) = ls') : (i, gv ad v) :: (gmp ad ls).filter (fun q => !(q.1 == i) && !(q.1 + 1 == i && q.2.category == 2)) = gmp ad ls' := by
  subst h
  simp only [gmp, List.filter_map, List.map_cons]
  congr 2
  apply List.filter_congr
  intro x _
  simp only [Function.comp, gv_cat]
theorem gl_st2 {ad : Nat → Nat} {i : Nat} {v : Value} {ls ls' : List (Nat × Value)} (h : (i, v) :: ls.filter (fun q => !(q.1 == i) && (!(q.1 == i + 1) && !(q.1 + 1 == i && q.2.category == 2))) = ls') : (i, gv ad v) :: (gmp ad ls).filter (fun q => !(q.1 == i) && (!(q.1 == i + 1) && !(q.1 + 1 == i && q.2.category == 2))) = gmp ad ls' := by
  subst h
  simp only [gmp, List.filter_map, List.map_cons]
  congr 2
  apply List.filter_congr
  intro x _
  simp only [Function.comp, gv_cat]
theorem gG_sub {Z : gZ} {ad : Nat → Nat} {T : gT} {M : gM} {ce so pc : Nat} {ls ls' : List (Nat × Value)} {st : List Value} (ks : List Nat) (h : lv_pick ls ks = ls') (k : gG Z ad T M ce so pc ls' st) : gG Z ad T M ce so pc ls st := by
  intro H locs la hR hl
  refine k H locs la hR (lv_sub hl ks ?_)
  subst h
  unfold lv_pick gmp
  rw [List.map_filterMap]
  congr 1
  funext x
  rw [List.getElem?_map]
/-- the words of the nest mates, which aren't passed by the lists -/
def gNb (w : Cond) : Bool := match w with
  | .fieldLinkNest .. => true
  | .methodLinkNest .. => true
  | .declares _ => true
  | .castable _ _ => true
  | .privateMethod _ => true
  | _ => false
def gNw : List Cond := lw_tbl.filter gNb
/-- the class of int[][] is there -/
def va_AO2 (U : State) : Prop := ∃ (comp c : ClassId) (k : Class), U.vm.findClass (FieldType.array .int).toString = some comp ∧ (U.vm.classes.findIdx? fun (x : Class) => match x.kind with | .array component _ => component == comp | _ => false) = some c ∧ U.vm.classes[c]? = some k ∧ k.kind = .array comp (.array .int) ∧ U.vm.findClass ("[" ++ (FieldType.array .int).toString) = some c
theorem va_AO2.moved {u U : State} (hvm : u.vm.Alike U.vm) (h : va_AO2 u) : va_AO2 U := by
  obtain ⟨comp, c, k, h1, h2, h3, h4, h5⟩ := h
  obtain ⟨k', hk', he⟩ := hvm.2.2 _ _ h3
  refine ⟨comp, c, k', by rw [hvm.findClass]; exact h1, ?_, hk', by rw [he]; exact h4, by rw [hvm.findClass]; exact h5⟩
  have e1 := va_idx_bare U.vm comp
  rw [hvm.bare_eq] at e1
  exact (e1.symm.trans (va_idx_bare u.vm comp)).trans h2
/-- the String constants by class and entry: what they spell, and their abstract addresses -/
def gLit : List (String × Nat × String × Nat) := [("LinkElection", 65, "length is not within the buffer", gSB + 103), ("LinkElection$SetupReader", 69, "link", gSB + 0), ("LinkElection$SetupReader", 99, "name", gSB + 1), ("LinkElection$SetupReader", 107, "library", gSB + 2), ("LinkElection$SetupReader", 164, "keeps", gSB + 7), ("LinkElection$SetupReader", 112, "offer", gSB + 3), ("LinkElection$SetupReader", 180, "to", gSB + 8), ("LinkElection$SetupReader", 117, "prefer", gSB + 4), ("LinkElection$SetupReader", 122, "share", gSB + 5), ("LinkElection$SetupReader", 127, "weight", gSB + 6), ("LinkElection$SetupReader", 206, "trust", gSB + 9), ("LinkElection$SetupReader", 208, "rank", gSB + 10), ("LinkElection$SetupReader", 210, "offers", gSB + 11), ("LinkElection$SetupReader", 211, "friends", gSB + 12), ("LinkElection", 237, "there is no such name", gSB + 102), ("LinkElection", 234, "there is no such library", gSB + 100), ("LinkElection", 175, "the library is not loaded", gSB + 104), ("LinkElection", 184, "the library is loaded", gSB + 105), ("LinkElection", 193, "value is not 0 to 9999", gSB + 106), ("LinkElection", 203, "the library does not offer this name", gSB + 107), ("LinkElection", 205, "trust is not 0 to 999", gSB + 108), ("LinkElection", 207, "share is not 0 to 100", gSB + 109), ("LinkElectionLaw", 145, "link;", gSB + 13), ("LinkElectionLaw", 151, "name ", gSB + 14), ("LinkElectionLaw", 112, "to", gSB + 8), ("LinkElectionLaw", 117, "n", gSB + 15), ("LinkElectionLaw", 129, "keeps", gSB + 7), ("LinkElectionLaw", 131, "lib", gSB + 16), ("LinkElectionLaw", 157, ";", gSB + 17), ("LinkElectionLaw", 176, "library ", gSB + 18), ("LinkElectionLaw", 178, " ", gSB + 19), ("LinkElectionLaw", 180, "", gSB + 20), ("LinkElectionLaw", 185, " keeps;", gSB + 21), ("LinkElectionLaw", 194, "offer ", gSB + 22), ("LinkElectionLaw", 196, "to ", gSB + 23), ("LinkElectionLaw", 205, "prefer ", gSB + 24), ("LinkElectionLaw", 207, " ;", gSB + 25), ("LinkElectionLaw", 212, "share ", gSB + 26), ("LinkElectionLaw", 224, "weight ", gSB + 27), ("LinkElectionLaw$Node", 37, "", gSB + 20), ("LinkElectionLaw$Node", 60, "+", gSB + 28), ("LinkElectionLaw$Node", 62, " - ", gSB + 29), ("LinkElectionLaw$Node", 64, "* ", gSB + 30), ("LinkElectionLaw$Node", 66, "/", gSB + 31), ("LinkElectionLaw$Node", 68, "(", gSB + 32), ("LinkElectionLaw$Node", 70, ")", gSB + 33), ("LinkElection", 129, "what is not 0 to 5", gSB + 101), ("LinkElectionLaw", 318, "trust", gSB + 9), ("LinkElectionLaw", 319, "rank", gSB + 10), ("LinkElectionLaw", 320, "offers", gSB + 11), ("LinkElectionLaw", 321, "friends", gSB + 12)]
/-- the tables' words that a call hands on -/
def gWS : List Cond := lw_tbl.filter goodWord
theorem gws_of {w : Cond} (i : Nat) (h : lw_tbl[i]? = some w) (hg : goodWord w = true) : w ∈ gWS := List.mem_filter.mpr ⟨List.mem_of_getElem? h, hg⟩
theorem gnw_of {w : Cond} (i : Nat) (h : lw_tbl[i]? = some w) (hg : gNb w = true) : w ∈ gNw := List.mem_filter.mpr ⟨List.mem_of_getElem? h, hg⟩
/-- pairs of exceptions of which the first isn't the second -/
def gNcs : List (String × String) := [("java/lang/IllegalArgumentException", "java/lang/IndexOutOfBoundsException"), ("java/lang/IllegalStateException", "java/lang/IndexOutOfBoundsException")]
/-- the static rows: digits, and the names of the variables -/
def gDg (a j : Nat) : Int32 := if a = 2002 then Int32.ofNat (48 + j % 10) else Int32.ofNat (48 + j / 10)
def gDig (A : Nat → Prop) (ad : Nat → Nat) (U : State) (H : Heap) : Prop := va_Z "java/lang/Integer" "DigitOnes" "[B" (.ref (ad (gSB + 2002))) A U H ∧ va_Z "java/lang/Integer" "DigitTens" "[B" (.ref (ad (gSB + 2003))) A U H ∧ va_Z "LinkElectionLaw" "VARIABLES" "[Ljava/lang/String;" (.ref (ad (gSB + 2001))) A U H ∧ va_T .byte (ad (gSB + 2002)) 100 (fun j => .int (gDg 2002 j)) A U H ∧ va_T .byte (ad (gSB + 2003)) 100 (fun j => .int (gDg 2003 j)) A U H ∧ va_T (.object "java/lang/String") (ad (gSB + 2001)) 4 (fun j => .ref (ad (gSB + 9 + j))) A U H
theorem gDig.moved {A : Nat → Prop} {ad : Nat → Nat} {u U : State} {H : Heap} (hvm : u.vm.Alike U.vm) (h : gDig A ad u H) : gDig A ad U H := ⟨va_Z.moved hvm h.1, va_Z.moved hvm h.2.1, va_Z.moved hvm h.2.2.1, va_T.moved hvm h.2.2.2.1, va_T.moved hvm h.2.2.2.2.1, va_T.moved hvm h.2.2.2.2.2⟩
theorem gDig.kept {A : Nat → Prop} {ad : Nat → Nat} {U : State} {H H1 : Heap} (h : gDig A ad U H) (hq : ∀ a : Nat, a < H.size → ¬ A a → H1[a]? = H[a]?) : gDig A ad U H1 := ⟨h.1.kept hq, h.2.1.kept hq, h.2.2.1.kept hq, h.2.2.2.1.kept hq, h.2.2.2.2.1.kept hq, h.2.2.2.2.2.kept hq⟩
theorem gDig.narrow {A B : Nat → Prop} {ad : Nat → Nat} {U : State} {H : Heap} (h : gDig A ad U H) (hAB : ∀ q, B q → A q) : gDig B ad U H := ⟨h.1.narrow hAB, h.2.1.narrow hAB, h.2.2.1.narrow hAB, h.2.2.2.1.narrow hAB, h.2.2.2.2.1.narrow hAB, h.2.2.2.2.2.narrow hAB⟩
theorem gDig.to {A : Nat → Prop} {ad ad1 : Nat → Nat} {U : State} {H : Heap} (h : gDig A ad U H) (had : ∀ a : Nat, gSB ≤ a → ad1 a = ad a) : gDig A ad1 U H := by
  unfold gDig
  rw [had _ (Nat.le_add_right _ _), had _ (Nat.le_add_right _ _), had _ (Nat.le_add_right _ _), show (fun j => Value.ref (ad1 (gSB + 9 + j))) = (fun j => Value.ref (ad (gSB + 9 + j))) from funext fun j => by rw [had _ (by omega)]]
  exact h
/-- what a method may take for granted of the machine's state, beside its memory -/
def gEnv (A : Nat → Prop) (adV ad : Nat → Nat) (U : State) (H : Heap) : Prop :=
  (∀ w ∈ gNw, va_Nw w U) ∧ (∀ q ∈ gLit, vk_R q.1 q.2.1 q.2.2.1 (ad q.2.2.2) U) ∧ vk_S 34 (gStrs.map List.length) (gStrs.map (fun l => l.map Int32.ofNat)) (fun i => ad (gSB + i)) adV A U H ∧
  vx_Zq Bundle.tN "UNASSIGNED_STACK" Bundle.steD A U H ∧ vx_Zq Bundle.tN "SUPPRESSED_SENTINEL" Bundle.listD A U H ∧ va_AO RX0 U ∧ va_AO RX3 U ∧ va_AO RX9 U ∧ va_AO RX10 U ∧ va_AO2 U ∧ (∀ q ∈ gNcs, va_Nc q.1 q.2 U) ∧
  va_Z "java/lang/String" "COMPACT_STRINGS" "Z" (.int 1) A U H ∧ (va_Z "jdk/internal/util/Preconditions" "SIOOBE_FORMATTER" "Ljava/util/function/BiFunction;" .null A U H ∨ va_Z "jdk/internal/util/Preconditions" "SIOOBE_FORMATTER" "Ljava/util/function/BiFunction;" (.ref (ad (gSB + 2000))) A U H) ∧ (∀ i : Nat, i < 34 → ad (gSB + 1000 + i) = adV i) ∧ gDig A ad U H
