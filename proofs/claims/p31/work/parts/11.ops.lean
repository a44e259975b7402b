/-! OPERATIONS of the functions that are read off the bytecode: none where the machine would throw by itself -/
def gFU : Nat := 3000
def alen (T : gT) (a : Nat) : Nat := (T.getD a (0, 0)).2
theorem alen_of {T : gT} {a kd n : Nat} (h : T[a]? = some (kd, n)) : alen T a = n := by
  unfold alen
  rw [List.getD_eq_getElem?_getD, h]
  rfl
def ald (T : gT) (M : gM) (a : Nat) (i : Int32) : Option Int32 := if i < 0 ∨ alen T a ≤ i.toNatClampNeg then none else some (gi M a i.toNatClampNeg)
def aldl (T : gT) (M : gM) (a : Nat) (i : Int32) : Option Int64 := if i < 0 ∨ alen T a ≤ i.toNatClampNeg then none else some (gl M a i.toNatClampNeg)
def ast (T : gT) (M : gM) (a : Nat) (i x : Int32) : Option gM := if i < 0 ∨ alen T a ≤ i.toNatClampNeg then none else some (si M a i.toNatClampNeg x)
def astl (T : gT) (M : gM) (a : Nat) (i : Int32) (x : Int64) : Option gM := if i < 0 ∨ alen T a ≤ i.toNatClampNeg then none else some (sl M a i.toNatClampNeg x)
def astr (T : gT) (M : gM) (a : Nat) (i : Int32) (b : Nat) : Option gM := if i < 0 ∨ alen T a ≤ i.toNatClampNeg then none else some (sr M a i.toNatClampNeg (some b))
def ldr (T : gT) (M : gM) (a k kd : Nat) : Option Nat := match gr M a k with
  | some b => if (T[b]?).map Prod.fst = some kd then some b else none
  | none => none
def aldr (T : gT) (M : gM) (a : Nat) (i : Int32) (kd : Nat) : Option Nat := if i < 0 ∨ alen T a ≤ i.toNatClampNeg then none else ldr T M a i.toNatClampNeg kd
def chk (c : Prop) [Decidable c] : Option Unit := if c then some () else none
def slen (i : Nat) : Option Int32 := if i < 34 then some (Int32.ofNat (gSl i)) else none
def sch (i : Nat) (k : Int32) : Option Int32 := if i < 34 ∧ 0 ≤ k ∧ k.toNatClampNeg < gSl i then some (gSc i k.toNatClampNeg) else none
def acp (T : gT) (M : gM) (b : Nat) (sp : Int32) (a : Nat) (dp n : Int32) : Option gM := if sp < 0 ∨ dp < 0 ∨ n < 0 ∨ alen T b < sp.toNatClampNeg + n.toNatClampNeg ∨ alen T a < dp.toNatClampNeg + n.toNatClampNeg then none else some (cpi M b sp.toNatClampNeg a dp.toNatClampNeg n.toNatClampNeg)
def acpb (T : gT) (M : gM) (b : Nat) (sp : Int32) (a : Nat) (dp n : Int32) : Option gM := if sp < 0 ∨ dp < 0 ∨ n < 0 ∨ alen T b < sp.toNatClampNeg + n.toNatClampNeg ∨ alen T a < dp.toNatClampNeg + n.toNatClampNeg ∨ ¬ (∀ j, j < n.toNatClampNeg → fits .byte (.int (gi M b (sp.toNatClampNeg + j))) = true) then none else some (cpi M b sp.toNatClampNeg a dp.toNatClampNeg n.toNatClampNeg)
def gnewa (T : gT) (M : gM) (kd : Nat) (n : Int32) (bd : Nat) : Option (Nat × gT × gM) := if n < 0 ∨ bd < n.toNatClampNeg then none else gnew T M (kd, n.toNatClampNeg)
abbrev imax (x y : Int32) : Int32 := if x < y then y else x
abbrev imin (x y : Int32) : Int32 := if y < x then y else x
abbrev lmax (x y : Int64) : Int64 := if y < x then x else y
abbrev lmin (x y : Int64) : Int64 := if y < x then y else x
abbrev irem (x y : Int32) : Int32 := x - x / y * y
theorem gbnd {α β : Type} {o : Option α} {f : α → Option β} {b : β} (h : o.bind f = some b) : ∃ a, o = some a ∧ f a = some b := Option.bind_eq_some_iff.mp h
theorem gif_t {α : Type} {c : Prop} {d : Decidable c} {a b : α} {r : α} (hc : c) (h : (if c then a else b) = r) : a = r := by rw [if_pos hc] at h; exact h
theorem gif_f {α : Type} {c : Prop} {d : Decidable c} {a b : α} {r : α} (hc : ¬ c) (h : (if c then a else b) = r) : b = r := by rw [if_neg hc] at h; exact h
theorem gif_n {α : Type} {c : Prop} {d : Decidable (¬ c)} {a b : α} {r : α} (hc : c) (h : (if ¬ c then a else b) = r) : b = r := by rw [if_neg (fun q => q hc)] at h; exact h
section GOPS
variable {T : gT} {M M' : gM} {a b kd n : Nat} {i x : Int32}
theorem ald_sp {v : Int32} (hT : T[a]? = some (kd, n)) (h : ald T M a i = some v) : vp_in i n ∧ v = gi M a i.toNatClampNeg := by
  unfold ald at h
  rw [alen_of hT] at h
  split at h
  · cases h
  · exact ⟨by assumption, (Option.some.inj h).symm⟩
theorem aldl_sp {v : Int64} (hT : T[a]? = some (kd, n)) (h : aldl T M a i = some v) : vp_in i n ∧ v = gl M a i.toNatClampNeg := by
  unfold aldl at h
  rw [alen_of hT] at h
  split at h
  · cases h
  · exact ⟨by assumption, (Option.some.inj h).symm⟩
theorem ast_sp (hT : T[a]? = some (kd, n)) (h : ast T M a i x = some M') : vp_in i n ∧ M' = si M a i.toNatClampNeg x := by
  unfold ast at h
  rw [alen_of hT] at h
  split at h
  · cases h
  · exact ⟨by assumption, (Option.some.inj h).symm⟩
theorem astl_sp {y : Int64} (hT : T[a]? = some (kd, n)) (h : astl T M a i y = some M') : vp_in i n ∧ M' = sl M a i.toNatClampNeg y := by
  unfold astl at h
  rw [alen_of hT] at h
  split at h
  · cases h
  · exact ⟨by assumption, (Option.some.inj h).symm⟩
theorem astr_sp (hT : T[a]? = some (kd, n)) (h : astr T M a i b = some M') : vp_in i n ∧ M' = sr M a i.toNatClampNeg (some b) := by
  unfold astr at h
  rw [alen_of hT] at h
  split at h
  · cases h
  · exact ⟨by assumption, (Option.some.inj h).symm⟩
theorem ldr_sp {k c : Nat} (h : ldr T M a k kd = some c) : gr M a k = some c ∧ ∃ len, T[c]? = some (kd, len) := by
  unfold ldr at h
  cases hg : gr M a k with
  | none => rw [hg] at h; cases h
  | some b =>
    rw [hg] at h
    dsimp only at h
    split at h
    next q =>
      cases h
      refine ⟨rfl, ?_⟩
      cases ht : T[c]? with
      | none => rw [ht] at q; cases q
      | some y =>
        rw [ht] at q
        have q1 : y.1 = kd := Option.some.inj q
        exact ⟨y.2, by rw [← q1]⟩
    next => cases h
theorem aldr_sp {k c : Nat} (hT : T[a]? = some (kd, n)) (h : aldr T M a i k = some c) : vp_in i n ∧ gr M a i.toNatClampNeg = some c ∧ ∃ len, T[c]? = some (k, len) := by
  unfold aldr at h
  rw [alen_of hT] at h
  split at h
  · cases h
  · exact ⟨by assumption, ldr_sp h⟩
theorem chk_sp {c : Prop} {d : Decidable c} {u : Unit} (h : @chk c d = some u) : c := by
  unfold chk at h
  split at h
  · assumption
  · cases h
theorem slen_sp {s : Nat} {v : Int32} (h : slen s = some v) : s < 34 ∧ v = Int32.ofNat (gSl s) := by
  unfold slen at h
  split at h
  · exact ⟨by assumption, (Option.some.inj h).symm⟩
  · cases h
theorem sch_sp {s : Nat} {v k : Int32} (h : sch s k = some v) : s < 34 ∧ k.toNatClampNeg < gSl s ∧ k = nI k.toNatClampNeg ∧ v = gSc s k.toNatClampNeg := by
  unfold sch at h
  split at h
  next q =>
    refine ⟨q.1, q.2.2, ?_, (Option.some.inj h).symm⟩
    have h0 : (0 : Int) ≤ k.toInt := by simpa using Int32.le_iff_toInt_le.mp q.2.1
    apply Int32.toInt_inj.mp
    have hk : k.toNatClampNeg < 10 := Nat.lt_trans q.2.2 (gSl_sm s q.1)
    rw [nI_toInt (by omega)]
    show k.toInt = ((k.toInt.toNat : Nat) : Int)
    omega
  next => cases h
theorem acp_sp {sp dp m : Int32} {k1 n1 : Nat} (hb : T[b]? = some (kd, n)) (ha : T[a]? = some (k1, n1)) (h : acp T M b sp a dp m = some M') : ¬ sp < 0 ∧ ¬ dp < 0 ∧ ¬ m < 0 ∧ sp.toNatClampNeg + m.toNatClampNeg ≤ n ∧ dp.toNatClampNeg + m.toNatClampNeg ≤ n1 ∧ M' = cpi M b sp.toNatClampNeg a dp.toNatClampNeg m.toNatClampNeg := by
  unfold acp at h
  rw [alen_of hb, alen_of ha] at h
  split at h
  · cases h
  next q => exact ⟨fun z => q (Or.inl z), fun z => q (Or.inr (Or.inl z)), fun z => q (Or.inr (Or.inr (Or.inl z))), Nat.not_lt.mp fun z => q (Or.inr (Or.inr (Or.inr (Or.inl z)))), Nat.not_lt.mp fun z => q (Or.inr (Or.inr (Or.inr (Or.inr z)))), (Option.some.inj h).symm⟩
theorem acpb_sp {sp dp m : Int32} {k1 n1 : Nat} (hb : T[b]? = some (kd, n)) (ha : T[a]? = some (k1, n1)) (h : acpb T M b sp a dp m = some M') : ¬ sp < 0 ∧ ¬ dp < 0 ∧ ¬ m < 0 ∧ sp.toNatClampNeg + m.toNatClampNeg ≤ n ∧ dp.toNatClampNeg + m.toNatClampNeg ≤ n1 ∧ (∀ j, j < m.toNatClampNeg → fits .byte (.int (gi M b (sp.toNatClampNeg + j))) = true) ∧ M' = cpi M b sp.toNatClampNeg a dp.toNatClampNeg m.toNatClampNeg := by
  unfold acpb at h
  rw [alen_of hb, alen_of ha] at h
  split at h
  · cases h
  next q => exact ⟨fun z => q (Or.inl z), fun z => q (Or.inr (Or.inl z)), fun z => q (Or.inr (Or.inr (Or.inl z))), Nat.not_lt.mp fun z => q (Or.inr (Or.inr (Or.inr (Or.inl z)))), Nat.not_lt.mp fun z => q (Or.inr (Or.inr (Or.inr (Or.inr (Or.inl z))))), Classical.byContradiction fun z => q (Or.inr (Or.inr (Or.inr (Or.inr (Or.inr z))))), (Option.some.inj h).symm⟩
theorem gnewa_sp {bd : Nat} {x : Nat × gT × gM} (h : gnewa T M kd i bd = some x) : ¬ i < 0 ∧ i.toNatClampNeg ≤ bd ∧ gnew T M (kd, i.toNatClampNeg) = some (x.1, x.2.1, x.2.2) := by
  unfold gnewa at h
  split at h
  · cases h
  next q => exact ⟨fun z => q (Or.inl z), Nat.not_lt.mp fun z => q (Or.inr z), h⟩
end GOPS
/-- a loop: B's left answers leave it, its right ones go round -/
def gloop {α β : Type} (B : α → Option (β ⊕ α)) : Nat → α → Option β
  | 0, _ => none
  | n + 1, a => match B a with
    | none => none
    | some (.inl e) => some e
    | some (.inr a') => gloop B n a'
theorem gloop_ind {α β : Type} {B : α → Option (β ⊕ α)} {P : α → Prop} {e : β} (step : ∀ a y, B a = some y → (∀ e', y = .inl e' → e' = e) → (∀ a', y = .inr a' → P a') → P a) : ∀ n a, gloop B n a = some e → P a
  | 0, a, h => by cases h
  | n + 1, a, h => by
    unfold gloop at h
    cases hB : B a with
    | none => rw [hB] at h; cases h
    | some y =>
      rw [hB] at h
      refine step a y hB (fun e' q => ?_) (fun a' q => ?_)
      · subst q
        exact Option.some.inj h
      · subst q
        exact gloop_ind step n a' h
/-- an answer of one of two kinds -/
def gcase {α β δ : Type} (e : α ⊕ β) (f : α → Option δ) (g : β → Option δ) : Option δ := match e with
  | .inl a => f a
  | .inr b => g b
theorem gcase_l {α β δ : Type} {a : α} {f : α → Option δ} {g : β → Option δ} {r : Option δ} (h : gcase (.inl a) f g = r) : f a = r := h
theorem gcase_r {α β δ : Type} {b : β} {f : α → Option δ} {g : β → Option δ} {r : Option δ} (h : gcase (.inr b) f g = r) : g b = r := h
theorem gsw_ne {x c : Int32} {z : Int} (h : ¬ x = c) (hc : c.toInt = z) : x.toInt ≠ z := fun q => h (Int32.toInt_inj.mp (by rw [hc]; exact q))
section GAL
variable {Z : gZ} {cc : ByteArray} {own nm : String} {rt : Option FieldType} {d mc ms : Nat} {Acc : Option Value → (Nat → Nat) → gT → gM → Prop} {AccX : Nat → (Nat → Nat) → gT → gM → Prop} {ad : Nat → Nat} {T : gT} {M : gM} {ce so pc : Nat} {ls : List (Nat × Value)} {st : List Value}
theorem g_alenA (hF : gFix Z cc own nm rt d mc ms Acc AccX) {a n kd : Nat} (hT : T[a]? = some (kd, n)) (hkd : gAr kd) (hd : decode cc pc = .ok (.arraylength, 1))
    (k : gG Z ad T M ce so (pc + 1) ls (.int (Int32.ofNat (alen T a)) :: st)) : gG Z ad T M ce so pc ls (.ref a :: st) := g_alen hF hT hkd hd (by rw [alen_of hT] at k; exact k)
end GAL
theorem gbool {x : Int32} (h : x = 0 ∨ x = 1) : narrow .boolean (.int x) = .int x := by rcases h with rfl | rfl <;> rfl
theorem gboolf {x : Int32} (h : x = 0 ∨ x = 1) : fits .boolean (.int x) = true := by rcases h with rfl | rfl <;> rfl
section GSM
variable {Z : gZ} {ad : Nat → Nat} {T : gT} {M' : gM} {ce so pc : Nat} {ls : List (Nat × Value)} {st : List Value}
theorem g_sameS {r : Value} (h : gG Z ad T M' ce so pc ls (r :: st)) : ∀ (v : Option Value) (ad1 : Nat → Nat) (T1 : gT) (M1 : gM), gSame T (some r) M' ad v ad1 T1 M1 → (∀ a : Nat, gSB ≤ a → ad1 a = ad a) → ∀ H locs la, gRp Z ad1 T1 M1 H locs → lv_has la Z.2.2.2.2.2.1 (gmp ad ls) → Z.1 H locs ce so pc la ((v.map (gv ad1)).toList ++ st.map (gv ad)) := g_same (r := some r) h
theorem g_sameN (h : gG Z ad T M' ce so pc ls st) : ∀ (v : Option Value) (ad1 : Nat → Nat) (T1 : gT) (M1 : gM), gSame T none M' ad v ad1 T1 M1 → (∀ a : Nat, gSB ≤ a → ad1 a = ad a) → ∀ H locs la, gRp Z ad1 T1 M1 H locs → lv_has la Z.2.2.2.2.2.1 (gmp ad ls) → Z.1 H locs ce so pc la ((v.map (gv ad1)).toList ++ st.map (gv ad)) := g_same (r := none) h
theorem g_madeS {T' : gT} {r : Value} (hls : gOld T.length (ls.map Prod.snd)) (hst : gOld T.length st) (h : ∀ ad1 : Nat → Nat, gExt T T' → (∀ a : Nat, a < T.length → ad1 a = ad a) → gG Z ad1 T' M' ce so pc ls (r :: st)) : ∀ (v : Option Value) (ad1 : Nat → Nat) (T1 : gT) (M1 : gM), gMade T (some r) T' M' ad v ad1 T1 M1 → (∀ a : Nat, gSB ≤ a → ad1 a = ad a) → ∀ H locs la, gRp Z ad1 T1 M1 H locs → lv_has la Z.2.2.2.2.2.1 (gmp ad ls) → Z.1 H locs ce so pc la ((v.map (gv ad1)).toList ++ st.map (gv ad)) := g_made (r := some r) hls hst h
theorem g_madeN {T' : gT} (hls : gOld T.length (ls.map Prod.snd)) (hst : gOld T.length st) (h : ∀ ad1 : Nat → Nat, gExt T T' → (∀ a : Nat, a < T.length → ad1 a = ad a) → gG Z ad1 T' M' ce so pc ls st) : ∀ (v : Option Value) (ad1 : Nat → Nat) (T1 : gT) (M1 : gM), gMade T none T' M' ad v ad1 T1 M1 → (∀ a : Nat, gSB ≤ a → ad1 a = ad a) → ∀ H locs la, gRp Z ad1 T1 M1 H locs → lv_has la Z.2.2.2.2.2.1 (gmp ad ls) → Z.1 H locs ce so pc la ((v.map (gv ad1)).toList ++ st.map (gv ad)) := g_made (r := none) hls hst h
end GSM
theorem c_slen {T : gT} {M : gM} {s d : Nat} {v : Int32} (h : slen s = some v) (hd : 2 ≤ d) : gRet d yJ0_length_8abf5 cJ0_length_8abf5 1 (some .int) 0 0 [.ref (gSB + s)] T M (gSame T (some (.int v)) M) := by
  obtain ⟨h1, rfl⟩ := slen_sp h
  exact c_J0_length h1 hd
theorem c_sch {T : gT} {M : gM} {s d : Nat} {k v : Int32} (h : sch s k = some v) (hd : 3 ≤ d) : gRet d yJ0_charAt_5068e cJ0_charAt_5068e 2 (some .char) 0 0 [.ref (gSB + s), .int k] T M (gSame T (some (.int v)) M) := by
  obtain ⟨h1, h2, h3, rfl⟩ := sch_sp h
  have q := c_J0_charAt (T := T) (M := M) h1 h2 hd
  rw [← h3] at q
  exact q
def gkd (T : gT) (a kd : Nat) : Option Unit := if (T[a]?).map Prod.fst = some kd then some () else none
theorem gkd_sp {T : gT} {a kd : Nat} {u : Unit} (h : gkd T a kd = some u) : ∃ len, T[a]? = some (kd, len) := by
  unfold gkd at h
  split at h
  next q =>
    cases ht : T[a]? with
    | none => rw [ht] at q; cases q
    | some y =>
      rw [ht] at q
      have q1 : y.1 = kd := Option.some.inj q
      exact ⟨y.2, by rw [← q1]⟩
  next => cases h
