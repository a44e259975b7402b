/-! THE LAW: its script is an int[] that stood before; it is only read -/
def gFixL (Z : gZ) (cc : ByteArray) (own nm : String) (rt : Option FieldType) (d mc ms : Nat) (Acc : Option Value → (Nat → Nat) → gT → gM → Prop) (AccX : Nat → (Nat → Nat) → gT → gM → Prop) (n : Nat) (f : Nat → Int32) : Prop :=
  ∃ (p : Program) (l : Launch) (e : Env) (R : Room) (s : State) (m : MethodId) (args : Array Value) (below : List Frame) (meth : Method) (c : Code) (Q : State → Prop) (adV : Nat → Nat) (b : Nat), gBase Z cc own nm rt d mc ms Acc AccX p l e R s m args below meth c Q adV ∧ va_X b n f s s.heap ∧ b < s.heap.size ∧ ¬ Z.2.1 b ∧ Z.2.2.2.2.2.2 (gSB + 3000) = b
section GFL
variable {Z : gZ} {cc : ByteArray} {own nm : String} {rt : Option FieldType} {nm : String} {d mc ms n : Nat} {f : Nat → Int32} {Acc : Option Value → (Nat → Nat) → gT → gM → Prop} {AccX : Nat → (Nat → Nat) → gT → gM → Prop} {ad : Nat → Nat} {T : gT} {M : gM} {ce so pc : Nat} {ls : List (Nat × Value)} {st : List Value}
theorem gFixL.fix (h : gFixL Z cc own nm rt d mc ms Acc AccX n f) : gFix Z cc own nm rt d mc ms Acc AccX := by
  obtain ⟨p, l, e, R, s, m, args, below, meth, c, Q, adV, b, hB, -⟩ := h
  exact ⟨p, l, e, R, s, m, args, below, meth, c, Q, adV, hB⟩
theorem g_scl (hF : gFixL Z cc own nm rt d mc ms Acc AccX n f) (hd : decode cc pc = .ok (.arraylength, 1))
    (k : gG Z ad T M ce so (pc + 1) ls (.int (Int32.ofNat n) :: st)) : gG Z ad T M ce so pc ls (.ref (gSB + 3000) :: st) := by
  obtain ⟨p, l, e, R, s, m, args, below, meth, c, Q, adV, b, ⟨hKq, hx, hb, hml, hown, hts, hK, hH, hA, hE, hRm, hnm, hlk9, hst9, -⟩, hX, hbl, hbA, hbq⟩ := hF
  intro H locs la hR hl
  have k := k H locs la hR hl
  rw [hKq] at k ⊢
  have hS := hR.2.2.1
  rw [hH] at hS
  have hv : (Value.ref (gSB + 3000) :: st).map (gv ad) = .ref b :: st.map (gv ad) := by
    show Value.ref (ad (gSB + 3000)) :: _ = _
    rw [hR.2.2.2.2 _ (Nat.le_add_right _ _), hbq]
  rw [hv]
  exact va_slen hx hb hX hbl hbA hS hd k
theorem g_sci (hF : gFixL Z cc own nm rt d mc ms Acc AccX n f) {i : Int32} (hin : vp_in i n) (hd : decode cc pc = .ok (.iaload, 1))
    (k : gG Z ad T M ce so (pc + 1) ls (.int (f i.toNatClampNeg) :: st)) : gG Z ad T M ce so pc ls (.int i :: .ref (gSB + 3000) :: st) := by
  obtain ⟨p, l, e, R, s, m, args, below, meth, c, Q, adV, b, ⟨hKq, hx, hb, hml, hown, hts, hK, hH, hA, hE, hRm, hnm, hlk9, hst9, -⟩, hX, hbl, hbA, hbq⟩ := hF
  intro H locs la hR hl
  have k := k H locs la hR hl
  rw [hKq] at k ⊢
  have hS := hR.2.2.1
  rw [hH] at hS
  have hv : (Value.int i :: Value.ref (gSB + 3000) :: st).map (gv ad) = .int i :: .ref b :: st.map (gv ad) := by
    show Value.int i :: Value.ref (ad (gSB + 3000)) :: _ = _
    rw [hR.2.2.2.2 _ (Nat.le_add_right _ _), hbq]
  rw [hv]
  exact va_sld hx hb hX hbl hbA hS hin hd k
end GFL
def scr (n : Nat) (f : Nat → Int32) (i : Int32) : Option Int32 := if i < 0 ∨ n ≤ i.toNatClampNeg then none else some (f i.toNatClampNeg)
theorem scr_sp {n : Nat} {f : Nat → Int32} {i v : Int32} (h : scr n f i = some v) : vp_in i n ∧ v = f i.toNatClampNeg := by
  unfold scr at h
  split at h
  · cases h
  · exact ⟨by assumption, (Option.some.inj h).symm⟩
