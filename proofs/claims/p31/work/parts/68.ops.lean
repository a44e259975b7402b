/-! CALLS THAT CHANGE: what is to be shown of each, and the common pieces -/
section POP
variable {T : gT} {M M2 N N3 : gM} {k : Nat → Nat × Nat} {m C C' nx sz nx1 sz1 a : Nat} {i j : Int32}
theorem gdL_1 {M' : gM} (h : M'.1 = M.1) : gdL M' 37 i ↔ gdL M 37 i := by
  unfold gdL
  have e : dNl M' 37 = dNl M 37 := by
    show (M'.1 37 1).toNatClampNeg = (M.1 37 1).toNatClampNeg
    rw [h]
  rw [e]
theorem gdN_1 {M' : gM} (h : M'.1 = M.1) : gdN M' 37 i ↔ gdN M 37 i := by
  unfold gdN
  have e : dNn M' 37 = dNn M 37 := by
    show (M'.1 37 2).toNatClampNeg = (M.1 37 2).toNatClampNeg
    rw [h]
  rw [e]
theorem vCh_same {W W' : Nat → Nat} {D D' : Nat} {w : Nat → Nat → Int32} {i n : Nat} (hd : dSame N D M D') (hV : gVal T M D') (hi : i < dNl M D') (hn : n ≤ dNn M D') (hW : ∀ i, i < dNl M D' → W' i = W i) : vCh W' N D w i n = vCh W M D' w i n := cntN_ext (fun q hq => by
  have h8 := hV.2.1
  have h12 := hV.2.2.1
  rw [vBd_same hd hV hi (by omega) hW, dRk_same hd (by omega)])
theorem vW_two {D D' : Nat} (hV : gVal T M D') (hd : dSame N D M D') : ∀ i, i < dNl M D' → vW N D k m i = vW M D' k m i := fun i hi => by
  unfold vW
  rw [vQ_same hd hV hi]
theorem cd2_2 : (if (2 : Nat) = 2 then (1 : Int32) else 2) = 1 := rfl
/-- the numbers of exceptions: no such library or name, else -/
def cdx (c : Nat) : Int32 := if c = 2 then 1 else 2
end POP
