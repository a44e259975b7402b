/-! HOW THE TEXT BEGINS on both sides -/
def cS11 (b j : Nat) : Prop := b = 2 ∨ b = 3 ∨ b = 4 ∨ b = 36 ∨ dIn 5 b j
abbrev cG (M M' : gM) : Prop := fz cS11 cLd M M'
theorem cF_G {M M' : gM} (h : cF M M') : cG M M' := fz_mono h (fun b j q => by
  unfold cSF cS9 cS0 tS at q
  unfold cS11
  rcases q with ((q | q) | q | q) | q | q
  · exact Or.inr (Or.inl q.1)
  · exact Or.inl q.1
  · exact Or.inl q.1
  · exact Or.inr (Or.inr (Or.inr (Or.inl q)))
  · exact Or.inr (Or.inr (Or.inr (Or.inr q)))
  · exact Or.inl q.1) (fun _ _ q => q)
/-- what the class does when the text was read -/
def cTail (T : gT) (e17 : gM) : Option (Int32 × gT × gM) :=
  (ldr T e17 2 1 0).bind fun b18 =>
  (gnew T e17 (7, 0)).bind fun x19 =>
  (ldr x19.2.1 x19.2.2 2 4 11).bind fun b22 =>
  (f_J7_copyOf_59c91 x19.2.1 x19.2.2 b22 (gi x19.2.2 2 5)).bind fun x23 =>
  (gkd x23.2.1 x23.1 11).bind fun _ =>
  (f_X7_init x23.2.1 x23.2.2 x19.1 x23.1).bind fun x28 =>
  some ((1 : Int32), x28.1, (sr x28.2 b18 4 (some x19.1)))
section PJB
variable {T U : gT} {M R M' R' : gM} {B : Nat → Nat} {n s e p : Nat}
theorem by_fits : ∀ b, b < 256 → fits .byte (.int (cB b)) = true := by decide +kernel
theorem c_text (hX : gFx T M) (hn : n ≤ 800) (hB : ∀ j, j < n → B j < 256 ∧ gi M 1 j = cB (B j) ∧ (gi M 1 j).toInt8.toInt32 = gi M 1 j) : ∃ M1 s e, f_X5_readText T M 2 1 (nI n) = cText T M1 (cTail T) ∧ Sy B n 0 s ∧ cT M1 B n s e ∧ cG M M1 ∧ gi M1 5 1 = 0 ∧ gi M1 5 2 = 0 ∧ gi M1 5 3 = 50 ∧ gi M1 2 5 = 1 ∧ gi M1 36 0 = -1 ∧ gi M1 2 6 = 0 ∧ gi M1 2 7 = 0 ∧ ∀ b j, dIn 5 b j → b ≠ 5 → gi M1 b j = gi M b j := by
  have h1 : gFx T (si (si (si (si M 5 1 0) 5 2 0) 5 3 50) 2 5 0) := gFx_gr hX (fun _ _ => rfl)
  have hA := c_addCode (x := -1) (m := 0) h1 (by rw [gi_si, if_pos ⟨rfl, rfl⟩]; rfl) (by decide)
  generalize hMa : si (si (si (si (si (si (si (si M 5 1 0) 5 2 0) 5 3 50) 2 5 0) 36 0 (-1)) 2 5 (nI (0 + 1))) 2 6 0) 2 7 0 = Ma
  have fa : fz (fun b j => b = 2 ∨ b = 36 ∨ (b = 5 ∧ (j = 1 ∨ j = 2 ∨ j = 3))) (fun _ _ => False) M Ma := by
    rw [← hMa]
    exact fz_si (fz_si (fz_si (fz_si (fz_si (fz_si (fz_si (fz_si fz_refl (Or.inr (Or.inr ⟨rfl, by omega⟩))) (Or.inr (Or.inr ⟨rfl, by omega⟩))) (Or.inr (Or.inr ⟨rfl, by omega⟩))) (Or.inl rfl)) (Or.inr (Or.inl rfl))) (Or.inl rfl)) (Or.inl rfl)) (Or.inl rfl)
  have v51 : gi Ma 5 1 = 0 := by rw [← hMa]; rfl
  have v52 : gi Ma 5 2 = 0 := by rw [← hMa]; rfl
  have v53 : gi Ma 5 3 = 50 := by rw [← hMa]; rfl
  have v25 : gi Ma 2 5 = 1 := by rw [← hMa]; rfl
  have v36 : gi Ma 36 0 = -1 := by rw [← hMa]; rfl
  have v26 : gi Ma 2 6 = 0 := by rw [← hMa]; rfl
  have v27 : gi Ma 2 7 = 0 := by rw [← hMa]; rfl
  have hXa := gFx_fz hX fa
  have hXb : gFx T (si Ma 3 1 (nI n)) := gFx_gr hXa (fun _ _ => rfl)
  have hXc : gFx T (si (cpi (si Ma 3 1 (nI n)) 1 0 4 0 n) 3 2 0) := gFx_gr hXa (fun _ _ => rfl)
  have e1 : ∀ j, gi (si Ma 3 1 (nI n)) 1 j = gi M 1 j := fun j => by rw [gi_si, if_neg (by omega)]; exact fa.2.2 1 j (fun q => by omega)
  have him : imin (nI n) (800 : Int32) = nI n := by
    show (if (800 : Int32) < nI n then 800 else nI n) = nI n
    rw [if_neg (show ¬ (800 : Int32) < nI n from nI_nlt (b := n) (a := 800) hn (by omega))]
  have hcp : acpb T (si Ma 3 1 (nI n)) 1 (0 : Int32) 4 (0 : Int32) (nI n) = some (cpi (si Ma 3 1 (nI n)) 1 0 4 0 n) := by
    have z0 : (0 : Int32).toNatClampNeg = 0 := rfl
    have zn : (nI n).toNatClampNeg = n := nI_clamp (by omega)
    unfold acpb
    rw [z0, zn, alen_of (s_1 hXb), alen_of (s_4 hXb), if_neg]
    intro q
    rcases q with q | q | q | q | q | q
    · exact absurd q (by decide)
    · exact absurd q (by decide)
    · exact nI_pos (by omega) q
    · omega
    · omega
    · exact q (fun j hj => by rw [Nat.zero_add, e1, (hB j hj).2.1]; exact by_fits _ (hB j hj).1)
  obtain ⟨M1, s, e, c1, c2, c3, c4⟩ := c_advance (B := B) (n := n) (p := 0) hXc ⟨by rw [gi_si, if_neg (by omega), gi_cpi, if_neg (by omega), gi_si, if_pos ⟨rfl, rfl⟩], hn, fun j hj => ⟨(hB j hj).1, by rw [gi_si, if_neg (by omega), gi_cpi, if_pos ⟨rfl, Nat.zero_le j, by omega⟩, Nat.sub_zero, Nat.zero_add, e1]; exact (hB j hj).2.1⟩⟩ (by rw [gi_si, if_pos ⟨rfl, rfl⟩]; rfl) (Nat.zero_le n)
  have gc : ∀ b j, b ≠ 3 → b ≠ 4 → gi M1 b j = gi Ma b j := fun b j q1 q2 => by
    rw [c4.2.2 b j (fun q => q1 q.1), gi_si, if_neg (fun q => q1 q.1), gi_cpi, if_neg (fun q => q2 q.1), gi_si, if_neg (fun q => q1 q.1)]
  refine ⟨M1, s, e, ?_, c2, c3, ⟨fun b j => (c4.1 b j).trans (fa.1 b j), fun b j q => (c4.2.1 b j (fun z => q (Or.inl z))).trans (fa.2.1 b j (fun z => z)), fun b j q => ?_⟩, (gc _ _ (by decide) (by decide)).trans v51, (gc _ _ (by decide) (by decide)).trans v52, (gc _ _ (by decide) (by decide)).trans v53, (gc _ _ (by decide) (by decide)).trans v25, (gc _ _ (by decide) (by decide)).trans v36, (gc _ _ (by decide) (by decide)).trans v26, (gc _ _ (by decide) (by decide)).trans v27, fun b j hd hb => ?_⟩
  · unfold f_X5_readText f_X0_clear f_X6_startText cText
    rw [r_2_1 hX, Option.bind_some, Option.bind_some, hA, Option.bind_some, hMa, r_2_0 hXa, Option.bind_some, him, r_3_0 hXb, Option.bind_some, show gi (si Ma 3 1 (nI n)) 3 1 = nI n by rw [gi_si, if_pos ⟨rfl, rfl⟩], hcp, Option.bind_some, c1, Option.bind_some, Option.bind_some]
    rfl
  · have q1 : b ≠ 3 := fun z => q (Or.inr (Or.inl z))
    have q2 : b ≠ 4 := fun z => q (Or.inr (Or.inr (Or.inl z)))
    rw [gc b j q1 q2]
    refine fa.2.2 b j (fun z => ?_)
    rcases z with z | z | ⟨z1, z2⟩
    · exact q (Or.inl z)
    · exact q (Or.inr (Or.inr (Or.inr (Or.inl z))))
    · rw [z1] at q
      exact q (Or.inr (Or.inr (Or.inr (Or.inr (dIn_hd z2)))))
  · have h5 := d5_no hd
    rw [gc b j (by omega) (by omega)]
    exact fa.2.2 b j (fun z => by omega)
end PJB
