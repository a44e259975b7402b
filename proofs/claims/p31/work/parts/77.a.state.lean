/-! BETWEEN TWO ROUNDS OF THE LAW: the class, the linker l, the kept ones -/
def Pl [gW0] (rr a7 b : Nat) : Prop := 311 ≤ b ∧ b ≠ w0 + 2 ∧ b ≠ rr ∧ b ≠ a7
def Pb [gW0] (rr a7 l : Nat) (L O : Nat → Nat) (nl b : Nat) : Prop := Pl rr a7 b ∧ b ≠ l ∧ ∀ i, i < nl → b ≠ L i ∧ b ≠ O i
def FX [gW0] (rr a7 l : Nat) (L R O : Nat → Nat) (nl : Nat) : Prop := 311 ≤ rr ∧ rr < w0 ∧ 311 ≤ l ∧ l < w0 ∧ w0 + 3 ≤ a7 ∧ (∀ i, i < nl → 311 ≤ L i ∧ L i < w0 ∧ 311 ≤ O i ∧ O i < w0) ∧ (∀ i j, i < nl → j < nl → L i = L j → i = j) ∧ (∀ i j, i < nl → j < nl → O i = O j → i = j) ∧ (∀ i j, i < nl → j < nl → O i ≠ R j) ∧ nl ≤ 5
def CU [gW0] (T : gT) (M : gM) (rr a7 l A : Nat) (L R O : Nat → Nat) (nl nn : Nat) (k : Nat → Nat × Nat) (m dn nx sz B lc : Nat) (ld : Nat → Nat) : Prop := cInv T M k m nx sz dn 0 ∧ (dn ≤ sz ∨ 8 ≤ sz) ∧ LK (Pl rr a7) T M l A B L R O lc ld M 37 k m ∧ lc ≤ 5 ∧ dNl M 37 = nl ∧ dNn M 37 = nn ∧ nn ≤ 4 ∧ (∀ i, i < nl → O i ≠ B) ∧ T[rr]? = some (18, 0) ∧ T[a7]? = some (22, 9) ∧ w0 + 3 ≤ T.length ∧ ∀ q, q < 9 → gr M a7 q = none ∨ ∃ b, gr M a7 q = some b ∧ T[b]? = some (16, 0)
/-- a kept linker b holds the data at D -/
def KP [gW0] (T : gT) (M : gM) (rr a7 l : Nat) (L O : Nat → Nat) (nl nn : Nat) (k : Nat → Nat × Nat) (m b D : Nat) : Prop := ∃ (A B : Nat) (L' R' O' : Nat → Nat) (lc : Nat) (ld : Nat → Nat), LK (Pb rr a7 l L O nl) T M b A B L' R' O' lc ld M D k m ∧ lc ≤ 5 ∧ dNl M D = nl ∧ dNn M D = nn
def MS [gW0] (T : gT) (M : gM) (rr a7 l A : Nat) (L R O : Nat → Nat) (nl nn : Nat) (k : Nat → Nat × Nat) (m dn : Nat) : Prop := ∃ (nx sz B lc : Nat) (ld : Nat → Nat), CU T M rr a7 l A L R O nl nn k m dn nx sz B lc ld ∧ ∀ q, q < dn → q < 8 → ∃ b, gr M a7 q = some b ∧ KP T M rr a7 l L O nl nn k m b (gSlot nx q)
section PMS
variable {T T1 : gT} {M M1 N : gM} {rr a7 l A : Nat} {L R O : Nat → Nat} {nl nn : Nat} {k : Nat → Nat × Nat} {m dn nx sz B lc : Nat} {ld : Nat → Nat} {c b D : Nat}
theorem Pb_l [gW0] (h : Pb rr a7 l L O nl b) : Pl rr a7 b := h.1
theorem KP_mv [gW0] (hV : gVal T M D) (hk : gKe (Pb rr a7 l L O nl) T M T1 M1) (hd : dSame M1 D M D) (h : KP T M rr a7 l L O nl nn k m b D) : KP T1 M1 rr a7 l L O nl nn k m b D := by
  obtain ⟨A, B, L', R', O', lc, ld, h1, h2, h3, h4⟩ := h
  exact ⟨A, B, L', R', O', lc, ld, LK_same hV hd (LK_ke hk h1), h2, (dNl_same hd).trans h3, (dNn_same hd).trans h4⟩
/-- where the data moved -/
theorem KP_sl [gW0] {D' : Nat} (hV : gVal T M D) (hk : gKe (Pb rr a7 l L O nl) T M T1 M1) (hd : dSame M1 D' M D) (h : KP T M rr a7 l L O nl nn k m b D) : KP T1 M1 rr a7 l L O nl nn k m b D' := by
  obtain ⟨A, B, L', R', O', lc, ld, h1, h2, h3, h4⟩ := h
  exact ⟨A, B, L', R', O', lc, ld, LK_same hV hd (LK_ke hk h1), h2, (dNl_same hd).trans h3, (dNn_same hd).trans h4⟩
theorem CU_to [gW0] (hG : gTo T M T1 M1 c) (h : CU T M rr a7 l A L R O nl nn k m dn nx sz B lc ld) : CU T1 M1 rr a7 l A L R O nl nn k m dn nx sz B lc ld := by
  obtain ⟨a1, a2, a3, a4, a5, a6, a7', a8, a9, a10, a11, a12⟩ := h
  obtain ⟨i1, i2⟩ := cInv_ce (gCe_to hG) a1
  have hd := i2 37 (Or.inr (Or.inl rfl))
  have hl := hG.2.2
  refine ⟨i1, a2, LK_same a1.1.2.1 hd (LK_to hG a3), a4, (dNl_same hd).trans a5, (dNn_same hd).trans a6, a7', a8, gTo_sh hG a9, gTo_sh hG a10, by omega, fun q hq => ?_⟩
  rw [gTo_gr hG a10]
  rcases a12 q hq with z | ⟨b, z1, z2⟩
  · exact Or.inl z
  · exact Or.inr ⟨b, z1, gTo_sh hG z2⟩
theorem MS_to [gW0] (hG : gTo T M T1 M1 c) (h : MS T M rr a7 l A L R O nl nn k m dn) : MS T1 M1 rr a7 l A L R O nl nn k m dn := by
  obtain ⟨nx, sz, B, lc, ld, h1, h2⟩ := h
  refine ⟨nx, sz, B, lc, ld, CU_to hG h1, fun q hq hq8 => ?_⟩
  obtain ⟨b, b1, b2⟩ := h2 q hq hq8
  have hs := h1.1.2.2.1.2.2.2.2.2 q (by have := h1.2.1; omega) hq
  exact ⟨b, (gTo_gr hG h1.2.2.2.2.2.2.2.2.2.1 q).trans b1, KP_mv hs.1 (gKe_To hG) ((cInv_ce (gCe_to hG) h1.1).2 _ (Or.inr (gD_slot nx q))) b2⟩
theorem CU_fr [gW0] (hF : fr (fun b _ => b = 74 ∨ b = 75) M N) (hX : FX rr a7 l L R O nl) (h : CU T M rr a7 l A L R O nl nn k m dn nx sz B lc ld) : CU T N rr a7 l A L R O nl nn k m dn nx sz B lc ld := by
  obtain ⟨a1, a2, a3, a4, a5, a6, a7', a8, a9, a10, a11, a12⟩ := h
  have hd : dSame N 37 M 37 := fr_d37 hF (fun b j z => by omega) (Or.inr (Or.inl rfl))
  refine ⟨cInv_fr a1 hF (fun b j z => by omega) (gBf_fr a1.2.2.2.2.2 hF (fun b j z => z)), a2, LK_same a1.1.2.1 hd (LK_ke (fun b hb x hx => ⟨hx, fun j => hF.2.2 b j (fun z => by have := hb.1; omega), fun j => hF.1 b j⟩) a3), a4, (dNl_same hd).trans a5, (dNn_same hd).trans a6, a7', a8, a9, a10, a11, fun q hq => by rw [hF.1]; exact a12 q hq⟩
theorem MS_fr [gW0] (hF : fr (fun b _ => b = 74 ∨ b = 75) M N) (hX : FX rr a7 l L R O nl) (h : MS T M rr a7 l A L R O nl nn k m dn) : MS T N rr a7 l A L R O nl nn k m dn := by
  obtain ⟨nx, sz, B, lc, ld, h1, h2⟩ := h
  refine ⟨nx, sz, B, lc, ld, CU_fr hF hX h1, fun q hq hq8 => ?_⟩
  obtain ⟨b, b1, b2⟩ := h2 q hq hq8
  have hs := h1.1.2.2.1.2.2.2.2.2 q (by have := h1.2.1; omega) hq
  exact ⟨b, (hF.1 _ _).trans b1, KP_mv hs.1 (fun b hb x hx => ⟨hx, fun j => hF.2.2 b j (fun z => by have := hb.1.1; omega), fun j => hF.1 b j⟩) (fr_d37 hF (fun b j z => by omega) (Or.inr (gD_slot nx q))) b2⟩
/-- the law's last step of a round: the class agrees with l -/
theorem t_agree [gW0] {n : Nat} {f : Nat → Int32} {i2 i9 : Int32} (hX : FX rr a7 l L R O nl) (h : MS T M rr a7 l A L R O nl nn k m dn) (hT : T.length + 3824 ≤ 900000) : ∃ T' M' c s, f_L_law_1170 n f T M 1 i2 0 rr l a7 (nI dn) i9 = some (.inr (1, nI dn, i9 + 1, T', M'), c, s) ∧ MS T' M' rr a7 l A L R O nl nn k m dn ∧ T'.length ≤ T.length + 3824 ∧ c ≤ 3824 ∧ s ≤ 22522 := by
  have h0 := h
  obtain ⟨nx, sz, B, lc, ld, h1, h2⟩ := h
  obtain ⟨N, T', M', c1, c, s, e1, e2, e3, e4, e5, e6⟩ := p_agrees h1.1 h1.2.2.1 (fun b hb => hb.1) h1.2.2.2.1 (by rw [h1.2.2.2.2.1]; exact hX.2.2.2.2.2.2.2.2.2) (by rw [h1.2.2.2.2.2.1]; exact h1.2.2.2.2.2.2.1) hT
  have hl := e3.2.2
  unfold f_L_law_1170 f_L_law_1188
  rw [if_neg (by decide), e1, Option.bind_some]
  dsimp only
  rw [if_neg (by decide), cadd_some]
  exact ⟨T', M', _, _, rfl, MS_to e3 (MS_fr e2 hX h0), by omega, by omega, by omega⟩
end PMS
