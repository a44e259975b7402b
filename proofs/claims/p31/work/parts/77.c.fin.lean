/-! A CHANGE IN THE LAW: l was changed, then the class -/
theorem dIn_shift {D D' b j : Nat} (h : dIn D b j) : dIn D' (b - D + D') j := by
  rcases h with ⟨rfl, h⟩ | ⟨i, hi, h⟩
  · exact Or.inl ⟨by omega, h⟩
  · refine Or.inr ⟨i, hi, ?_⟩
    rcases h with ⟨rfl, h⟩ | ⟨rfl, h⟩ | ⟨rfl, h⟩
    · exact Or.inl ⟨by omega, h⟩
    · exact Or.inr (Or.inl ⟨by omega, h⟩)
    · exact Or.inr (Or.inr ⟨by omega, h⟩)
theorem dSame_tr {N M M' : gM} {D D' D'' : Nat} (h1 : dSame N D M' D') (h2 : dSame M' D' M D'') : dSame N D M D'' := fun b j hb => by
  rw [h1 b j hb, h2 _ _ (dIn_shift hb)]
  have := dIn_rng hb
  rw [show b - D + D' - D' + D'' = b - D + D'' by omega]
def gLm (T : gT) (M : gM) (T' : gT) (M' : gM) (l : Nat) (L O : Nat → Nat) (nl : Nat) : Prop := ∀ b x, T[b]? = some x → T'[b]? = some x ∧ (b ≠ l → (∀ i, i < nl → b ≠ L i ∧ b ≠ O i) → (∀ j, gi M' b j = gi M b j) ∧ ∀ j, gr M' b j = gr M b j)
def MP [gW0] (T : gT) (M : gM) (rr a7 l A : Nat) (L R O : Nat → Nat) (nl nn : Nat) (k : Nat → Nat × Nat) (m dn nx sz B lc : Nat) (ld : Nat → Nat) (p R0 : Nat) : Prop := CU T M rr a7 l A L R O nl nn k m dn nx sz B lc ld ∧ (∀ q, q < dn → q < 8 → ∃ b, gr M a7 q = some b ∧ KP T M rr a7 l L O nl nn k m b (gSlot nx q)) ∧ KP T M rr a7 l L O nl nn k m p 37 ∧ T[p]? = some (16, 0) ∧ gBR T M R0 nl nn ∧ (∀ i, i < nl → ∀ n, n < nn → gi M (R0 + 1 + i) n = vBd (vW M 37 k m) M 37 i n) ∧ w0 + 3 ≤ R0
def TP [gW0] (T : gT) (M : gM) (rr a7 l A : Nat) (L R O : Nat → Nat) (nl nn : Nat) (k : Nat → Nat × Nat) (m dn p : Nat) : Prop := ∃ (nx sz B lc : Nat) (ld : Nat → Nat), CU T M rr a7 l A L R O nl nn k m (dn + 1) nx sz B lc ld ∧ KP T M rr a7 l L O nl nn k m p (gSlot nx 0) ∧ T[p]? = some (16, 0) ∧ ∀ q, q < dn → q < 7 → ∃ b, gr M a7 q = some b ∧ KP T M rr a7 l L O nl nn k m b (gSlot nx (q + 1))
section PFN
variable {T T1 T' T0 : gT} {M M1 M' N V V' : gM} {rr a7 l A : Nat} {L R O : Nat → Nat} {nl nn : Nat} {k : Nat → Nat × Nat} {m dn nx sz B lc B2 lc2 : Nat} {ld ld2 : Nat → Nat} {c b D p R0 : Nat}
theorem gLm_refl : gLm T M T M l L O nl := fun b x hx => ⟨hx, fun _ _ => ⟨fun _ => rfl, fun _ => rfl⟩⟩
theorem gLm_to (h : gLm T M T' M' l L O nl) (hG : gTo T' M' T1 M1 c) : gLm T M T1 M1 l L O nl := fun b x hx => by
  obtain ⟨h1, h2⟩ := h b x hx
  refine ⟨gTo_sh hG h1, fun q1 q2 => ?_⟩
  obtain ⟨h3, h4⟩ := h2 q1 q2
  exact ⟨fun j => (gTo_gi hG h1 j).trans (h3 j), fun j => (gTo_gr hG h1 j).trans (h4 j)⟩
theorem gLm_ce [gW0] (hX : FX rr a7 l L R O nl) (h : gLm T M T' M' l L O nl) : gCe T M T' M' := fun b hb x hx => by
  obtain ⟨h1, h2⟩ := h b x hx
  obtain ⟨x1, x2, x3, x4, x5, x6, -⟩ := hX
  obtain ⟨h3, h4⟩ := h2 (by omega) (fun i hi => by have := x6 i hi; omega)
  exact ⟨h1, h3, h4⟩
theorem gLm_kb [gW0] (h : gLm T M T' M' l L O nl) : gKe (Pb rr a7 l L O nl) T M T' M' := fun b hb x hx => by
  obtain ⟨h1, h2⟩ := h b x hx
  obtain ⟨h3, h4⟩ := h2 hb.2.1 hb.2.2
  exact ⟨h1, h3, h4⟩
theorem t_fin [gW0] (hX : FX rr a7 l L R O nl) (hM : MP T M rr a7 l A L R O nl nn k m dn nx sz B lc ld p R0) (hE : gLm T M T' M' l L O nl) (hLK : LK (Pl rr a7) T' M' l A B2 L R O lc2 ld2 V 37 k m) (h5 : lc2 ≤ 5) (hOB : ∀ i, i < nl → O i ≠ B2) (hV : gVal T0 V 37) (n1 : dNl V 37 = nl) (n2 : dNn V 37 = nn) (hm : cMid T' M' V' N k m nx sz dn 0) (hVV : ∀ b j, dIn 37 b j → gi V b j = gi V' b j) : TP T' N rr a7 l A L R O nl nn k m dn p := by
  obtain ⟨hC, hq, hp, hps, -, -⟩ := hM
  have hnx := hC.1.2.2.1.1
  obtain ⟨-, hds⟩ := cInv_ce (gLm_ce hX hE) hC.1
  have h37 : (37 : Nat) = 5 ∨ gD 37 := Or.inr (Or.inl rfl)
  have hVN : dSame N 37 V 37 := cMid_V hm hVV
  have hLf := hm.2.2.2.2.2.1
  have keN : ∀ {P : Nat → Prop}, (∀ b, P b → 311 ≤ b ∧ b ≠ w0 + 2) → gKe P T' M' T' N := fun hP b hb x hx => ⟨hx, (hLf b (hP b hb).1).2 (hP b hb).2, (hLf b (hP b hb).1).1⟩
  have hPb : ∀ b, Pb rr a7 l L O nl b → 311 ≤ b ∧ b ≠ w0 + 2 := fun b hb => ⟨hb.1.1, hb.1.2.1⟩
  have ke2 : gKe (Pb rr a7 l L O nl) T M T' N := fun b hb x hx => by
    obtain ⟨a1, a2, a3⟩ := gLm_kb (rr := rr) (a7 := a7) hE b hb x hx
    obtain ⟨b1, b2, b3⟩ := keN hPb b hb x a1
    exact ⟨b1, fun j => (b2 j).trans (a2 j), fun j => (b3 j).trans (a3 j)⟩
  have hx7 := hX.2.2.2.2.1
  have h311 := w0_ge
  have s7 := hE a7 _ hC.2.2.2.2.2.2.2.2.2.1
  have g7 : ∀ q, gr N a7 q = gr M a7 q := fun q => by
    have hne : a7 ≠ l ∧ ∀ i, i < nl → a7 ≠ L i ∧ a7 ≠ O i := ⟨by have := hX.2.2.2.1; omega, fun i hi => by have := hX.2.2.2.2.2.1 i hi; omega⟩
    rw [(hLf a7 (by omega)).1, (s7.2 hne.1 hne.2).2]
  have srr := (hE rr _ hC.2.2.2.2.2.2.2.2.1).1
  have hlen : T.length ≤ T'.length := by
    by_cases h0 : T.length = 0
    · omega
    · have e : T[T.length - 1]? = some (T[T.length - 1]'(by omega)) := List.getElem?_eq_getElem (by omega)
      have := sh_lt (hE _ _ e).1
      omega
  refine ⟨(nx + 1) % 8, if sz < 8 then sz + 1 else 8, B2, lc2, ld2, ⟨hm.1, ?_, ?_, h5, (dNl_same hVN).trans n1, (dNn_same hVN).trans n2, hC.2.2.2.2.2.2.1, hOB, srr, s7.1, by have := hC.2.2.2.2.2.2.2.2.2.2.1; omega, fun q hq9 => ?_⟩, ?_, (hE p _ hps).1, fun q hqd hq7 => ?_⟩
  · have := hC.2.1
    split <;> omega
  · exact LK_same hV hVN (LK_ke (keN (fun b hb => ⟨hb.1, hb.2.1⟩)) hLK)
  · rw [g7]
    rcases hC.2.2.2.2.2.2.2.2.2.2.2 q hq9 with z | ⟨b, z1, z2⟩
    · exact Or.inl z
    · exact Or.inr ⟨b, z1, (hE b _ z2).1⟩
  · rw [gSlot_0 hnx]
    exact KP_sl hC.1.1.2.1 ke2 (dSame_tr hm.2.1 (hds 37 h37)) hp
  · rw [gSlot_s hnx hq7]
    obtain ⟨b, b1, b2⟩ := hq q hqd (by omega)
    have hqs : q < sz := by have := hC.2.1; omega
    exact ⟨b, (g7 q).trans b1, KP_sl (hC.1.2.2.1.2.2.2.2.2 q hqs hqd).1 ke2 (dSame_tr (hm.2.2.2.2.1 q hqs hq7) (hds _ (Or.inr (gD_slot nx q)))) b2⟩
theorem TP_to [gW0] (hG : gTo T M T1 M1 c) (h : TP T M rr a7 l A L R O nl nn k m dn p) : TP T1 M1 rr a7 l A L R O nl nn k m dn p := by
  obtain ⟨nx, sz, B, lc, ld, h1, h2, h3, h4⟩ := h
  have hds := (cInv_ce (gCe_to hG) h1.1).2
  have hsl := h1.1.2.2.1.2.2.2.2.2
  refine ⟨nx, sz, B, lc, ld, CU_to hG h1, KP_mv (hsl 0 (by have := h1.2.1; omega) (by omega)).1 (gKe_To hG) (hds _ (Or.inr (gD_slot nx 0))) h2, gTo_sh hG h3, fun q hqd hq7 => ?_⟩
  obtain ⟨b, b1, b2⟩ := h4 q hqd hq7
  exact ⟨b, (gTo_gr hG h1.2.2.2.2.2.2.2.2.2.1 q).trans b1, KP_mv (hsl (q + 1) (by have := h1.2.1; omega) (by omega)).1 (gKe_To hG) (hds _ (Or.inr (gD_slot nx (q + 1)))) b2⟩
theorem TP_tail [gW0] {n : Nat} {f : Nat → Int32} {i2 i9 : Int32} (hX : FX rr a7 l L R O nl) (h : TP T M rr a7 l A L R O nl nn k m dn p) (hT : T.length + 3824 ≤ 900000) : ∃ T' M' c s, f_L_law_1129 n f T M 1 i2 0 rr l a7 (nI dn) i9 p 1 = some (.inr (1, nI (dn + 1), i9 + 1, T', M'), c, s) ∧ MS T' M' rr a7 l A L R O nl nn k m (dn + 1) ∧ T'.length ≤ T.length + 3824 ∧ c ≤ 3824 ∧ s ≤ 22522 := by
  obtain ⟨nx, sz, B, lc, ld, h1, h2, h3, h4⟩ := h
  exact t_tail1 hX h1 h2 h3 h4 hT
theorem MP_MS [gW0] (h : MP T M rr a7 l A L R O nl nn k m dn nx sz B lc ld p R0) : MS T M rr a7 l A L R O nl nn k m dn := ⟨nx, sz, B, lc, ld, h.1, h.2.1⟩
/-- the random numbers' own field -/
theorem MP_rr [gW0] {x : Int32} (hX : FX rr a7 l L R O nl) (h : MP T M rr a7 l A L R O nl nn k m dn nx sz B lc ld p R0) : MP T (si M rr 0 x) rr a7 l A L R O nl nn k m dn nx sz B lc ld p R0 := by
  obtain ⟨⟨a1, a2, a3, a4, a5, a6, a7', a8, a9, a10, a11, a12⟩, hq, hp, hps, hb, hw, hR0⟩ := h
  have h311 := w0_ge
  have x1 := hX.1
  have x2 := hX.2.1
  have ne : ∀ {b j : Nat}, b ≠ rr → gi (si M rr 0 x) b j = gi M b j := fun hn => by rw [gi_si, if_neg (fun q => hn q.1)]
  obtain ⟨i1, hds⟩ := cInv_ce (T1 := T) (M1 := si M rr 0 x) (fun b hb y hy => ⟨hy, fun j => ne (by omega), fun j => rfl⟩) a1
  have h37 : (37 : Nat) = 5 ∨ gD 37 := Or.inr (Or.inl rfl)
  have hd := hds 37 h37
  have hk : gKe (Pb rr a7 l L O nl) T M T (si M rr 0 x) := fun b hb y hy => ⟨hy, fun j => ne hb.1.2.2.1, fun j => rfl⟩
  have hV := a1.1.2.1
  refine ⟨⟨i1, a2, LK_same hV hd (LK_ke (fun b hb y hy => ⟨hy, fun j => ne hb.2.2.1, fun j => rfl⟩) a3), a4, (dNl_same hd).trans a5, (dNn_same hd).trans a6, a7', a8, a9, a10, a11, a12⟩, fun q hqd hq8 => ?_, KP_mv hV hk hd hp, hps, hb, fun i hi n hn => ?_, hR0⟩
  · obtain ⟨b, b1, b2⟩ := hq q hqd hq8
    exact ⟨b, b1, KP_mv (a1.2.2.1.2.2.2.2.2 q (by omega) hqd).1 hk (hds _ (Or.inr (gD_slot nx q))) b2⟩
  · rw [ne (fun e => by
      have := (hb.2 i hi).2
      rw [e, a9] at this
      cases this), hw i hi n hn]
    exact (vBd_same hd hV (by omega) (by omega) (vW_sameV hV hd)).symm
end PFN
theorem div_nI {u b : Nat} (hu : u < 2 ^ 31) (hb : b < 2 ^ 31) : nI u / nI b = nI (u / b) := by
  rw [← iI_N u, ← iI_N b, ← iI_N (u / b)]
  unfold iI
  rw [← Int32.ofInt_tdiv (by rw [show Int32.minValue.toInt = -2147483648 from rfl]; omega) (by rw [show Int32.maxValue.toInt = 2147483647 from rfl]; omega) (by rw [show Int32.minValue.toInt = -2147483648 from rfl]; omega) (by rw [show Int32.maxValue.toInt = 2147483647 from rfl]; omega)]
  congr 1
theorem rem_nI {u b : Nat} (hu : u < 2 ^ 31) (hb : b < 2 ^ 31) : irem (nI u) (nI b) = nI (u % b) := by
  show nI u - nI u / nI b * nI b = _
  rw [div_nI hu hb, nI_mul]
  have e : nI u = nI (u % b) + nI (u / b * b) := by
    rw [nI_add]
    congr 1
    have := Nat.div_add_mod u b
    rw [Nat.mul_comm] at this
    omega
  rw [e, Int32.add_sub_cancel]
theorem ush_nI (x : Int32) : ∃ u, u < 65536 ∧ iushr x (16 : Int32) = nI u := by
  refine ⟨(x.toUInt32 >>> ((16 : Int32).toUInt32 &&& Int32.toUInt32 31)).toNat, ?_, ?_⟩
  · have h := x.toUInt32.toNat_lt
    rw [UInt32.toNat_shiftRight, show ((16 : Int32).toUInt32 &&& Int32.toUInt32 31).toNat % 32 = 16 from by decide, Nat.shiftRight_eq_div_pow]
    omega
  · show (x.toUInt32 >>> ((16 : Int32).toUInt32 &&& Int32.toUInt32 31)).toInt32 = _
    generalize x.toUInt32 >>> ((16 : Int32).toUInt32 &&& Int32.toUInt32 31) = u
    apply Int32.toBitVec_inj.mp
    unfold nI
    show u.toBitVec = BitVec.ofNat 32 u.toNat
    apply BitVec.eq_of_toNat_eq
    rw [BitVec.toNat_ofNat, Nat.mod_eq_of_lt u.toNat_lt]
    rfl
theorem below_ok {M : gM} {T : gT} {rr b : Nat} (hb : 0 < b) (hb2 : b < 2 ^ 31) : ∃ v x, v < b ∧ f_X12_below T M rr (nI b) = some (nI v, si M rr 0 x) := by
  obtain ⟨u, hu, e⟩ := ush_nI (gi (si M rr 0 (((1103515245 : Int32) * (gi M rr 0)) + (12345 : Int32))) rr 0)
  refine ⟨u % b, (1103515245 : Int32) * (gi M rr 0) + (12345 : Int32), Nat.mod_lt _ hb, ?_⟩
  unfold f_X12_below
  rw [chk_ok (nI_ne0 hb hb2), Option.bind_some, e, rem_nI (by omega) hb2]
