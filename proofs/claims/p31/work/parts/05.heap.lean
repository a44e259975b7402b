/-! ROWS ON THE HEAP -/
def gC (c : Nat) (R : String) (TT : u_T) (N : Nat) (ty : Nat → FieldType) : Prop :=
  vwCl[c]? = some (R, TT, N) ∧ (∀ w ∈ u_ws R TT N, w ∈ gWS) ∧ (∀ k, k < N → parseFieldDescriptor (TT k).2.2.1 = some (ty k)) ∧ (∀ a, a < N → ∀ b, b < N → a ≠ b → (TT a).2.1 ≠ (TT b).2.1) ∧ N = (gK c).length ∧ gOb c ∧ True
def gFl (own : String) (idx c k kd : Nat) (fin : Bool) (ft : FieldType) : Prop := ∃ (R : String) (TT : u_T) (N : Nat) (ty : Nat → FieldType), gC c R TT N ty ∧ (gK c)[k]? = some kd ∧ ty k = ft ∧ (TT k).2.2.2 = fin ∧ Cond.fieldLink own idx (TT k).1 (TT k).2.1 (TT k).2.2.1 ∈ gWS
def gFn (own : String) (idx c k kd : Nat) (fin : Bool) (ft : FieldType) : Prop := ∃ (R : String) (TT : u_T) (N : Nat) (ty : Nat → FieldType) (host : String), gC c R TT N ty ∧ (gK c)[k]? = some kd ∧ ty k = ft ∧ (TT k).2.2.2 = fin ∧ Cond.fieldLinkNest own idx (TT k).1 (TT k).2.1 (TT k).2.2.1 host ∈ gNw
theorem gE_obj {dA : Nat → ClassId} {ad : Nat → Nat} {M : gM} {a c len : Nat} (h : gOb c) : gE dA ad M a (c, len) = .inr (c, (gK c).mapIdx (gfv M ad a)) := if_pos h
theorem gE_i {dA : Nat → ClassId} {ad : Nat → Nat} {M : gM} {a len : Nat} : gE dA ad M a (11, len) = .inl (dA 11, len, .inl (fun j => gi M a j)) := rfl
theorem gE_b {dA : Nat → ClassId} {ad : Nat → Nat} {M : gM} {a len : Nat} : gE dA ad M a (10, len) = .inl (dA 10, len, .inl (fun j => gi M a j)) := rfl
theorem gE_l {dA : Nat → ClassId} {ad : Nat → Nat} {M : gM} {a len : Nat} : gE dA ad M a (12, len) = .inl (dA 12, len, .inr (.inl (fun j => gl M a j))) := rfl
theorem gE_q {dA : Nat → ClassId} {ad : Nat → Nat} {M : gM} {a c len : Nat} (h : 13 ≤ c ∧ c < 16 ∨ c = 21 ∨ c = 22) : gE dA ad M a (c, len) = .inl (dA c, len, .inr (.inr (.inr (.inr (fun j => (gr M a j).map ad))))) := by
  unfold gE
  rw [if_neg (by show ¬ gOb c; unfold gOb; omega), if_neg (by show ¬ c < 12; omega), if_neg (by show ¬ c = 12; omega)]
theorem gRA_eq {U : State} {a b : ClassId} {ty : FieldType} (h1 : va_RA U a ty) (h2 : va_RA U b ty) : a = b := by
  cases ty with
  | object C =>
    obtain ⟨_, _, -, -, -, q1⟩ := h1
    obtain ⟨_, _, -, -, -, q2⟩ := h2
    exact Option.some.inj (q1.symm.trans q2)
  | _ => exact Option.some.inj (Eq.trans (Eq.symm h1) h2)
theorem gW_push {dA : Nat → ClassId} {ad : Nat → Nat} {T : gT} {M : gM} {sh : Nat × Nat} {q : Nat} {e : va_E} (hC : gCl T M) (he : gE dA (va_up ad T.length q) (zr M T.length) T.length sh = e) : gW dA ad T M ++ [(q, e)] = gW dA (va_up ad T.length q) (T ++ [sh]) (zr M T.length) := by
  apply List.ext_getElem?
  intro k
  unfold gW
  rw [List.getElem?_mapIdx]
  by_cases hk : k < T.length
  · rw [List.getElem?_append_left (by rw [List.length_mapIdx]; exact hk), List.getElem?_mapIdx, List.getElem?_append_left hk]
    cases T[k]? with
    | none => rfl
    | some sh' =>
      simp only [Option.map_some]
      have hk' : k ≠ T.length := by omega
      rw [va_up_ne _ _ hk']
      congr 2
      have e0 : gfv (zr M T.length) (va_up ad T.length q) k = gfv M ad k := by
        funext j kd
        simp only [gfv, gi_zr, gl_zr, gr_zr, if_neg hk']
        by_cases h0 : kd = 0
        · rw [if_pos h0, if_pos h0]
        rw [if_neg h0, if_neg h0]
        by_cases h1 : kd = 1
        · rw [if_pos h1, if_pos h1]
        rw [if_neg h1, if_neg h1]
        cases hg : gr M k j with
        | none => rfl
        | some b =>
          have hb := hC k j b hg
          simp only [Option.map_some, va_up_ne _ _ (show b ≠ T.length by omega)]
      have e1 : ∀ j, (gr (zr M T.length) k j).map (va_up ad T.length q) = (gr M k j).map ad := fun j => by
        rw [gr_zr, if_neg hk']
        cases hg : gr M k j with
        | none => rfl
        | some b =>
          have hb := hC k j b hg
          simp only [Option.map_some, va_up_ne _ _ (show b ≠ T.length by omega)]
      simp only [gE, e0, e1, gi_zr, gl_zr, if_neg hk']
  · rw [List.getElem?_append_right (by rw [List.length_mapIdx]; omega), List.getElem?_append_right (by omega), List.length_mapIdx]
    by_cases h0 : k = T.length
    · subst h0
      rw [Nat.sub_self]
      simp only [List.getElem?_cons_zero, Option.map_some, va_up_self, he]
    · rw [List.getElem?_eq_none (by simp only [List.length_cons, List.length_nil]; omega), List.getElem?_eq_none (by simp only [List.length_cons, List.length_nil]; omega)]
      rfl
section GH
variable {Z : gZ} {cc : ByteArray} {own nm : String} {rt : Option FieldType} {d mc ms : Nat} {Acc : Option Value → (Nat → Nat) → gT → gM → Prop} {AccX : Nat → (Nat → Nat) → gT → gM → Prop} {ad : Nat → Nat} {T : gT} {M : gM} {ce so pc : Nat} {ls : List (Nat × Value)} {st : List Value}
theorem g_get_i (hF : gFix Z cc own nm rt d mc ms Acc AccX) {idx c k a len : Nat} {fin : Bool} {ft : FieldType} (hf : gFl own idx c k 0 fin ft) (hT : T[a]? = some (c, len)) (hd : decode cc pc = .ok (.getfield idx, 3))
    (k' : gG Z ad T M ce so (pc + 3) ls (.int (gi M a k) :: st)) : gG Z ad T M ce so pc ls (.ref a :: st) := by
  obtain ⟨p, l, e, R, s, m, args, below, meth, cd, Q, adV, hKq, hx, hb, hml, hown, hts, hK, hH, hA, hE, hRm, hnm, hlk, -⟩ := hF
  intro H locs la hR hl
  have k' := k' H locs la hR hl
  rw [hKq] at k' ⊢
  obtain ⟨RR, TT, N, ty, ⟨c1, c2, c3, c4, c5, c6, c7⟩, hk, -, -, hw⟩ := hf
  have hkN : k < N := by rw [c5]; exact (List.getElem?_eq_some_iff.mp hk).1
  have he := gW_get (dA := Z.2.2.2.2.1) (ad := ad) (M := M) hT
  rw [gE_obj c6] at he
  exact va_get (v := .int (gi M a k)) hx hb hts c2 hown hK hR.1 a he c1 k hkN (hts _ hw) (fun x hx => hx) (gfs_get hk) hd k'

theorem g_get_l (hF : gFix Z cc own nm rt d mc ms Acc AccX) {idx c k a len : Nat} {fin : Bool} {ft : FieldType} (hf : gFl own idx c k 1 fin ft) (hT : T[a]? = some (c, len)) (hd : decode cc pc = .ok (.getfield idx, 3))
    (k' : gG Z ad T M ce so (pc + 3) ls (.long (gl M a k) :: st)) : gG Z ad T M ce so pc ls (.ref a :: st) := by
  obtain ⟨p, l, e, R, s, m, args, below, meth, cd, Q, adV, hKq, hx, hb, hml, hown, hts, hK, hH, hA, hE, hRm, hnm, hlk, -⟩ := hF
  intro H locs la hR hl
  have k' := k' H locs la hR hl
  rw [hKq] at k' ⊢
  obtain ⟨RR, TT, N, ty, ⟨c1, c2, c3, c4, c5, c6, c7⟩, hk, -, -, hw⟩ := hf
  have hkN : k < N := by rw [c5]; exact (List.getElem?_eq_some_iff.mp hk).1
  have he := gW_get (dA := Z.2.2.2.2.1) (ad := ad) (M := M) hT
  rw [gE_obj c6] at he
  exact va_get (v := .long (gl M a k)) hx hb hts c2 hown hK hR.1 a he c1 k hkN (hts _ hw) (fun x hx => hx) (gfs_get hk) hd k'

theorem g_get_r (hF : gFix Z cc own nm rt d mc ms Acc AccX) {idx c k a len : Nat} {fin : Bool} {ft : FieldType} {b : Nat} (hv : gr M a k = some b) (hf : gFl own idx c k 2 fin ft) (hT : T[a]? = some (c, len)) (hd : decode cc pc = .ok (.getfield idx, 3))
    (k' : gG Z ad T M ce so (pc + 3) ls (.ref b :: st)) : gG Z ad T M ce so pc ls (.ref a :: st) := by
  obtain ⟨p, l, e, R, s, m, args, below, meth, cd, Q, adV, hKq, hx, hb, hml, hown, hts, hK, hH, hA, hE, hRm, hnm, hlk, -⟩ := hF
  intro H locs la hR hl
  have k' := k' H locs la hR hl
  rw [hKq] at k' ⊢
  obtain ⟨RR, TT, N, ty, ⟨c1, c2, c3, c4, c5, c6, c7⟩, hk, -, -, hw⟩ := hf
  have hkN : k < N := by rw [c5]; exact (List.getElem?_eq_some_iff.mp hk).1
  have he := gW_get (dA := Z.2.2.2.2.1) (ad := ad) (M := M) hT
  rw [gE_obj c6] at he
  exact va_get (v := .ref (ad b)) hx hb hts c2 hown hK hR.1 a he c1 k hkN (hts _ hw) (fun x hx => hx) (by rw [gfs_get hk]; simp only [gfv, hv]; rfl) hd k'

theorem g_get_iN (hF : gFix Z cc own nm rt d mc ms Acc AccX) {idx c k a len : Nat} {fin : Bool} {ft : FieldType} (hf : gFn own idx c k 0 fin ft) (hT : T[a]? = some (c, len)) (hd : decode cc pc = .ok (.getfield idx, 3))
    (k' : gG Z ad T M ce so (pc + 3) ls (.int (gi M a k) :: st)) : gG Z ad T M ce so pc ls (.ref a :: st) := by
  obtain ⟨p, l, e, R, s, m, args, below, meth, cd, Q, adV, hKq, hx, hb, hml, hown, hts, hK, hH, hA, hE, hRm, hnm, hlk, -⟩ := hF
  intro H locs la hR hl
  have k' := k' H locs la hR hl
  rw [hKq] at k' ⊢
  obtain ⟨RR, TT, N, ty, host, ⟨c1, c2, c3, c4, c5, c6, c7⟩, hk, -, -, hw⟩ := hf
  have hkN : k < N := by rw [c5]; exact (List.getElem?_eq_some_iff.mp hk).1
  have he := gW_get (dA := Z.2.2.2.2.1) (ad := ad) (M := M) hT
  rw [gE_obj c6] at he
  exact va_getN (v := .int (gi M a k)) hx hb hts c2 hown hK hR.1 a he c1 k hkN (va_Nw.use rfl (hE.1 _ hw)) (fun x hx => hx) (gfs_get hk) hd k'

theorem g_get_lN (hF : gFix Z cc own nm rt d mc ms Acc AccX) {idx c k a len : Nat} {fin : Bool} {ft : FieldType} (hf : gFn own idx c k 1 fin ft) (hT : T[a]? = some (c, len)) (hd : decode cc pc = .ok (.getfield idx, 3))
    (k' : gG Z ad T M ce so (pc + 3) ls (.long (gl M a k) :: st)) : gG Z ad T M ce so pc ls (.ref a :: st) := by
  obtain ⟨p, l, e, R, s, m, args, below, meth, cd, Q, adV, hKq, hx, hb, hml, hown, hts, hK, hH, hA, hE, hRm, hnm, hlk, -⟩ := hF
  intro H locs la hR hl
  have k' := k' H locs la hR hl
  rw [hKq] at k' ⊢
  obtain ⟨RR, TT, N, ty, host, ⟨c1, c2, c3, c4, c5, c6, c7⟩, hk, -, -, hw⟩ := hf
  have hkN : k < N := by rw [c5]; exact (List.getElem?_eq_some_iff.mp hk).1
  have he := gW_get (dA := Z.2.2.2.2.1) (ad := ad) (M := M) hT
  rw [gE_obj c6] at he
  exact va_getN (v := .long (gl M a k)) hx hb hts c2 hown hK hR.1 a he c1 k hkN (va_Nw.use rfl (hE.1 _ hw)) (fun x hx => hx) (gfs_get hk) hd k'

theorem g_get_rN (hF : gFix Z cc own nm rt d mc ms Acc AccX) {idx c k a len : Nat} {fin : Bool} {ft : FieldType} {b : Nat} (hv : gr M a k = some b) (hf : gFn own idx c k 2 fin ft) (hT : T[a]? = some (c, len)) (hd : decode cc pc = .ok (.getfield idx, 3))
    (k' : gG Z ad T M ce so (pc + 3) ls (.ref b :: st)) : gG Z ad T M ce so pc ls (.ref a :: st) := by
  obtain ⟨p, l, e, R, s, m, args, below, meth, cd, Q, adV, hKq, hx, hb, hml, hown, hts, hK, hH, hA, hE, hRm, hnm, hlk, -⟩ := hF
  intro H locs la hR hl
  have k' := k' H locs la hR hl
  rw [hKq] at k' ⊢
  obtain ⟨RR, TT, N, ty, host, ⟨c1, c2, c3, c4, c5, c6, c7⟩, hk, -, -, hw⟩ := hf
  have hkN : k < N := by rw [c5]; exact (List.getElem?_eq_some_iff.mp hk).1
  have he := gW_get (dA := Z.2.2.2.2.1) (ad := ad) (M := M) hT
  rw [gE_obj c6] at he
  exact va_getN (v := .ref (ad b)) hx hb hts c2 hown hK hR.1 a he c1 k hkN (va_Nw.use rfl (hE.1 _ hw)) (fun x hx => hx) (by rw [gfs_get hk]; simp only [gfv, hv]; rfl) hd k'

theorem g_put_i (hF : gFix Z cc own nm rt d mc ms Acc AccX) {idx c k a len : Nat} {ft : FieldType} {x : Int32} (hn : narrow ft (.int x) = .int x) (hfit : fits ft (.int x) = true) (hf : gFl own idx c k 0 false ft) (hT : T[a]? = some (c, len)) (hd : decode cc pc = .ok (.putfield idx, 3))
    (k' : gG Z ad T (si M a k x) ce so (pc + 3) ls st) : gG Z ad T M ce so pc ls (.int x :: .ref a :: st) := by
  obtain ⟨p, l, e, R, s, m, args, below, meth, cd, Q, adV, hKq, hx, hb, hml, hown, hts, hK, hH, hA, hE, hRm, hnm, hlk, -⟩ := hF
  intro H locs la hR hl
  have k' := fun H1 locs1 hR1 => k' H1 locs1 la hR1 hl
  rw [hKq] at k' ⊢
  obtain ⟨RR, TT, N, ty, ⟨c1, c2, c3, c4, c5, c6, c7⟩, hk, hft, hfi, hw⟩ := hf
  have hkN : k < N := by rw [c5]; exact (List.getElem?_eq_some_iff.mp hk).1
  have he := gW_get (dA := Z.2.2.2.2.1) (ad := ad) (M := M) hT
  rw [gE_obj c6] at he
  have hset := gW_set (dA := Z.2.2.2.2.1) (ad := ad) (M := M) (M' := si M a k x) (e := .inr (c, ((gK c).mapIdx (gfv M ad a)).set k (.int x))) hT (by rw [gE_obj c6, gfs_set hk (v := .int x) (by rw [gfv, if_pos rfl, gi_si, if_pos ⟨rfl, rfl⟩]) gfv_si]) gE_si
  refine va_put (v := .int x) hx hb hts c2 ty c3 c4 hown hK hR.1 hR.2.1 hR.2.2.1 a he c1 k hkN (hts _ hw) (fun x hx => hx) hfi (c3 k hkN) (by rw [hft]; exact hn) (by rw [hft]; exact hfit) (by rw [List.length_mapIdx, ← c5]; exact hkN) hd (fun H1 locs1 hP hD hS => k' H1 locs1 ⟨by rw [← hset]; exact hP, by rw [← hset]; exact hD, hS, gCl_si hR.2.2.2.1, hR.2.2.2.2⟩)

theorem g_put_l (hF : gFix Z cc own nm rt d mc ms Acc AccX) {idx c k a len : Nat} {ft : FieldType} {x : Int64} (hn : narrow ft (.long x) = .long x) (hfit : fits ft (.long x) = true) (hf : gFl own idx c k 1 false ft) (hT : T[a]? = some (c, len)) (hd : decode cc pc = .ok (.putfield idx, 3))
    (k' : gG Z ad T (sl M a k x) ce so (pc + 3) ls st) : gG Z ad T M ce so pc ls (.long x :: .ref a :: st) := by
  obtain ⟨p, l, e, R, s, m, args, below, meth, cd, Q, adV, hKq, hx, hb, hml, hown, hts, hK, hH, hA, hE, hRm, hnm, hlk, -⟩ := hF
  intro H locs la hR hl
  have k' := fun H1 locs1 hR1 => k' H1 locs1 la hR1 hl
  rw [hKq] at k' ⊢
  obtain ⟨RR, TT, N, ty, ⟨c1, c2, c3, c4, c5, c6, c7⟩, hk, hft, hfi, hw⟩ := hf
  have hkN : k < N := by rw [c5]; exact (List.getElem?_eq_some_iff.mp hk).1
  have he := gW_get (dA := Z.2.2.2.2.1) (ad := ad) (M := M) hT
  rw [gE_obj c6] at he
  have hset := gW_set (dA := Z.2.2.2.2.1) (ad := ad) (M := M) (M' := sl M a k x) (e := .inr (c, ((gK c).mapIdx (gfv M ad a)).set k (.long x))) hT (by rw [gE_obj c6, gfs_set hk (v := .long x) (by rw [gfv, if_neg (by decide), if_pos rfl, gl_sl, if_pos ⟨rfl, rfl⟩]) gfv_sl]) gE_sl
  refine va_put (v := .long x) hx hb hts c2 ty c3 c4 hown hK hR.1 hR.2.1 hR.2.2.1 a he c1 k hkN (hts _ hw) (fun x hx => hx) hfi (c3 k hkN) (by rw [hft]; exact hn) (by rw [hft]; exact hfit) (by rw [List.length_mapIdx, ← c5]; exact hkN) hd (fun H1 locs1 hP hD hS => k' H1 locs1 ⟨by rw [← hset]; exact hP, by rw [← hset]; exact hD, hS, gCl_sl hR.2.2.2.1, hR.2.2.2.2⟩)

theorem g_put_r (hF : gFix Z cc own nm rt d mc ms Acc AccX) {idx c k a len : Nat} {ft : FieldType} {b : Nat} (hn : ∀ q, narrow ft (.ref q) = .ref q) (hfit : ∀ q, fits ft (.ref q) = true) (hbl : b < T.length) (hf : gFl own idx c k 2 false ft) (hT : T[a]? = some (c, len)) (hd : decode cc pc = .ok (.putfield idx, 3))
    (k' : gG Z ad T (sr M a k (some b)) ce so (pc + 3) ls st) : gG Z ad T M ce so pc ls (.ref b :: .ref a :: st) := by
  obtain ⟨p, l, e, R, s, m, args, below, meth, cd, Q, adV, hKq, hx, hb, hml, hown, hts, hK, hH, hA, hE, hRm, hnm, hlk, -⟩ := hF
  intro H locs la hR hl
  have k' := fun H1 locs1 hR1 => k' H1 locs1 la hR1 hl
  rw [hKq] at k' ⊢
  obtain ⟨RR, TT, N, ty, ⟨c1, c2, c3, c4, c5, c6, c7⟩, hk, hft, hfi, hw⟩ := hf
  have hkN : k < N := by rw [c5]; exact (List.getElem?_eq_some_iff.mp hk).1
  have he := gW_get (dA := Z.2.2.2.2.1) (ad := ad) (M := M) hT
  rw [gE_obj c6] at he
  have hset := gW_set (dA := Z.2.2.2.2.1) (ad := ad) (M := M) (M' := sr M a k (some b)) (e := .inr (c, ((gK c).mapIdx (gfv M ad a)).set k (.ref (ad b)))) hT (by rw [gE_obj c6, gfs_set hk (v := .ref (ad b)) (by show va_rf ((gr (sr M a k (some b)) a k).map ad) = .ref (ad b); rw [gr_sr, if_pos ⟨rfl, rfl⟩]; rfl) gfv_sr]) gE_sr
  refine va_put (v := .ref (ad b)) hx hb hts c2 ty c3 c4 hown hK hR.1 hR.2.1 hR.2.2.1 a he c1 k hkN (hts _ hw) (fun x hx => hx) hfi (c3 k hkN) (by rw [hft]; exact (hn _)) (by rw [hft]; exact (hfit _)) (by rw [List.length_mapIdx, ← c5]; exact hkN) hd (fun H1 locs1 hP hD hS => k' H1 locs1 ⟨by rw [← hset]; exact hP, by rw [← hset]; exact hD, hS, gCl_sr hR.2.2.2.1 hbl, hR.2.2.2.2⟩)

theorem g_putF_i (hF : gFix Z cc own nm rt d mc ms Acc AccX) {idx c k a len : Nat} {ft : FieldType} {x : Int32} (hn : narrow ft (.int x) = .int x) (hfit : fits ft (.int x) = true) (hnm0 : nm = "<init>") (hRo0 : ∀ (R : String) (TT : u_T) (N : Nat) (ty : Nat → FieldType), gC c R TT N ty → (TT k).1 = own) (hf : gFl own idx c k 0 true ft) (hT : T[a]? = some (c, len)) (hd : decode cc pc = .ok (.putfield idx, 3))
    (k' : gG Z ad T (si M a k x) ce so (pc + 3) ls st) : gG Z ad T M ce so pc ls (.int x :: .ref a :: st) := by
  obtain ⟨p, l, e, R, s, m, args, below, meth, cd, Q, adV, hKq, hx, hb, hml, hown, hts, hK, hH, hA, hE, hRm, hnm, hlk, -⟩ := hF
  intro H locs la hR hl
  have hnm1 : meth.name = "<init>" := hnm.trans hnm0
  have k' := fun H1 locs1 hR1 => k' H1 locs1 la hR1 hl
  rw [hKq] at k' ⊢
  obtain ⟨RR, TT, N, ty, ⟨c1, c2, c3, c4, c5, c6, c7⟩, hk, hft, hfi, hw⟩ := hf
  have hRo : (TT k).1 = own := hRo0 RR TT N ty ⟨c1, c2, c3, c4, c5, c6, c7⟩
  have hkN : k < N := by rw [c5]; exact (List.getElem?_eq_some_iff.mp hk).1
  have he := gW_get (dA := Z.2.2.2.2.1) (ad := ad) (M := M) hT
  rw [gE_obj c6] at he
  have hset := gW_set (dA := Z.2.2.2.2.1) (ad := ad) (M := M) (M' := si M a k x) (e := .inr (c, ((gK c).mapIdx (gfv M ad a)).set k (.int x))) hT (by rw [gE_obj c6, gfs_set hk (v := .int x) (by rw [gfv, if_pos rfl, gi_si, if_pos ⟨rfl, rfl⟩]) gfv_si]) gE_si
  refine va_putF (v := .int x) hx hb hts c2 ty c3 c4 hown hK hR.1 hR.2.1 hR.2.2.1 a he c1 k hkN (hts _ hw) (fun x hx => hx) hfi hnm1 hRo (c3 k hkN) (by rw [hft]; exact hn) (by rw [hft]; exact hfit) (by rw [List.length_mapIdx, ← c5]; exact hkN) hd (fun H1 locs1 hP hD hS => k' H1 locs1 ⟨by rw [← hset]; exact hP, by rw [← hset]; exact hD, hS, gCl_si hR.2.2.2.1, hR.2.2.2.2⟩)

theorem g_putF_l (hF : gFix Z cc own nm rt d mc ms Acc AccX) {idx c k a len : Nat} {ft : FieldType} {x : Int64} (hn : narrow ft (.long x) = .long x) (hfit : fits ft (.long x) = true) (hnm0 : nm = "<init>") (hRo0 : ∀ (R : String) (TT : u_T) (N : Nat) (ty : Nat → FieldType), gC c R TT N ty → (TT k).1 = own) (hf : gFl own idx c k 1 true ft) (hT : T[a]? = some (c, len)) (hd : decode cc pc = .ok (.putfield idx, 3))
    (k' : gG Z ad T (sl M a k x) ce so (pc + 3) ls st) : gG Z ad T M ce so pc ls (.long x :: .ref a :: st) := by
  obtain ⟨p, l, e, R, s, m, args, below, meth, cd, Q, adV, hKq, hx, hb, hml, hown, hts, hK, hH, hA, hE, hRm, hnm, hlk, -⟩ := hF
  intro H locs la hR hl
  have hnm1 : meth.name = "<init>" := hnm.trans hnm0
  have k' := fun H1 locs1 hR1 => k' H1 locs1 la hR1 hl
  rw [hKq] at k' ⊢
  obtain ⟨RR, TT, N, ty, ⟨c1, c2, c3, c4, c5, c6, c7⟩, hk, hft, hfi, hw⟩ := hf
  have hRo : (TT k).1 = own := hRo0 RR TT N ty ⟨c1, c2, c3, c4, c5, c6, c7⟩
  have hkN : k < N := by rw [c5]; exact (List.getElem?_eq_some_iff.mp hk).1
  have he := gW_get (dA := Z.2.2.2.2.1) (ad := ad) (M := M) hT
  rw [gE_obj c6] at he
  have hset := gW_set (dA := Z.2.2.2.2.1) (ad := ad) (M := M) (M' := sl M a k x) (e := .inr (c, ((gK c).mapIdx (gfv M ad a)).set k (.long x))) hT (by rw [gE_obj c6, gfs_set hk (v := .long x) (by rw [gfv, if_neg (by decide), if_pos rfl, gl_sl, if_pos ⟨rfl, rfl⟩]) gfv_sl]) gE_sl
  refine va_putF (v := .long x) hx hb hts c2 ty c3 c4 hown hK hR.1 hR.2.1 hR.2.2.1 a he c1 k hkN (hts _ hw) (fun x hx => hx) hfi hnm1 hRo (c3 k hkN) (by rw [hft]; exact hn) (by rw [hft]; exact hfit) (by rw [List.length_mapIdx, ← c5]; exact hkN) hd (fun H1 locs1 hP hD hS => k' H1 locs1 ⟨by rw [← hset]; exact hP, by rw [← hset]; exact hD, hS, gCl_sl hR.2.2.2.1, hR.2.2.2.2⟩)

theorem g_putF_r (hF : gFix Z cc own nm rt d mc ms Acc AccX) {idx c k a len : Nat} {ft : FieldType} {b : Nat} (hn : ∀ q, narrow ft (.ref q) = .ref q) (hfit : ∀ q, fits ft (.ref q) = true) (hbl : b < T.length) (hnm0 : nm = "<init>") (hRo0 : ∀ (R : String) (TT : u_T) (N : Nat) (ty : Nat → FieldType), gC c R TT N ty → (TT k).1 = own) (hf : gFl own idx c k 2 true ft) (hT : T[a]? = some (c, len)) (hd : decode cc pc = .ok (.putfield idx, 3))
    (k' : gG Z ad T (sr M a k (some b)) ce so (pc + 3) ls st) : gG Z ad T M ce so pc ls (.ref b :: .ref a :: st) := by
  obtain ⟨p, l, e, R, s, m, args, below, meth, cd, Q, adV, hKq, hx, hb, hml, hown, hts, hK, hH, hA, hE, hRm, hnm, hlk, -⟩ := hF
  intro H locs la hR hl
  have hnm1 : meth.name = "<init>" := hnm.trans hnm0
  have k' := fun H1 locs1 hR1 => k' H1 locs1 la hR1 hl
  rw [hKq] at k' ⊢
  obtain ⟨RR, TT, N, ty, ⟨c1, c2, c3, c4, c5, c6, c7⟩, hk, hft, hfi, hw⟩ := hf
  have hRo : (TT k).1 = own := hRo0 RR TT N ty ⟨c1, c2, c3, c4, c5, c6, c7⟩
  have hkN : k < N := by rw [c5]; exact (List.getElem?_eq_some_iff.mp hk).1
  have he := gW_get (dA := Z.2.2.2.2.1) (ad := ad) (M := M) hT
  rw [gE_obj c6] at he
  have hset := gW_set (dA := Z.2.2.2.2.1) (ad := ad) (M := M) (M' := sr M a k (some b)) (e := .inr (c, ((gK c).mapIdx (gfv M ad a)).set k (.ref (ad b)))) hT (by rw [gE_obj c6, gfs_set hk (v := .ref (ad b)) (by show va_rf ((gr (sr M a k (some b)) a k).map ad) = .ref (ad b); rw [gr_sr, if_pos ⟨rfl, rfl⟩]; rfl) gfv_sr]) gE_sr
  refine va_putF (v := .ref (ad b)) hx hb hts c2 ty c3 c4 hown hK hR.1 hR.2.1 hR.2.2.1 a he c1 k hkN (hts _ hw) (fun x hx => hx) hfi hnm1 hRo (c3 k hkN) (by rw [hft]; exact (hn _)) (by rw [hft]; exact (hfit _)) (by rw [List.length_mapIdx, ← c5]; exact hkN) hd (fun H1 locs1 hP hD hS => k' H1 locs1 ⟨by rw [← hset]; exact hP, by rw [← hset]; exact hD, hS, gCl_sr hR.2.2.2.1 hbl, hR.2.2.2.2⟩)

theorem g_putN_i (hF : gFix Z cc own nm rt d mc ms Acc AccX) {idx c k a len : Nat} {ft : FieldType} {x : Int32} (hn : narrow ft (.int x) = .int x) (hfit : fits ft (.int x) = true) (hf : gFn own idx c k 0 false ft) (hT : T[a]? = some (c, len)) (hd : decode cc pc = .ok (.putfield idx, 3))
    (k' : gG Z ad T (si M a k x) ce so (pc + 3) ls st) : gG Z ad T M ce so pc ls (.int x :: .ref a :: st) := by
  obtain ⟨p, l, e, R, s, m, args, below, meth, cd, Q, adV, hKq, hx, hb, hml, hown, hts, hK, hH, hA, hE, hRm, hnm, hlk, -⟩ := hF
  intro H locs la hR hl
  have k' := fun H1 locs1 hR1 => k' H1 locs1 la hR1 hl
  rw [hKq] at k' ⊢
  obtain ⟨RR, TT, N, ty, host, ⟨c1, c2, c3, c4, c5, c6, c7⟩, hk, hft, hfi, hw⟩ := hf
  have hkN : k < N := by rw [c5]; exact (List.getElem?_eq_some_iff.mp hk).1
  have he := gW_get (dA := Z.2.2.2.2.1) (ad := ad) (M := M) hT
  rw [gE_obj c6] at he
  have hset := gW_set (dA := Z.2.2.2.2.1) (ad := ad) (M := M) (M' := si M a k x) (e := .inr (c, ((gK c).mapIdx (gfv M ad a)).set k (.int x))) hT (by rw [gE_obj c6, gfs_set hk (v := .int x) (by rw [gfv, if_pos rfl, gi_si, if_pos ⟨rfl, rfl⟩]) gfv_si]) gE_si
  refine va_putN (v := .int x) hx hb hts c2 ty c3 c4 hown hK hR.1 hR.2.1 hR.2.2.1 a he c1 k hkN (va_Nw.use rfl (hE.1 _ hw)) (fun x hx => hx) hfi (c3 k hkN) (by rw [hft]; exact hn) (by rw [hft]; exact hfit) (by rw [List.length_mapIdx, ← c5]; exact hkN) hd (fun H1 locs1 hP hD hS => k' H1 locs1 ⟨by rw [← hset]; exact hP, by rw [← hset]; exact hD, hS, gCl_si hR.2.2.2.1, hR.2.2.2.2⟩)

theorem g_putN_l (hF : gFix Z cc own nm rt d mc ms Acc AccX) {idx c k a len : Nat} {ft : FieldType} {x : Int64} (hn : narrow ft (.long x) = .long x) (hfit : fits ft (.long x) = true) (hf : gFn own idx c k 1 false ft) (hT : T[a]? = some (c, len)) (hd : decode cc pc = .ok (.putfield idx, 3))
    (k' : gG Z ad T (sl M a k x) ce so (pc + 3) ls st) : gG Z ad T M ce so pc ls (.long x :: .ref a :: st) := by
  obtain ⟨p, l, e, R, s, m, args, below, meth, cd, Q, adV, hKq, hx, hb, hml, hown, hts, hK, hH, hA, hE, hRm, hnm, hlk, -⟩ := hF
  intro H locs la hR hl
  have k' := fun H1 locs1 hR1 => k' H1 locs1 la hR1 hl
  rw [hKq] at k' ⊢
  obtain ⟨RR, TT, N, ty, host, ⟨c1, c2, c3, c4, c5, c6, c7⟩, hk, hft, hfi, hw⟩ := hf
  have hkN : k < N := by rw [c5]; exact (List.getElem?_eq_some_iff.mp hk).1
  have he := gW_get (dA := Z.2.2.2.2.1) (ad := ad) (M := M) hT
  rw [gE_obj c6] at he
  have hset := gW_set (dA := Z.2.2.2.2.1) (ad := ad) (M := M) (M' := sl M a k x) (e := .inr (c, ((gK c).mapIdx (gfv M ad a)).set k (.long x))) hT (by rw [gE_obj c6, gfs_set hk (v := .long x) (by rw [gfv, if_neg (by decide), if_pos rfl, gl_sl, if_pos ⟨rfl, rfl⟩]) gfv_sl]) gE_sl
  refine va_putN (v := .long x) hx hb hts c2 ty c3 c4 hown hK hR.1 hR.2.1 hR.2.2.1 a he c1 k hkN (va_Nw.use rfl (hE.1 _ hw)) (fun x hx => hx) hfi (c3 k hkN) (by rw [hft]; exact hn) (by rw [hft]; exact hfit) (by rw [List.length_mapIdx, ← c5]; exact hkN) hd (fun H1 locs1 hP hD hS => k' H1 locs1 ⟨by rw [← hset]; exact hP, by rw [← hset]; exact hD, hS, gCl_sl hR.2.2.2.1, hR.2.2.2.2⟩)

theorem g_putN_r (hF : gFix Z cc own nm rt d mc ms Acc AccX) {idx c k a len : Nat} {ft : FieldType} {b : Nat} (hn : ∀ q, narrow ft (.ref q) = .ref q) (hfit : ∀ q, fits ft (.ref q) = true) (hbl : b < T.length) (hf : gFn own idx c k 2 false ft) (hT : T[a]? = some (c, len)) (hd : decode cc pc = .ok (.putfield idx, 3))
    (k' : gG Z ad T (sr M a k (some b)) ce so (pc + 3) ls st) : gG Z ad T M ce so pc ls (.ref b :: .ref a :: st) := by
  obtain ⟨p, l, e, R, s, m, args, below, meth, cd, Q, adV, hKq, hx, hb, hml, hown, hts, hK, hH, hA, hE, hRm, hnm, hlk, -⟩ := hF
  intro H locs la hR hl
  have k' := fun H1 locs1 hR1 => k' H1 locs1 la hR1 hl
  rw [hKq] at k' ⊢
  obtain ⟨RR, TT, N, ty, host, ⟨c1, c2, c3, c4, c5, c6, c7⟩, hk, hft, hfi, hw⟩ := hf
  have hkN : k < N := by rw [c5]; exact (List.getElem?_eq_some_iff.mp hk).1
  have he := gW_get (dA := Z.2.2.2.2.1) (ad := ad) (M := M) hT
  rw [gE_obj c6] at he
  have hset := gW_set (dA := Z.2.2.2.2.1) (ad := ad) (M := M) (M' := sr M a k (some b)) (e := .inr (c, ((gK c).mapIdx (gfv M ad a)).set k (.ref (ad b)))) hT (by rw [gE_obj c6, gfs_set hk (v := .ref (ad b)) (by show va_rf ((gr (sr M a k (some b)) a k).map ad) = .ref (ad b); rw [gr_sr, if_pos ⟨rfl, rfl⟩]; rfl) gfv_sr]) gE_sr
  refine va_putN (v := .ref (ad b)) hx hb hts c2 ty c3 c4 hown hK hR.1 hR.2.1 hR.2.2.1 a he c1 k hkN (va_Nw.use rfl (hE.1 _ hw)) (fun x hx => hx) hfi (c3 k hkN) (by rw [hft]; exact (hn _)) (by rw [hft]; exact (hfit _)) (by rw [List.length_mapIdx, ← c5]; exact hkN) hd (fun H1 locs1 hP hD hS => k' H1 locs1 ⟨by rw [← hset]; exact hP, by rw [← hset]; exact hD, hS, gCl_sr hR.2.2.2.1 hbl, hR.2.2.2.2⟩)

theorem g_iald (hF : gFix Z cc own nm rt d mc ms Acc AccX) {a n : Nat} {i : Int32} (hT : T[a]? = some (11, n)) (hin : vp_in i n) (hd : decode cc pc = .ok (.iaload, 1))
    (k : gG Z ad T M ce so (pc + 1) ls (.int (gi M a i.toNatClampNeg) :: st)) : gG Z ad T M ce so pc ls (.int i :: .ref a :: st) := by
  obtain ⟨p, l, e, R, s, m, args, below, meth, c, Q, adV, hKq, hx, hb, hml, hown, hts, hK, hH, hA, hE, hRm, hnm, hlk, -⟩ := hF
  intro H locs la hR hl
  have k := k H locs la hR hl
  rw [hKq] at k ⊢
  have he := gW_get (dA := Z.2.2.2.2.1) (ad := ad) (M := M) hT
  rw [gE_i] at he
  exact va_iald hx hb hK hR.1 a 1 he rfl hin hd k

theorem g_bald (hF : gFix Z cc own nm rt d mc ms Acc AccX) {a n : Nat} {i : Int32} (hT : T[a]? = some (10, n)) (hin : vp_in i n) (hd : decode cc pc = .ok (.baload, 1))
    (k : gG Z ad T M ce so (pc + 1) ls (.int (gi M a i.toNatClampNeg) :: st)) : gG Z ad T M ce so pc ls (.int i :: .ref a :: st) := by
  obtain ⟨p, l, e, R, s, m, args, below, meth, c, Q, adV, hKq, hx, hb, hml, hown, hts, hK, hH, hA, hE, hRm, hnm, hlk, -⟩ := hF
  intro H locs la hR hl
  have k := k H locs la hR hl
  rw [hKq] at k ⊢
  have he := gW_get (dA := Z.2.2.2.2.1) (ad := ad) (M := M) hT
  rw [gE_b] at he
  exact va_bald hx hb hK hR.1 a 0 he rfl hin hd k

theorem g_lald (hF : gFix Z cc own nm rt d mc ms Acc AccX) {a n : Nat} {i : Int32} (hT : T[a]? = some (12, n)) (hin : vp_in i n) (hd : decode cc pc = .ok (.laload, 1))
    (k : gG Z ad T M ce so (pc + 1) ls (.long (gl M a i.toNatClampNeg) :: st)) : gG Z ad T M ce so pc ls (.int i :: .ref a :: st) := by
  obtain ⟨p, l, e, R, s, m, args, below, meth, c, Q, adV, hKq, hx, hb, hml, hown, hts, hK, hH, hA, hE, hRm, hnm, hlk, -⟩ := hF
  intro H locs la hR hl
  have k := k H locs la hR hl
  rw [hKq] at k ⊢
  have he := gW_get (dA := Z.2.2.2.2.1) (ad := ad) (M := M) hT
  rw [gE_l] at he
  exact va_lald hx hb hK hR.1 a 2 he rfl hin hd k

theorem g_aald (hF : gFix Z cc own nm rt d mc ms Acc AccX) {a n b kd : Nat} {C : String} {i : Int32} (hT : T[a]? = some (kd, n)) (hkd : (kd = 13 ∧ C = RX0) ∨ (kd = 14 ∧ C = RX3) ∨ (kd = 21 ∧ C = RX9) ∨ (kd = 22 ∧ C = RX10)) (hin : vp_in i n) (hv : gr M a i.toNatClampNeg = some b) (hd : decode cc pc = .ok (.aaload, 1))
    (k : gG Z ad T M ce so (pc + 1) ls (.ref b :: st)) : gG Z ad T M ce so pc ls (.int i :: .ref a :: st) := by
  obtain ⟨p, l, e, R, s, m, args, below, meth, c, Q, adV, hKq, hx, hb, hml, hown, hts, hK, hH, hA, hE, hRm, hnm, hlk, -⟩ := hF
  intro H locs la hR hl
  have k := k H locs la hR hl
  rw [hKq] at k ⊢
  have he := gW_get (dA := Z.2.2.2.2.1) (ad := ad) (M := M) hT
  rw [gE_q (by rcases hkd with q | q | q | q <;> omega)] at he
  have k2 : W p l e R s m args below meth c H locs ce so Q (F0 m (pc + 1) la (va_rf ((fun j => (gr M a j).map ad) i.toNatClampNeg) :: st.map (gv ad))) := by
    show W p l e R s m args below meth c H locs ce so Q (F0 m (pc + 1) la (va_rf ((gr M a i.toNatClampNeg).map ad) :: st.map (gv ad)))
    rw [hv]
    exact k
  rcases hkd with ⟨rfl, rfl⟩ | ⟨rfl, rfl⟩ | ⟨rfl, rfl⟩ | ⟨rfl, rfl⟩
  · exact va_aldq hx hb hK hR.1 a 3 he rfl hin hd k2
  · exact va_aldq hx hb hK hR.1 a 4 he rfl hin hd k2
  · exact va_aldq hx hb hK hR.1 a 6 he rfl hin hd k2
  · exact va_aldq hx hb hK hR.1 a 7 he rfl hin hd k2
theorem g_aald2 (hF : gFix Z cc own nm rt d mc ms Acc AccX) {a n b : Nat} {i : Int32} (hT : T[a]? = some (15, n)) (hin : vp_in i n) (hv : gr M a i.toNatClampNeg = some b) (hd : decode cc pc = .ok (.aaload, 1))
    (k : gG Z ad T M ce so (pc + 1) ls (.ref b :: st)) : gG Z ad T M ce so pc ls (.int i :: .ref a :: st) := by
  obtain ⟨p, l, e, R, s, m, args, below, meth, c, Q, adV, hKq, hx, hb, hml, hown, hts, hK, hH, hA, hE, hRm, hnm, hlk, -⟩ := hF
  intro H locs la hR hl
  have k := k H locs la hR hl
  rw [hKq] at k ⊢
  have he := gW_get (dA := Z.2.2.2.2.1) (ad := ad) (M := M) hT
  rw [gE_q (Or.inl ⟨by omega, by omega⟩)] at he
  have hlt : i.toNatClampNeg < n := Nat.not_le.mp fun q => hin (Or.inr q)
  exact W.aald (v := .ref (ad b)) (ty := .array .int) hx hb (hR.1 a _ he) ((hK.2 5 _ rfl).1 n (fun j => va_rf ((gr M a j).map ad))) rfl (fun q => by cases q) (by show ¬ (i < 0 ∨ (arrV _ _ _).slots.size ≤ _); rw [arrV_size]; exact hin) (by show (arrV _ _ _).slots[_]? = _; rw [arrV_read _ _ hlt]; show some (va_rf ((gr M a i.toNatClampNeg).map ad)) = _; rw [hv]; rfl) rfl rfl hd k
theorem g_alen (hF : gFix Z cc own nm rt d mc ms Acc AccX) {a n kd : Nat} (hT : T[a]? = some (kd, n)) (hkd : gAr kd) (hd : decode cc pc = .ok (.arraylength, 1))
    (k : gG Z ad T M ce so (pc + 1) ls (.int (Int32.ofNat n) :: st)) : gG Z ad T M ce so pc ls (.ref a :: st) := by
  obtain ⟨p, l, e, R, s, m, args, below, meth, c, Q, adV, hKq, hx, hb, hml, hown, hts, hK, hH, hA, hE, hRm, hnm, hlk, -⟩ := hF
  intro H locs la hR hl
  have k := k H locs la hR hl
  rw [hKq] at k ⊢
  have he := gW_get (dA := Z.2.2.2.2.1) (ad := ad) (M := M) hT
  obtain rfl | rfl | rfl | rfl | rfl | rfl | rfl | rfl : kd = 10 ∨ kd = 11 ∨ kd = 12 ∨ kd = 13 ∨ kd = 14 ∨ kd = 15 ∨ kd = 21 ∨ kd = 22 := by unfold gAr at hkd; omega
  · exact va_alen hx hb hK hR.1 a 0 (x := (n, .inl (fun j => gi M a j))) he rfl rfl hd k
  · exact va_alen hx hb hK hR.1 a 1 (x := (n, .inl (fun j => gi M a j))) he rfl rfl hd k
  · exact va_alen hx hb hK hR.1 a 2 (x := (n, .inr (.inl (fun j => gl M a j)))) he rfl rfl hd k
  · exact va_alen hx hb hK hR.1 a 3 (x := (n, .inr (.inr (.inr (.inr (fun j => (gr M a j).map ad)))))) he rfl rfl hd k
  · exact va_alen hx hb hK hR.1 a 4 (x := (n, .inr (.inr (.inr (.inr (fun j => (gr M a j).map ad)))))) he rfl rfl hd k
  · exact va_alen hx hb hK hR.1 a 5 (x := (n, .inr (.inr (.inr (.inr (fun j => (gr M a j).map ad)))))) he rfl rfl hd k
  · exact va_alen hx hb hK hR.1 a 6 (x := (n, .inr (.inr (.inr (.inr (fun j => (gr M a j).map ad)))))) he rfl rfl hd k
  · exact va_alen hx hb hK hR.1 a 7 (x := (n, .inr (.inr (.inr (.inr (fun j => (gr M a j).map ad)))))) he rfl rfl hd k

theorem g_iast (hF : gFix Z cc own nm rt d mc ms Acc AccX) {a n : Nat} {i : Int32} {x : Int32} (hT : T[a]? = some (11, n)) (hin : vp_in i n) (hd : decode cc pc = .ok (.iastore, 1))
    (k : gG Z ad T (si M a i.toNatClampNeg x) ce so (pc + 1) ls st) : gG Z ad T M ce so pc ls (.int x :: .int i :: .ref a :: st) := by
  obtain ⟨p, l, e, R, s, m, args, below, meth, c, Q, adV, hKq, hx, hb, hml, hown, hts, hK, hH, hA, hE, hRm, hnm, hlk, -⟩ := hF
  intro H locs la hR hl
  have k := fun H1 locs1 hR1 => k H1 locs1 la hR1 hl
  rw [hKq] at k ⊢
  have he := gW_get (dA := Z.2.2.2.2.1) (ad := ad) (M := M) hT
  rw [gE_i] at he
  have hset := gW_set (dA := Z.2.2.2.2.1) (ad := ad) (M := M) (M' := si M a i.toNatClampNeg x) (e := .inl (Z.2.2.2.2.1 11, n, .inl (upd (fun j => gi M a j) i.toNatClampNeg x))) hT (by
    rw [gE_i]
    congr 4
    funext j
    simp only [gi_si, true_and, upd, vp_updL]
    try rw [vp_nar_byte]) gE_si
  exact va_iast hx hb hK hR.1 hR.2.1 hR.2.2.1 a 1 he rfl hin hd (fun H1 locs1 hP hD hS => k H1 locs1 ⟨by rw [← hset]; exact hP, by rw [← hset]; exact hD, hS, gCl_si hR.2.2.2.1, hR.2.2.2.2⟩)

theorem g_bast (hF : gFix Z cc own nm rt d mc ms Acc AccX) {a n : Nat} {i : Int32} {x : Int32} (hT : T[a]? = some (10, n)) (hin : vp_in i n) (hd : decode cc pc = .ok (.bastore, 1))
    (k : gG Z ad T (si M a i.toNatClampNeg x.toInt8.toInt32) ce so (pc + 1) ls st) : gG Z ad T M ce so pc ls (.int x :: .int i :: .ref a :: st) := by
  obtain ⟨p, l, e, R, s, m, args, below, meth, c, Q, adV, hKq, hx, hb, hml, hown, hts, hK, hH, hA, hE, hRm, hnm, hlk, -⟩ := hF
  intro H locs la hR hl
  have k := fun H1 locs1 hR1 => k H1 locs1 la hR1 hl
  rw [hKq] at k ⊢
  have he := gW_get (dA := Z.2.2.2.2.1) (ad := ad) (M := M) hT
  rw [gE_b] at he
  have hset := gW_set (dA := Z.2.2.2.2.1) (ad := ad) (M := M) (M' := si M a i.toNatClampNeg x.toInt8.toInt32) (e := .inl (Z.2.2.2.2.1 10, n, .inl (upd (fun j => gi M a j) i.toNatClampNeg (vp_nar .byte x)))) hT (by
    rw [gE_b]
    congr 4
    funext j
    simp only [gi_si, true_and, upd, vp_updL]
    try rw [vp_nar_byte]) gE_si
  exact va_bast hx hb hK hR.1 hR.2.1 hR.2.2.1 a 0 he rfl hin hd (fun H1 locs1 hP hD hS => k H1 locs1 ⟨by rw [← hset]; exact hP, by rw [← hset]; exact hD, hS, gCl_si hR.2.2.2.1, hR.2.2.2.2⟩)

theorem g_last (hF : gFix Z cc own nm rt d mc ms Acc AccX) {a n : Nat} {i : Int32} {x : Int64} (hT : T[a]? = some (12, n)) (hin : vp_in i n) (hd : decode cc pc = .ok (.lastore, 1))
    (k : gG Z ad T (sl M a i.toNatClampNeg x) ce so (pc + 1) ls st) : gG Z ad T M ce so pc ls (.long x :: .int i :: .ref a :: st) := by
  obtain ⟨p, l, e, R, s, m, args, below, meth, c, Q, adV, hKq, hx, hb, hml, hown, hts, hK, hH, hA, hE, hRm, hnm, hlk, -⟩ := hF
  intro H locs la hR hl
  have k := fun H1 locs1 hR1 => k H1 locs1 la hR1 hl
  rw [hKq] at k ⊢
  have he := gW_get (dA := Z.2.2.2.2.1) (ad := ad) (M := M) hT
  rw [gE_l] at he
  have hset := gW_set (dA := Z.2.2.2.2.1) (ad := ad) (M := M) (M' := sl M a i.toNatClampNeg x) (e := .inl (Z.2.2.2.2.1 12, n, .inr (.inl (vp_updL (fun j => gl M a j) i.toNatClampNeg x)))) hT (by
    rw [gE_l]
    congr 5
    funext j
    simp only [gl_sl, true_and, upd, vp_updL]
    try rw [vp_nar_byte]) gE_sl
  exact va_last hx hb hK hR.1 hR.2.1 hR.2.2.1 a 2 he rfl hin hd (fun H1 locs1 hP hD hS => k H1 locs1 ⟨by rw [← hset]; exact hP, by rw [← hset]; exact hD, hS, gCl_sl hR.2.2.2.1, hR.2.2.2.2⟩)

theorem g_aast (hF : gFix Z cc own nm rt d mc ms Acc AccX) {a n b kd ci len : Nat} {r : vw_C} {i : Int32} (hT : T[a]? = some (kd, n)) (hkd : (kd = 13 ∧ ci = 0) ∨ (kd = 14 ∧ ci = 3) ∨ (kd = 21 ∧ ci = 9) ∨ (kd = 22 ∧ ci = 16)) (hTb : T[b]? = some (ci, len)) (hin : vp_in i n) (hd : decode cc pc = .ok (.aastore, 1))
    (k : gG Z ad T (sr M a i.toNatClampNeg (some b)) ce so (pc + 1) ls st) : gG Z ad T M ce so pc ls (.ref b :: .int i :: .ref a :: st) := by
  obtain ⟨p, l, e, R, s, m, args, below, meth, c, Q, adV, hKq, hx, hb, hml, hown, hts, hK, hH, hA, hE, hRm, hnm, hlk, -⟩ := hF
  intro H locs la hR hl
  have k := fun H1 locs1 hR1 => k H1 locs1 la hR1 hl
  rw [hKq] at k ⊢
  have he := gW_get (dA := Z.2.2.2.2.1) (ad := ad) (M := M) hT
  rw [gE_q (by rcases hkd with q | q | q | q <;> omega)] at he
  have hv := gW_get (dA := Z.2.2.2.2.1) (ad := ad) (M := M) hTb
  rw [gE_obj (by rcases hkd with q | q | q | q <;> omega)] at hv
  have hset := gW_set (dA := Z.2.2.2.2.1) (ad := ad) (M := M) (M' := sr M a i.toNatClampNeg (some b)) (e := .inl (Z.2.2.2.2.1 kd, n, .inr (.inr (.inr (.inr (va_up (fun j => (gr M a j).map ad) i.toNatClampNeg (some (ad b)))))))) hT (by
    rw [gE_q (by rcases hkd with q | q | q | q <;> omega)]
    congr 7
    funext j
    simp only [gr_sr, true_and, va_up]
    split <;> rfl) gE_sr
  have hbl : b < T.length := (List.getElem?_eq_some_iff.mp hTb).1
  rcases hkd with ⟨rfl, rfl⟩ | ⟨rfl, rfl⟩ | ⟨rfl, rfl⟩ | ⟨rfl, rfl⟩
  · exact va_astq hx hb hK hR.1 hR.2.1 hR.2.2.1 a 3 b 0 (r := (RX0, TX0, 5)) he rfl hv rfl hin hd (fun H1 locs1 hP hD hS => k H1 locs1 ⟨by rw [← hset]; exact hP, by rw [← hset]; exact hD, hS, gCl_sr hR.2.2.2.1 hbl, hR.2.2.2.2⟩)
  · exact va_astq hx hb hK hR.1 hR.2.1 hR.2.2.1 a 4 b 3 (r := (RX3, TX3, 6)) he rfl hv rfl hin hd (fun H1 locs1 hP hD hS => k H1 locs1 ⟨by rw [← hset]; exact hP, by rw [← hset]; exact hD, hS, gCl_sr hR.2.2.2.1 hbl, hR.2.2.2.2⟩)
  · exact va_astq hx hb hK hR.1 hR.2.1 hR.2.2.1 a 6 b 9 (r := (RX9, TX9, 4)) he rfl hv rfl hin hd (fun H1 locs1 hP hD hS => k H1 locs1 ⟨by rw [← hset]; exact hP, by rw [← hset]; exact hD, hS, gCl_sr hR.2.2.2.1 hbl, hR.2.2.2.2⟩)
  · exact va_astq hx hb hK hR.1 hR.2.1 hR.2.2.1 a 7 b 16 (r := (RX10, TX10, 5)) he rfl hv rfl hin hd (fun H1 locs1 hP hD hS => k H1 locs1 ⟨by rw [← hset]; exact hP, by rw [← hset]; exact hD, hS, gCl_sr hR.2.2.2.1 hbl, hR.2.2.2.2⟩)
end GH
