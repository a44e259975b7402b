/-! NULLABLE REFERENCES, and what else the law's own methods need -/
def gvo (o : Option Nat) : Value := match o with
  | none => .null
  | some a => .ref a
theorem gvo_gv (ad : Nat → Nat) (o : Option Nat) : gv ad (gvo o) = va_rf (o.map ad) := by cases o <;> rfl
theorem gvo_cat (o : Option Nat) : (gvo o).category = 1 := by cases o <;> rfl
/-- what it holds, if it holds something, is a thing of the kind kd -/
def gOk (T : gT) (o : Option Nat) (kd : Nat) : Prop := ∀ b, o = some b → ∃ n, T[b]? = some (kd, n)
theorem gOk_none {T : gT} {kd : Nat} : gOk T none kd := fun _ h => nomatch h
theorem gOk_some {T : gT} {kd b n : Nat} (h : T[b]? = some (kd, n)) : gOk T (some b) kd := fun c q => by cases q; exact ⟨n, h⟩
theorem gOk.ext {T T1 : gT} {o : Option Nat} {kd : Nat} (h : gOk T o kd) (hx : gExt T T1) : gOk T1 o kd := fun b q => by
  obtain ⟨n, hn⟩ := h b q
  exact ⟨n, hx _ _ hn⟩
theorem gOk.lt {T : gT} {o : Option Nat} {kd b : Nat} (h : gOk T o kd) (q : o = some b) : b < T.length := by
  obtain ⟨n, hn⟩ := h b q
  exact gT_lt hn
/-- a String: one of the constants, or an object that was made -/
def gStr (T : gT) (s : Nat) : Prop := (∃ i, i < 34 ∧ s = gSB + i) ∨ ∃ n, T[s]? = some (19, n)
theorem gStr_c {T : gT} {i : Nat} (h : i < 34) : gStr T (gSB + i) := Or.inl ⟨i, h, rfl⟩
theorem gStr_t {T : gT} {s n : Nat} (h : T[s]? = some (19, n)) : gStr T s := Or.inr ⟨n, h⟩
theorem gStr.ext {T T1 : gT} {s : Nat} (h : gStr T s) (hx : gExt T T1) : gStr T1 s := h.imp id (fun ⟨n, q⟩ => ⟨n, hx _ _ q⟩)
theorem gStr.old {T : gT} {s : Nat} (h : gStr T s) : s < T.length ∨ gSB ≤ s := by
  rcases h with ⟨i, -, rfl⟩ | ⟨n, q⟩
  · exact Or.inr (Nat.le_add_right _ _)
  · exact Or.inl (gT_lt q)
theorem gStr.ne {T : gT} {s : Nat} (h : gStr T s) (hT : T.length < gSB) : s ≠ T.length := by
  rcases h.old with q | q <;> omega
theorem gFr_o {n kd : Nat} {T : gT} {o : Option Nat} {l : List Value} (h : gOk T o kd) (hn : n = T.length) (hl : gFr n l) : gFr n (gvo o :: l) := by
  cases o with
  | none => exact fun v hv => (List.mem_cons.mp hv).elim (fun e => by rw [e]; exact fun q => nomatch q) (hl v)
  | some b => exact gFr_r (by have := h.lt rfl; omega) hl
theorem gOld_o {n kd : Nat} {T : gT} {o : Option Nat} {l : List Value} (h : gOk T o kd) (hn : n = T.length) (hl : gOld n l) : gOld n (gvo o :: l) := by
  cases o with
  | none => exact fun v hv => (List.mem_cons.mp hv).elim (fun e => by rw [e]; exact fun _ q => nomatch q) (hl v)
  | some b => exact gOld_r (by have := h.lt rfl; omega) hl
theorem gOld_S {T : gT} {s : Nat} {l : List Value} (h : gStr T s) (hl : gOld T.length l) : gOld T.length (.ref s :: l) := fun v hv => (List.mem_cons.mp hv).elim (fun e => by rw [e]; exact fun b q => by rw [← Value.ref.inj q]; exact h.old) (hl v)

section GNR
variable {Z : gZ} {cc : ByteArray} {own nm : String} {rt : Option FieldType} {d mc ms : Nat} {Acc : Option Value → (Nat → Nat) → gT → gM → Prop} {AccX : Nat → (Nat → Nat) → gT → gM → Prop} {ad : Nat → Nat} {T T1 : gT} {M M1 : gM} {ce so pc : Nat} {ls ls' : List (Nat × Value)} {st : List Value}
theorem g_null (hF : gFix Z cc own nm rt d mc ms Acc AccX)  (hd : decode cc pc = .ok (.aconst_null, 1))
    (k : gG Z ad T M ce so (pc + 1) ls (gvo none :: st)) : gG Z ad T M ce so pc ls (st) := by
  obtain ⟨p, l, e, R, s, m, args, below, meth, c, Q, adV, hKq, hx, hb, hml, hown, hts, hK, hH, hA, hE, hRm, hnm, hlk, -⟩ := hF
  intro H locs la hR hl
  have k := k H locs la hR hl
  rw [hKq] at k ⊢
  exact lv_null hx hb hd k
theorem g_ineg (hF : gFix Z cc own nm rt d mc ms Acc AccX) {x : Int32} (hd : decode cc pc = .ok (.ineg, 1))
    (k : gG Z ad T M ce so (pc + 1) ls (.int (-x) :: st)) : gG Z ad T M ce so pc ls (.int x :: st) := by
  obtain ⟨p, l, e, R, s, m, args, below, meth, c, Q, adV, hKq, hx, hb, hml, hown, hts, hK, hH, hA, hE, hRm, hnm, hlk, -⟩ := hF
  intro H locs la hR hl
  have k := k H locs la hR hl
  rw [hKq] at k ⊢
  exact lv_ineg hx hb hd k
abbrev iushr (x y : Int32) : Int32 := (x.toUInt32 >>> (y.toUInt32 &&& Int32.toUInt32 31)).toInt32
theorem g_iushr (hF : gFix Z cc own nm rt d mc ms Acc AccX) {x y : Int32} (hd : decode cc pc = .ok (.iushr, 1))
    (k : gG Z ad T M ce so (pc + 1) ls (.int (iushr x y) :: st)) : gG Z ad T M ce so pc ls (.int y :: .int x :: st) := by
  obtain ⟨p, l, e, R, s, m, args, below, meth, c, Q, adV, hKq, hx, hb, hml, hown, hts, hK, hH, hA, hE, hRm, hnm, hlk, -⟩ := hF
  intro H locs la hR hl
  have k := k H locs la hR hl
  rw [hKq] at k ⊢
  exact lv_iushr hx hb hd rfl k
theorem g_dup_x1 (hF : gFix Z cc own nm rt d mc ms Acc AccX) {va vb : Value} (hc : va.category = 1) (hc2 : vb.category = 1) (hd : decode cc pc = .ok (.dup_x1, 1))
    (k : gG Z ad T M ce so (pc + 1) ls (va :: vb :: va :: st)) : gG Z ad T M ce so pc ls (va :: vb :: st) := by
  obtain ⟨p, l, e, R, s, m, args, below, meth, c, Q, adV, hKq, hx, hb, hml, hown, hts, hK, hH, hA, hE, hRm, hnm, hlk, -⟩ := hF
  intro H locs la hR hl
  have k := k H locs la hR hl
  rw [hKq] at k ⊢
  exact lv_dup_x1 hx hb hd (by rw [gv_cat]; exact hc) (by rw [gv_cat]; exact hc2) k
theorem g_oload_n (hF : gFix Z cc own nm rt d mc ms Acc AccX) {kf : Fin 4} {i : Nat} {o : Option Nat} (j : Nat) (hj : ls[j]? = some (i, gvo o)) (hi : (kf : Nat) = i) (hd : decode cc pc = .ok (.aload_n kf, 1))
    (k : gG Z ad T M ce so (pc + 1) ls (gvo o :: st)) : gG Z ad T M ce so pc ls st := by
  obtain ⟨p, l, e, R, s, m, args, below, meth, c, Q, adV, hKq, hx, hb, hml, hown, hts, hK, hH, hA, hE, hRm, hnm, hlk, -⟩ := hF
  intro H locs la hR hl
  have k := k H locs la hR hl
  rw [hKq] at k ⊢
  have hj := gl_at hl j hj
  cases o with
  | none => exact lv_aload_nN hx hb hd hi hj k
  | some x => exact lv_aload_n hx hb hd hi hj k
theorem g_oload (hF : gFix Z cc own nm rt d mc ms Acc AccX) {i : Nat} {o : Option Nat} (j : Nat) (hj : ls[j]? = some (i, gvo o)) (hd : decode cc pc = .ok (.aload i, 2))
    (k : gG Z ad T M ce so (pc + 2) ls (gvo o :: st)) : gG Z ad T M ce so pc ls st := by
  obtain ⟨p, l, e, R, s, m, args, below, meth, c, Q, adV, hKq, hx, hb, hml, hown, hts, hK, hH, hA, hE, hRm, hnm, hlk, -⟩ := hF
  intro H locs la hR hl
  have k := k H locs la hR hl
  rw [hKq] at k ⊢
  have hj := gl_at hl j hj
  cases o with
  | none => exact lv_aloadN hx hb hd hj k
  | some x => exact lv_aload hx hb hd hj k
theorem g_ostore_n (hF : gFix Z cc own nm rt d mc ms Acc AccX) {kf : Fin 4} {i : Nat} {o : Option Nat} (hi : (kf : Nat) = i) (hn : i < Z.2.2.2.2.2.1) (hs : (i, gvo o) :: ls.filter (fun q => !(q.1 == i) && !(q.1 + 1 == i && q.2.category == 2)) = ls') (hd : decode cc pc = .ok (.astore_n kf, 1))
    (k : gG Z ad T M ce so (pc + 1) ls' st) : gG Z ad T M ce so pc ls (gvo o :: st) := by
  obtain ⟨p, l, e, R, s, m, args, below, meth, c, Q, adV, hKq, hx, hb, hml, hown, hts, hK, hH, hA, hE, hRm, hnm, hlk, -⟩ := hF
  intro H locs la hR hl
  have k := fun la hl => k H locs la hR hl
  rw [hKq] at k ⊢
  cases o with
  | none => exact lv_astore_nN hx hb hd hi hl hn (gl_st1 (ad := ad) (v := .null) hs) (fun la hl => k la hl)
  | some x => exact lv_astore_n hx hb hd hi hl hn (gl_st1 (ad := ad) (v := .ref x) hs) (fun la hl => k la hl)
theorem g_ostore (hF : gFix Z cc own nm rt d mc ms Acc AccX) {i : Nat} {o : Option Nat} (hn : i < Z.2.2.2.2.2.1) (hs : (i, gvo o) :: ls.filter (fun q => !(q.1 == i) && !(q.1 + 1 == i && q.2.category == 2)) = ls') (hd : decode cc pc = .ok (.astore i, 2))
    (k : gG Z ad T M ce so (pc + 2) ls' st) : gG Z ad T M ce so pc ls (gvo o :: st) := by
  obtain ⟨p, l, e, R, s, m, args, below, meth, c, Q, adV, hKq, hx, hb, hml, hown, hts, hK, hH, hA, hE, hRm, hnm, hlk, -⟩ := hF
  intro H locs la hR hl
  have k := fun la hl => k H locs la hR hl
  rw [hKq] at k ⊢
  cases o with
  | none => exact lv_astoreN hx hb hd hl hn (gl_st1 (ad := ad) (v := .null) hs) (fun la hl => k la hl)
  | some x => exact lv_astore hx hb hd hl hn (gl_st1 (ad := ad) (v := .ref x) hs) (fun la hl => k la hl)
theorem g_ifnull (hF : gFix Z cc own nm rt d mc ms Acc AccX) {o : Option Nat} {off : Int} {tgt : Nat} (hd : decode cc pc = .ok (.ifnull off, 3)) (ht : (pc : Int) + off = (tgt : Int))
    (kn : o = none → gG Z ad T M ce so tgt ls st) (ks : ∀ x, o = some x → gG Z ad T M ce so (pc + 3) ls st) : gG Z ad T M ce so pc ls (gvo o :: st) := by
  obtain ⟨p, l, e, R, s, m, args, below, meth, c, Q, adV, hKq, hx, hb, hml, hown, hts, hK, hH, hA, hE, hRm, hnm, hlk, -⟩ := hF
  intro H locs la hR hl
  have kn := fun q => kn q H locs la hR hl
  have ks := fun x q => ks x q H locs la hR hl
  rw [hKq] at kn ks ⊢
  cases o with
  | none => exact lv_ifnullN hx hb hd ht (kn rfl)
  | some x => exact lv_ifnull hx hb hd (ks x rfl)
theorem g_ifnonnull (hF : gFix Z cc own nm rt d mc ms Acc AccX) {o : Option Nat} {off : Int} {tgt : Nat} (hd : decode cc pc = .ok (.ifnonnull off, 3)) (ht : (pc : Int) + off = (tgt : Int))
    (kn : o = none → gG Z ad T M ce so (pc + 3) ls st) (ks : ∀ x, o = some x → gG Z ad T M ce so tgt ls st) : gG Z ad T M ce so pc ls (gvo o :: st) := by
  obtain ⟨p, l, e, R, s, m, args, below, meth, c, Q, adV, hKq, hx, hb, hml, hown, hts, hK, hH, hA, hE, hRm, hnm, hlk, -⟩ := hF
  intro H locs la hR hl
  have kn := fun q => kn q H locs la hR hl
  have ks := fun x q => ks x q H locs la hR hl
  rw [hKq] at kn ks ⊢
  cases o with
  | none => exact lv_ifnonnullN hx hb hd (kn rfl)
  | some x => exact lv_ifnonnull hx hb hd ht (ks x rfl)
theorem g_ifnonnullR (hF : gFix Z cc own nm rt d mc ms Acc AccX) {x : Nat} {off : Int} {tgt : Nat} (hd : decode cc pc = .ok (.ifnonnull off, 3)) (ht : (pc : Int) + off = (tgt : Int))
    (k : gG Z ad T M ce so tgt ls st) : gG Z ad T M ce so pc ls (.ref x :: st) := g_ifnonnull (o := some x) hF hd ht (fun q => nomatch q) (fun _ _ => k)
theorem g_ifnullR (hF : gFix Z cc own nm rt d mc ms Acc AccX) {x : Nat} {off : Int} {tgt : Nat} (hd : decode cc pc = .ok (.ifnull off, 3)) (ht : (pc : Int) + off = (tgt : Int))
    (k : gG Z ad T M ce so (pc + 3) ls st) : gG Z ad T M ce so pc ls (.ref x :: st) := g_ifnull (o := some x) hF hd ht (fun q => nomatch q) (fun _ _ => k)
theorem gG_st {st' : List Value} (h : st = st') (k : gG Z ad T M ce so pc ls st') : gG Z ad T M ce so pc ls st := h ▸ k
theorem g_get_o (hF : gFix Z cc own nm rt d mc ms Acc AccX) {idx c k a len : Nat} {fin : Bool} {ft : FieldType} (hf : gFl own idx c k 2 fin ft) (hT : T[a]? = some (c, len)) (hd : decode cc pc = .ok (.getfield idx, 3))
    (k' : gG Z ad T M ce so (pc + 3) ls (gvo (gr M a k) :: st)) : gG Z ad T M ce so pc ls (.ref a :: st) := by
  obtain ⟨p, l, e, R, s, m, args, below, meth, cd, Q, adV, hKq, hx, hb, hml, hown, hts, hK, hH, hA, hE, hRm, hnm, hlk, -⟩ := hF
  intro H locs la hR hl
  have k' := k' H locs la hR hl
  rw [List.map_cons, gvo_gv, hKq] at k'
  rw [hKq]
  obtain ⟨RR, TT, N, ty, ⟨c1, c2, c3, c4, c5, c6, c7⟩, hk, hft, hfi, hw⟩ := hf
  have hkN : k < N := by rw [c5]; exact (List.getElem?_eq_some_iff.mp hk).1
  have he := gW_get (dA := Z.2.2.2.2.1) (ad := ad) (M := M) hT
  rw [gE_obj c6] at he
  exact va_get (v := va_rf ((gr M a k).map ad)) hx hb hts c2 hown hK hR.1 a he c1 k hkN (hts _ hw) (fun x hx => hx) (by rw [gfs_get hk]; rfl) hd k'
theorem g_put_o (hF : gFix Z cc own nm rt d mc ms Acc AccX) {idx c k a len kd : Nat} {ft : FieldType} {o : Option Nat} (hn : ∀ q : Option Nat, narrow ft (va_rf q) = va_rf q) (hfit : ∀ q : Option Nat, fits ft (va_rf q) = true) (ho : gOk T o kd) (hf : gFl own idx c k 2 false ft) (hT : T[a]? = some (c, len)) (hd : decode cc pc = .ok (.putfield idx, 3))
    (k' : gG Z ad T (sr M a k o) ce so (pc + 3) ls st) : gG Z ad T M ce so pc ls (gvo o :: .ref a :: st) := by
  obtain ⟨p, l, e, R, s, m, args, below, meth, cd, Q, adV, hKq, hx, hb, hml, hown, hts, hK, hH, hA, hE, hRm, hnm, hlk, -⟩ := hF
  intro H locs la hR hl
  have k' := fun H1 locs1 hR1 => k' H1 locs1 la hR1 hl
  rw [List.map_cons, gvo_gv]
  rw [hKq] at k' ⊢
  obtain ⟨RR, TT, N, ty, ⟨c1, c2, c3, c4, c5, c6, c7⟩, hk, hft, hfi, hw⟩ := hf
  have hkN : k < N := by rw [c5]; exact (List.getElem?_eq_some_iff.mp hk).1
  have he := gW_get (dA := Z.2.2.2.2.1) (ad := ad) (M := M) hT
  rw [gE_obj c6] at he
  have hset := gW_set (dA := Z.2.2.2.2.1) (ad := ad) (M := M) (M' := sr M a k o) (e := .inr (c, ((gK c).mapIdx (gfv M ad a)).set k (va_rf (o.map ad)))) hT (by rw [gE_obj c6, gfs_set hk (v := va_rf (o.map ad)) (by show va_rf ((gr (sr M a k o) a k).map ad) = _; rw [gr_sr, if_pos ⟨rfl, rfl⟩]) gfv_sr]) gE_sr
  have hcl : gCl T (sr M a k o) := fun a' k' b' e => by
    rw [gr_sr] at e
    split at e
    · exact ho.lt e
    · exact hR.2.2.2.1 a' k' b' e
  refine va_put (v := va_rf (o.map ad)) hx hb hts c2 ty c3 c4 hown hK hR.1 hR.2.1 hR.2.2.1 a he c1 k hkN (hts _ hw) (fun x hx => hx) hfi (c3 k hkN) (by rw [hft]; exact hn _) (by rw [hft]; exact hfit _) (by rw [List.length_mapIdx, ← c5]; exact hkN) hd (fun H1 locs1 hP hD hS => k' H1 locs1 ⟨by rw [← hset]; exact hP, by rw [← hset]; exact hD, hS, hcl, hR.2.2.2.2⟩)
theorem g_get_oN (hF : gFix Z cc own nm rt d mc ms Acc AccX) {idx c k a len : Nat} {fin : Bool} {ft : FieldType} (hf : gFn own idx c k 2 fin ft) (hT : T[a]? = some (c, len)) (hd : decode cc pc = .ok (.getfield idx, 3))
    (k' : gG Z ad T M ce so (pc + 3) ls (gvo (gr M a k) :: st)) : gG Z ad T M ce so pc ls (.ref a :: st) := by
  obtain ⟨p, l, e, R, s, m, args, below, meth, cd, Q, adV, hKq, hx, hb, hml, hown, hts, hK, hH, hA, hE, hRm, hnm, hlk, -⟩ := hF
  intro H locs la hR hl
  have k' := k' H locs la hR hl
  rw [List.map_cons, gvo_gv, hKq] at k'
  rw [hKq]
  obtain ⟨RR, TT, N, ty, host, ⟨c1, c2, c3, c4, c5, c6, c7⟩, hk, hft, hfi, hw⟩ := hf
  have hkN : k < N := by rw [c5]; exact (List.getElem?_eq_some_iff.mp hk).1
  have he := gW_get (dA := Z.2.2.2.2.1) (ad := ad) (M := M) hT
  rw [gE_obj c6] at he
  exact va_getN (v := va_rf ((gr M a k).map ad)) hx hb hts c2 hown hK hR.1 a he c1 k hkN (va_Nw.use rfl (hE.1 _ hw)) (fun x hx => hx) (by rw [gfs_get hk]; rfl) hd k'
theorem g_putN_o (hF : gFix Z cc own nm rt d mc ms Acc AccX) {idx c k a len kd : Nat} {ft : FieldType} {o : Option Nat} (hn : ∀ q : Option Nat, narrow ft (va_rf q) = va_rf q) (hfit : ∀ q : Option Nat, fits ft (va_rf q) = true) (ho : gOk T o kd) (hf : gFn own idx c k 2 false ft) (hT : T[a]? = some (c, len)) (hd : decode cc pc = .ok (.putfield idx, 3))
    (k' : gG Z ad T (sr M a k o) ce so (pc + 3) ls st) : gG Z ad T M ce so pc ls (gvo o :: .ref a :: st) := by
  obtain ⟨p, l, e, R, s, m, args, below, meth, cd, Q, adV, hKq, hx, hb, hml, hown, hts, hK, hH, hA, hE, hRm, hnm, hlk, -⟩ := hF
  intro H locs la hR hl
  have k' := fun H1 locs1 hR1 => k' H1 locs1 la hR1 hl
  rw [List.map_cons, gvo_gv]
  rw [hKq] at k' ⊢
  obtain ⟨RR, TT, N, ty, host, ⟨c1, c2, c3, c4, c5, c6, c7⟩, hk, hft, hfi, hw⟩ := hf
  have hkN : k < N := by rw [c5]; exact (List.getElem?_eq_some_iff.mp hk).1
  have he := gW_get (dA := Z.2.2.2.2.1) (ad := ad) (M := M) hT
  rw [gE_obj c6] at he
  have hset := gW_set (dA := Z.2.2.2.2.1) (ad := ad) (M := M) (M' := sr M a k o) (e := .inr (c, ((gK c).mapIdx (gfv M ad a)).set k (va_rf (o.map ad)))) hT (by rw [gE_obj c6, gfs_set hk (v := va_rf (o.map ad)) (by show va_rf ((gr (sr M a k o) a k).map ad) = _; rw [gr_sr, if_pos ⟨rfl, rfl⟩]) gfv_sr]) gE_sr
  have hcl : gCl T (sr M a k o) := fun a' k' b' e => by
    rw [gr_sr] at e
    split at e
    · exact ho.lt e
    · exact hR.2.2.2.1 a' k' b' e
  refine va_putN (v := va_rf (o.map ad)) hx hb hts c2 ty c3 c4 hown hK hR.1 hR.2.1 hR.2.2.1 a he c1 k hkN (va_Nw.use rfl (hE.1 _ hw)) (fun x hx => hx) hfi (c3 k hkN) (by rw [hft]; exact hn _) (by rw [hft]; exact hfit _) (by rw [List.length_mapIdx, ← c5]; exact hkN) hd (fun H1 locs1 hP hD hS => k' H1 locs1 ⟨by rw [← hset]; exact hP, by rw [← hset]; exact hD, hS, hcl, hR.2.2.2.2⟩)
/-- an element of the Linker[] that may be null -/
theorem g_aald_o (hF : gFix Z cc own nm rt d mc ms Acc AccX) {a n : Nat} {i : Int32} (hT : T[a]? = some (22, n)) (hin : vp_in i n) (hd : decode cc pc = .ok (.aaload, 1))
    (k : gG Z ad T M ce so (pc + 1) ls (gvo (gr M a i.toNatClampNeg) :: st)) : gG Z ad T M ce so pc ls (.int i :: .ref a :: st) := by
  obtain ⟨p, l, e, R, s, m, args, below, meth, c, Q, adV, hKq, hx, hb, hml, hown, hts, hK, hH, hA, hE, hRm, hnm, hlk, -⟩ := hF
  intro H locs la hR hl
  have k := k H locs la hR hl
  rw [List.map_cons, gvo_gv, hKq] at k
  rw [hKq]
  have he := gW_get (dA := Z.2.2.2.2.1) (ad := ad) (M := M) hT
  rw [gE_q (by decide)] at he
  exact va_aldq hx hb hK hR.1 a 7 he rfl hin hd k
theorem g_aast_o (hF : gFix Z cc own nm rt d mc ms Acc AccX) {a n : Nat} {i : Int32} {o : Option Nat} (hT : T[a]? = some (22, n)) (ho : gOk T o 16) (hin : vp_in i n) (hd : decode cc pc = .ok (.aastore, 1))
    (k : gG Z ad T (sr M a i.toNatClampNeg o) ce so (pc + 1) ls st) : gG Z ad T M ce so pc ls (gvo o :: .int i :: .ref a :: st) := by
  cases o with
  | some b =>
    obtain ⟨len, hb⟩ := ho b rfl
    exact g_aast (r := (RX0, TX0, 5)) hF hT (Or.inr (Or.inr (Or.inr ⟨rfl, rfl⟩))) hb hin hd k
  | none =>
    obtain ⟨p, l, e, R, s, m, args, below, meth, c, Q, adV, hKq, hx, hb, hml, hown, hts, hK, hH, hA, hE, hRm, hnm, hlk, -⟩ := hF
    intro H locs la hR hl
    have k := fun H1 locs1 hR1 => k H1 locs1 la hR1 hl
    rw [hKq] at k ⊢
    have he := gW_get (dA := Z.2.2.2.2.1) (ad := ad) (M := M) hT
    rw [gE_q (by decide)] at he
    have hset := gW_set (dA := Z.2.2.2.2.1) (ad := ad) (M := M) (M' := sr M a i.toNatClampNeg none) (e := .inl (Z.2.2.2.2.1 22, n, .inr (.inr (.inr (.inr (va_up (fun j => (gr M a j).map ad) i.toNatClampNeg none)))))) hT (by
      rw [gE_q (by decide)]
      congr 7
      funext j
      simp only [gr_sr, true_and, va_up]
      split <;> rfl) gE_sr
    have hcl : gCl T (sr M a i.toNatClampNeg none) := fun a' k' b' e => by
      rw [gr_sr] at e
      split at e
      · cases e
      · exact hR.2.2.2.1 a' k' b' e
    exact va_astqN hx hb hK hR.1 hR.2.1 hR.2.2.1 a 7 he rfl hin hd (fun H1 locs1 hP hD hS => k H1 locs1 ⟨by rw [← hset]; exact hP, by rw [← hset]; exact hD, hS, hcl, hR.2.2.2.2⟩)
/-- the static rows of digits -/
theorem g_digO (hF : gFix Z cc own nm rt d mc ms Acc AccX) {idx : Nat} (hw : Cond.fieldLink own idx "java/lang/Integer" "DigitOnes" "[B" ∈ gWS) (hd : decode cc pc = .ok (.getstatic idx, 3))
    (k : gG Z ad T M ce so (pc + 3) ls (.ref (gSB + 2002) :: st)) : gG Z ad T M ce so pc ls st := by
  obtain ⟨p, l, e, R, s, m, args, below, meth, c, Q, adV, hKq, hx, hb, hml, hown, hts, hK, hH, hA, hE, hRm, hnm, hlk, -⟩ := hF
  intro H locs la hR hl
  have k := k H locs la hR hl
  rw [hKq] at k ⊢
  have hS9 := hR.2.2.1
  rw [hH] at hS9
  rw [List.map_cons, show gv ad (.ref (gSB + 2002)) = .ref (Z.2.2.2.2.2.2 (gSB + 2002)) from congrArg Value.ref (hR.2.2.2.2 _ (Nat.le_add_right _ _))] at k
  exact va_gets hx hb hE.2.2.2.2.2.2.2.2.2.2.2.2.2.2.1 hS9 hown (hts _ hw) (fun x hx => hx) hd k
theorem g_digT (hF : gFix Z cc own nm rt d mc ms Acc AccX) {idx : Nat} (hw : Cond.fieldLink own idx "java/lang/Integer" "DigitTens" "[B" ∈ gWS) (hd : decode cc pc = .ok (.getstatic idx, 3))
    (k : gG Z ad T M ce so (pc + 3) ls (.ref (gSB + 2003) :: st)) : gG Z ad T M ce so pc ls st := by
  obtain ⟨p, l, e, R, s, m, args, below, meth, c, Q, adV, hKq, hx, hb, hml, hown, hts, hK, hH, hA, hE, hRm, hnm, hlk, -⟩ := hF
  intro H locs la hR hl
  have k := k H locs la hR hl
  rw [hKq] at k ⊢
  have hS9 := hR.2.2.1
  rw [hH] at hS9
  rw [List.map_cons, show gv ad (.ref (gSB + 2003)) = .ref (Z.2.2.2.2.2.2 (gSB + 2003)) from congrArg Value.ref (hR.2.2.2.2 _ (Nat.le_add_right _ _))] at k
  exact va_gets hx hb hE.2.2.2.2.2.2.2.2.2.2.2.2.2.2.2.1 hS9 hown (hts _ hw) (fun x hx => hx) hd k
theorem g_digL (hF : gFix Z cc own nm rt d mc ms Acc AccX) {b : Nat} {i : Int32} (hb9 : b = 2002 ∨ b = 2003) (hin : vp_in i 100) (hd : decode cc pc = .ok (.baload, 1))
    (k : gG Z ad T M ce so (pc + 1) ls (.int (gDg b i.toNatClampNeg) :: st)) : gG Z ad T M ce so pc ls (.int i :: .ref (gSB + b) :: st) := by
  obtain ⟨p, l, e, R, s, m, args, below, meth, c, Q, adV, hKq, hx, hb, hml, hown, hts, hK, hH, hA, hE, hRm, hnm, hlk, -⟩ := hF
  intro H locs la hR hl
  have k := k H locs la hR hl
  rw [hKq] at k ⊢
  have hS9 := hR.2.2.1
  rw [hH] at hS9
  rw [List.map_cons, List.map_cons, show gv ad (.ref (gSB + b)) = .ref (Z.2.2.2.2.2.2 (gSB + b)) from congrArg Value.ref (hR.2.2.2.2 _ (Nat.le_add_right _ _))]
  rcases hb9 with rfl | rfl
  · exact va_tb hx hb hE.2.2.2.2.2.2.2.2.2.2.2.2.2.2.2.2.2.1 hS9 hin rfl hd k
  · exact va_tb hx hb hE.2.2.2.2.2.2.2.2.2.2.2.2.2.2.2.2.2.2.1 hS9 hin rfl hd k
/-- the names of the variables -/
theorem g_vars (hF : gFix Z cc own nm rt d mc ms Acc AccX) {idx : Nat} {host : String} (hw : Cond.fieldLinkNest own idx "LinkElectionLaw" "VARIABLES" "[Ljava/lang/String;" host ∈ gNw) (hd : decode cc pc = .ok (.getstatic idx, 3))
    (k : gG Z ad T M ce so (pc + 3) ls (.ref (gSB + 2001) :: st)) : gG Z ad T M ce so pc ls st := by
  obtain ⟨p, l, e, R, s, m, args, below, meth, c, Q, adV, hKq, hx, hb, hml, hown, hts, hK, hH, hA, hE, hRm, hnm, hlk, -⟩ := hF
  intro H locs la hR hl
  have k := k H locs la hR hl
  rw [hKq] at k ⊢
  have hS9 := hR.2.2.1
  rw [hH] at hS9
  rw [List.map_cons, show gv ad (.ref (gSB + 2001)) = .ref (Z.2.2.2.2.2.2 (gSB + 2001)) from congrArg Value.ref (hR.2.2.2.2 _ (Nat.le_add_right _ _))] at k
  exact va_getsN hx hb hE.2.2.2.2.2.2.2.2.2.2.2.2.2.2.2.2.1 hS9 hown (va_Nw.use rfl (hE.1 _ hw)) (fun x hx => hx) hd k
theorem g_varL (hF : gFix Z cc own nm rt d mc ms Acc AccX) {i : Int32} (hin : vp_in i 4) (hd : decode cc pc = .ok (.aaload, 1))
    (k : gG Z ad T M ce so (pc + 1) ls (.ref (gSB + 9 + i.toNatClampNeg) :: st)) : gG Z ad T M ce so pc ls (.int i :: .ref (gSB + 2001) :: st) := by
  obtain ⟨p, l, e, R, s, m, args, below, meth, c, Q, adV, hKq, hx, hb, hml, hown, hts, hK, hH, hA, hE, hRm, hnm, hlk, -⟩ := hF
  intro H locs la hR hl
  have k := k H locs la hR hl
  rw [hKq] at k ⊢
  have hS9 := hR.2.2.1
  rw [hH] at hS9
  rw [List.map_cons, List.map_cons, show gv ad (.ref (gSB + 2001)) = .ref (Z.2.2.2.2.2.2 (gSB + 2001)) from congrArg Value.ref (hR.2.2.2.2 _ (Nat.le_add_right _ _))]
  rw [List.map_cons, show gv ad (.ref (gSB + 9 + i.toNatClampNeg)) = .ref (Z.2.2.2.2.2.2 (gSB + 9 + i.toNatClampNeg)) from congrArg Value.ref (hR.2.2.2.2 _ (by omega))] at k
  obtain ⟨cell, h1, h2, h3, h4, h5, h6, h7⟩ := hE.2.2.2.2.2.2.2.2.2.2.2.2.2.2.2.2.2.2.2
  have hlt : i.toNatClampNeg < 4 := Nat.not_le.mp fun q => hin (Or.inr q)
  exact W.aald (v := .ref (Z.2.2.2.2.2.2 (gSB + 9 + i.toNatClampNeg))) (ty := .object "java/lang/String") hx hb (by rw [hS9.2.1 _ (Array.getElem?_eq_some_iff.mp h1).1 h7]; exact h1) h2 rfl h3 (fun q => by rcases q with q | q; exact hin (Or.inl q); omega) (h6 _ hlt) rfl rfl hd k
end GNR
