/-! ROWS THAT MAKE THINGS: T1 is T with one shape more, a the new abstract address -/
def gnew (T : gT) (M : gM) (sh : Nat × Nat) : Option (Nat × gT × gM) := if T.length < 900000 then some (T.length, T ++ [sh], zr M T.length) else none
theorem gnew_sp {T T1 : gT} {M M1 : gM} {sh : Nat × Nat} {a : Nat} (h : gnew T M sh = some (a, T1, M1)) : a = T.length ∧ T1 = T ++ [sh] ∧ M1 = zr M T.length := by
  unfold gnew at h
  split at h
  · have := Option.some.inj h
    cases this
    exact ⟨rfl, rfl, rfl⟩
  · cases h
theorem gnew_lt {T T1 : gT} {M M1 : gM} {sh : Nat × Nat} {a : Nat} (h : gnew T M sh = some (a, T1, M1)) : T.length < gSB := by
  unfold gnew at h
  split at h
  · exact Nat.lt_trans (by assumption) (by decide)
  · cases h
theorem gExt.rf {T : gT} : gExt T T := fun _ _ h => h
theorem gExt.tr {T T1 T2 : gT} (h : gExt T T1) (h2 : gExt T1 T2) : gExt T T2 := fun b x q => h2 b x (h b x q)
theorem gnew_ext {T T1 : gT} {M M1 : gM} {sh : Nat × Nat} {a : Nat} (h : gnew T M sh = some (a, T1, M1)) : gExt T T1 := by
  obtain ⟨rfl, rfl, rfl⟩ := gnew_sp h
  intro b x hx
  rw [List.getElem?_append_left (List.getElem?_eq_some_iff.mp hx).1]
  exact hx
theorem gnew_at {T T1 : gT} {M M1 : gM} {sh : Nat × Nat} {a : Nat} (h : gnew T M sh = some (a, T1, M1)) : T1[a]? = some sh := by
  obtain ⟨rfl, rfl, rfl⟩ := gnew_sp h
  rw [List.getElem?_append_right (Nat.le_refl _), Nat.sub_self]
  rfl
theorem gExt.len {T T1 : gT} (h : gExt T T1) : T.length ≤ T1.length := by
  cases hT : T.length with
  | zero => exact Nat.zero_le _
  | succ n =>
    have hn : n < T.length := by omega
    have := h n _ (List.getElem?_eq_getElem hn)
    have := (List.getElem?_eq_some_iff.mp this).1
    omega
theorem gT_lt {T : gT} {a : Nat} {x : Nat × Nat} (h : T[a]? = some x) : a < T.length := (List.getElem?_eq_some_iff.mp h).1
theorem gad_new {T0 T T1 : gT} {M M1 : gM} {sh : Nat × Nat} {a : Nat} {ad0 ad ad1 : Nat → Nat} (h : gnew T M sh = some (a, T1, M1)) (h1 : ∀ b : Nat, b ≠ a → ad1 b = ad b) (hx : gExt T0 T) (hy : ∀ b : Nat, b < T0.length → ad b = ad0 b) : ∀ b : Nat, b < T0.length → ad1 b = ad0 b := fun b hb => (h1 b (by
  rw [(gnew_sp h).1]
  have := hx.len
  omega)).trans (hy b hb)
theorem gad_call {T0 T : gT} {ad0 ad ad1 : Nat → Nat} (h1 : ∀ b : Nat, b < T.length → ad1 b = ad b) (hx : gExt T0 T) (hy : ∀ b : Nat, b < T0.length → ad b = ad0 b) : ∀ b : Nat, b < T0.length → ad1 b = ad0 b := fun b hb => (h1 b (Nat.lt_of_lt_of_le hb hx.len)).trans (hy b hb)
theorem gT_ne {T : gT} {a : Nat} {x : Nat × Nat} (h : T[a]? = some x) : a ≠ T.length := Nat.ne_of_lt (gT_lt h)
/-- no value of the list is the thing n -/
def gFr (n : Nat) (l : List Value) : Prop := ∀ v ∈ l, v ≠ .ref n
theorem gFr_0 {n : Nat} : gFr n [] := fun _ h => nomatch h
theorem gFr_i {n : Nat} {x : Int32} {l : List Value} (h : gFr n l) : gFr n (.int x :: l) := fun v hv => (List.mem_cons.mp hv).elim (fun e => by rw [e]; exact fun q => nomatch q) (h v)
theorem gFr_l {n : Nat} {x : Int64} {l : List Value} (h : gFr n l) : gFr n (.long x :: l) := fun v hv => (List.mem_cons.mp hv).elim (fun e => by rw [e]; exact fun q => nomatch q) (h v)
theorem gFr_r {n a : Nat} {l : List Value} (ha : a ≠ n) (h : gFr n l) : gFr n (.ref a :: l) := fun v hv => (List.mem_cons.mp hv).elim (fun e => by rw [e]; exact fun q => ha (Value.ref.inj q)) (h v)
theorem gv_up {ad : Nat → Nat} {n q : Nat} {v : Value} (h : v ≠ .ref n) : gv (va_up ad n q) v = gv ad v := by
  cases v with
  | ref a =>
    show Value.ref (va_up ad n q a) = Value.ref (ad a)
    rw [va_up_ne _ _ (fun e => h (by rw [e]))]
  | _ => rfl
theorem gFr_map {ad : Nat → Nat} {n q : Nat} : ∀ {l : List Value}, gFr n l → l.map (gv (va_up ad n q)) = l.map (gv ad)
  | [], _ => rfl
  | v :: l, h => by
    rw [List.map_cons, List.map_cons, gv_up (h v List.mem_cons_self), gFr_map (fun w hw => h w (List.mem_cons_of_mem _ hw))]
theorem gFr_gmp {ad : Nat → Nat} {n q : Nat} : ∀ {l : List (Nat × Value)}, gFr n (l.map Prod.snd) → gmp (va_up ad n q) l = gmp ad l
  | [], _ => rfl
  | v :: l, h => by
    show (v.1, gv (va_up ad n q) v.2) :: gmp (va_up ad n q) l = (v.1, gv ad v.2) :: gmp ad l
    rw [gv_up (h v.2 List.mem_cons_self), gFr_gmp (fun w hw => h w (List.mem_cons_of_mem _ hw))]
def gKd (t : FieldType) : Nat := match t with
  | .object _ => 2
  | .array _ => 2
  | .long => 1
  | .float => 3
  | .double => 3
  | _ => 0
def gDf (c N : Nat) (ty : Nat → FieldType) : Prop := ∀ k, k < N → (gK c)[k]? = some (gKd (ty k)) ∧ gKd (ty k) < 3
theorem gDf_val {t : FieldType} {M : gM} {ad : Nat → Nat} {a k : Nat} (h : gKd t < 3) (h1 : gi M a k = 0) (h2 : gl M a k = 0) (h3 : gr M a k = none) : defaultValue t = gfv M ad a k (gKd t) := by
  cases t <;> first | (exact absurd h (by decide)) | (simp [gfv, gKd, h1, h2, h3, va_rf, defaultValue])
section GM
variable {Z : gZ} {cc : ByteArray} {own nm : String} {rt : Option FieldType} {d mc ms : Nat} {Acc : Option Value → (Nat → Nat) → gT → gM → Prop} {AccX : Nat → (Nat → Nat) → gT → gM → Prop} {ad : Nat → Nat} {T T1 : gT} {M M1 : gM} {ce so pc : Nat} {ls : List (Nat × Value)} {st : List Value} {a : Nat}
/-- the new world is the world of the new memory -/
theorem gRp_push {H1 : Heap} {locs : List Loc} {H : Heap} {sh : Nat × Nat} {q : Nat} {e : va_E} (hR : gRp Z ad T M H locs) (hlen : T.length < gSB) (he : gE Z.2.2.2.2.1 (va_up ad T.length q) (zr M T.length) T.length sh = e)
    (hP : va_P Z.2.2.2.1 vwCl (gW Z.2.2.2.2.1 ad T M ++ [(q, e)]) H1) (hD : va_D Z.2.1 (gW Z.2.2.2.2.1 ad T M ++ [(q, e)])) (hS : va_S Z.2.1 Z.2.2.1 H1 locs) : gRp Z (va_up ad T.length q) (T ++ [sh]) (zr M T.length) H1 locs := by
  rw [gW_push hR.2.2.2.1 he] at hP hD
  exact ⟨hP, hD, hS, gCl_zr hR.2.2.2.1, fun b hb => by rw [va_up_ne _ _ (by omega)]; exact hR.2.2.2.2 b hb⟩

theorem g_new (hF : gFix Z cc own nm rt d mc ms Acc AccX) {idx c N : Nat} {RR : String} {TT : u_T} {ty : Nat → FieldType} (hC : gC c RR TT N ty) (hdf : gDf c N ty) (hw1 : Cond.classLink own idx RR ∈ gWS) (hw2 : Cond.instantiable RR N ∈ gWS) (hw3 : Cond.initialized RR ∈ gWS)
    (hnew : gnew T M (c, 0) = some (a, T1, M1)) (hlen : T.length < gSB) (hfr : gFr T.length (ls.map Prod.snd)) (hfs : gFr T.length st) (h1 : ce + 1 ≤ mc) (h2 : so + N ≤ ms) (hd : decode cc pc = .ok (.new idx, 3))
    (k : ∀ ad1 : Nat → Nat, (∀ b : Nat, b ≠ a → ad1 b = ad b) → gG Z ad1 T1 M1 (ce + 1) (so + N) (pc + 3) ls (.ref a :: st)) : gG Z ad T M ce so pc ls st := by
  obtain ⟨rfl, rfl, rfl⟩ := gnew_sp hnew
  obtain ⟨p, l, e, R, s, m, args, below, meth, cd, Q, adV, hKq, hx, hb, hml, hown, hts, hK, hH, hA, hE, hRm, hnm, hlk9, hst9, -⟩ := hF
  intro H locs la hR hl
  obtain ⟨c1, c2, c3, c4, c5, c6, c7⟩ := hC
  have k := fun q H1 hR1 => k (va_up ad T.length q) (fun b hb => va_up_ne _ _ hb) H1 locs la hR1 (by rw [gFr_gmp hfr]; exact hl)
  rw [hKq] at k ⊢
  have hf0 : ∀ (M2 : gM) (ad2 : Nat → Nat), (∀ j, gi M2 T.length j = 0) → (∀ j, gl M2 T.length j = 0) → (∀ j, gr M2 T.length j = none) → ∀ j, j < N → defaultValue (ty j) = vp_V ((gK c).mapIdx (gfv M2 ad2 T.length)) j := fun M2 ad2 q1 q2 q3 j hj => by
    obtain ⟨g1, g2⟩ := hdf j hj
    rw [vp_V, List.getD_eq_getElem?_getD, List.getElem?_mapIdx, g1]
    exact gDf_val g2 (q1 j) (q2 j) (q3 j)
  have hz1 : ∀ j, gi (zr M T.length) T.length j = 0 := fun j => by rw [gi_zr, if_pos rfl]
  have hz2 : ∀ j, gl (zr M T.length) T.length j = 0 := fun j => by rw [gl_zr, if_pos rfl]
  have hz3 : ∀ j, gr (zr M T.length) T.length j = none := fun j => by rw [gr_zr, if_pos rfl]
  have hee : ∀ ad2 ad3 : Nat → Nat, (gK c).mapIdx (gfv (zr M T.length) ad2 T.length) = (gK c).mapIdx (gfv (zr M T.length) ad3 T.length) := fun ad2 ad3 => by
    congr 1
    funext j kd
    simp only [gfv, hz3, Option.map_none]
  refine va_new (fs := (gK c).mapIdx (gfv (zr M T.length) ad T.length)) hx hb hts c2 ty c3 hown (hts _ hw1) (hts _ hw2) (hts _ hw3) hK hR.1 hR.2.1 hR.2.2.1 (fun q hq => hA q (by rw [hH] at hq; exact hq)) c1 (hf0 _ _ hz1 hz2 hz3) (Nat.le_trans h1 hRm.2.2.1) (Nat.le_trans h2 hRm.2.2.2) hd (fun q H1 hP hD hS => ?_)
  have k := k q H1 (gRp_push hR hlen (by rw [gE_obj c6, hee _ ad]) hP hD hS)
  rw [List.map_cons, gFr_map hfs] at k
  have hself : gv (va_up ad T.length q) (.ref T.length) = .ref q := by
    show Value.ref (va_up ad T.length q T.length) = _
    rw [va_up_self]
  rw [hself] at k
  exact k

theorem g_newa_int (hF : gFix Z cc own nm rt d mc ms Acc AccX) {n : Int32} {N : Nat} (hn : ¬ n < 0) (hN : n.toNatClampNeg = N) (hbd : N ≤ 100000) (hw1 : Cond.arrayClass .int ∈ gWS)
    (hnew : gnew T M (11, N) = some (a, T1, M1)) (hlen : T.length < gSB) (hfr : gFr T.length (ls.map Prod.snd)) (hfs : gFr T.length st) (h1 : ce + 1 ≤ mc) (h2 : so + N ≤ ms) (hd : decode cc pc = .ok (.newarray .int, 2))
    (k : ∀ ad1 : Nat → Nat, (∀ b : Nat, b ≠ a → ad1 b = ad b) → gG Z ad1 T1 M1 (ce + 1) (so + N) (pc + 2) ls (.ref a :: st)) : gG Z ad T M ce so pc ls (.int n :: st) := by
  obtain ⟨rfl, rfl, rfl⟩ := gnew_sp hnew
  obtain ⟨p, l, e, R, s, m, args, below, meth, cd, Q, adV, hKq, hx, hb, hml, hown, hts, hK, hH, hA, hE, hRm, hnm, hlk9, hst9, -⟩ := hF
  intro H locs la hR hl
  have k := fun q H1 hR1 => k (va_up ad T.length q) (fun b hb => va_up_ne _ _ hb) H1 locs la hR1 (by rw [gFr_gmp hfr]; exact hl)
  rw [hKq] at k ⊢
  refine va_newa (atype := .int) (ty := .int) (a0 := (N, .inl (fun j => 0))) hx hb (hts _ hw1) rfl hK hR.1 hR.2.1 hR.2.2.1 (fun q hq => hA q (by rw [hH] at hq; exact hq)) (fun cA => rfl) hn hN (by simp only [componentBytes]; omega) (Nat.le_trans h1 hRm.2.2.1) (Nat.le_trans h2 hRm.2.2.2) hd (fun q cA H1 hK1 hP hD hS => ?_)
  have hcA : cA = Z.2.2.2.2.1 11 := gRA_eq (hK1.2 8 (cA, .int) rfl).2 (hK.2 1 _ rfl).2
  subst hcA
  have k := k q H1 (gRp_push hR hlen (by
    rw [gE_i]
    congr 5
    funext j
    rw [gi_zr, if_pos rfl]) hP hD hS)
  rw [List.map_cons, gFr_map hfs] at k
  have hself : gv (va_up ad T.length q) (.ref T.length) = .ref q := by
    show Value.ref (va_up ad T.length q T.length) = _
    rw [va_up_self]
  rw [hself] at k
  exact k

theorem g_newa_byte (hF : gFix Z cc own nm rt d mc ms Acc AccX) {n : Int32} {N : Nat} (hn : ¬ n < 0) (hN : n.toNatClampNeg = N) (hbd : N ≤ 100000) (hw1 : Cond.arrayClass .byte ∈ gWS)
    (hnew : gnew T M (10, N) = some (a, T1, M1)) (hlen : T.length < gSB) (hfr : gFr T.length (ls.map Prod.snd)) (hfs : gFr T.length st) (h1 : ce + 1 ≤ mc) (h2 : so + N ≤ ms) (hd : decode cc pc = .ok (.newarray .byte, 2))
    (k : ∀ ad1 : Nat → Nat, (∀ b : Nat, b ≠ a → ad1 b = ad b) → gG Z ad1 T1 M1 (ce + 1) (so + N) (pc + 2) ls (.ref a :: st)) : gG Z ad T M ce so pc ls (.int n :: st) := by
  obtain ⟨rfl, rfl, rfl⟩ := gnew_sp hnew
  obtain ⟨p, l, e, R, s, m, args, below, meth, cd, Q, adV, hKq, hx, hb, hml, hown, hts, hK, hH, hA, hE, hRm, hnm, hlk9, hst9, -⟩ := hF
  intro H locs la hR hl
  have k := fun q H1 hR1 => k (va_up ad T.length q) (fun b hb => va_up_ne _ _ hb) H1 locs la hR1 (by rw [gFr_gmp hfr]; exact hl)
  rw [hKq] at k ⊢
  refine va_newa (atype := .byte) (ty := .byte) (a0 := (N, .inl (fun j => 0))) hx hb (hts _ hw1) rfl hK hR.1 hR.2.1 hR.2.2.1 (fun q hq => hA q (by rw [hH] at hq; exact hq)) (fun cA => rfl) hn hN (by simp only [componentBytes]; omega) (Nat.le_trans h1 hRm.2.2.1) (Nat.le_trans h2 hRm.2.2.2) hd (fun q cA H1 hK1 hP hD hS => ?_)
  have hcA : cA = Z.2.2.2.2.1 10 := gRA_eq (hK1.2 8 (cA, .byte) rfl).2 (hK.2 0 _ rfl).2
  subst hcA
  have k := k q H1 (gRp_push hR hlen (by
    rw [gE_b]
    congr 5
    funext j
    rw [gi_zr, if_pos rfl]) hP hD hS)
  rw [List.map_cons, gFr_map hfs] at k
  have hself : gv (va_up ad T.length q) (.ref T.length) = .ref q := by
    show Value.ref (va_up ad T.length q T.length) = _
    rw [va_up_self]
  rw [hself] at k
  exact k

theorem g_newa_long (hF : gFix Z cc own nm rt d mc ms Acc AccX) {n : Int32} {N : Nat} (hn : ¬ n < 0) (hN : n.toNatClampNeg = N) (hbd : N ≤ 100000) (hw1 : Cond.arrayClass .long ∈ gWS)
    (hnew : gnew T M (12, N) = some (a, T1, M1)) (hlen : T.length < gSB) (hfr : gFr T.length (ls.map Prod.snd)) (hfs : gFr T.length st) (h1 : ce + 1 ≤ mc) (h2 : so + N ≤ ms) (hd : decode cc pc = .ok (.newarray .long, 2))
    (k : ∀ ad1 : Nat → Nat, (∀ b : Nat, b ≠ a → ad1 b = ad b) → gG Z ad1 T1 M1 (ce + 1) (so + N) (pc + 2) ls (.ref a :: st)) : gG Z ad T M ce so pc ls (.int n :: st) := by
  obtain ⟨rfl, rfl, rfl⟩ := gnew_sp hnew
  obtain ⟨p, l, e, R, s, m, args, below, meth, cd, Q, adV, hKq, hx, hb, hml, hown, hts, hK, hH, hA, hE, hRm, hnm, hlk9, hst9, -⟩ := hF
  intro H locs la hR hl
  have k := fun q H1 hR1 => k (va_up ad T.length q) (fun b hb => va_up_ne _ _ hb) H1 locs la hR1 (by rw [gFr_gmp hfr]; exact hl)
  rw [hKq] at k ⊢
  refine va_newa (atype := .long) (ty := .long) (a0 := (N, .inr (.inl (fun j => 0)))) hx hb (hts _ hw1) rfl hK hR.1 hR.2.1 hR.2.2.1 (fun q hq => hA q (by rw [hH] at hq; exact hq)) (fun cA => rfl) hn hN (by simp only [componentBytes]; omega) (Nat.le_trans h1 hRm.2.2.1) (Nat.le_trans h2 hRm.2.2.2) hd (fun q cA H1 hK1 hP hD hS => ?_)
  have hcA : cA = Z.2.2.2.2.1 12 := gRA_eq (hK1.2 8 (cA, .long) rfl).2 (hK.2 2 _ rfl).2
  subst hcA
  have k := k q H1 (gRp_push hR hlen (by
    rw [gE_l]
    congr 6
    funext j
    rw [gl_zr, if_pos rfl]) hP hD hS)
  rw [List.map_cons, gFr_map hfs] at k
  have hself : gv (va_up ad T.length q) (.ref T.length) = .ref q := by
    show Value.ref (va_up ad T.length q T.length) = _
    rw [va_up_self]
  rw [hself] at k
  exact k

theorem g_newq_Data (hF : gFix Z cc own nm rt d mc ms Acc AccX) {idx : Nat} {n : Int32} {N : Nat} (hn : ¬ n < 0) (hN : n.toNatClampNeg = N) (hbd : N ≤ 100000) (hw1 : Cond.classLink own idx RX0 ∈ gWS)
    (hnew : gnew T M (13, N) = some (a, T1, M1)) (hlen : T.length < gSB) (hfr : gFr T.length (ls.map Prod.snd)) (hfs : gFr T.length st) (h1 : ce + 1 ≤ mc) (h2 : so + N ≤ ms) (hd : decode cc pc = .ok (.anewarray idx, 3))
    (k : ∀ ad1 : Nat → Nat, (∀ b : Nat, b ≠ a → ad1 b = ad b) → gG Z ad1 T1 M1 (ce + 1) (so + N) (pc + 3) ls (.ref a :: st)) : gG Z ad T M ce so pc ls (.int n :: st) := by
  obtain ⟨rfl, rfl, rfl⟩ := gnew_sp hnew
  obtain ⟨p, l, e, R, s, m, args, below, meth, cd, Q, adV, hKq, hx, hb, hml, hown, hts, hK, hH, hA, hE, hRm, hnm, hlk9, hst9, -⟩ := hF
  intro H locs la hR hl
  have k := fun q H1 hR1 => k (va_up ad T.length q) (fun b hb => va_up_ne _ _ hb) H1 locs la hR1 (by rw [gFr_gmp hfr]; exact hl)
  rw [hKq] at k ⊢
  refine va_newq (C := RX0) hx hb hown (hts _ hw1) hE.2.2.2.2.2.1 hK hR.1 hR.2.1 hR.2.2.1 (fun q hq => hA q (by rw [hH] at hq; exact hq)) hn hN (by omega) (Nat.le_trans h1 hRm.2.2.1) (Nat.le_trans h2 hRm.2.2.2) hd (fun q cA H1 hK1 hP hD hS => ?_)
  have hcA : cA = Z.2.2.2.2.1 13 := gRA_eq (hK1.2 8 (cA, .object RX0) rfl).2 (hK.2 3 _ rfl).2
  subst hcA
  have k := k q H1 (gRp_push hR hlen (by
    rw [gE_q (by decide)]
    congr 8
    funext j
    rw [gr_zr, if_pos rfl]
    rfl) hP hD hS)
  rw [List.map_cons, gFr_map hfs] at k
  have hself : gv (va_up ad T.length q) (.ref T.length) = .ref q := by
    show Value.ref (va_up ad T.length q T.length) = _
    rw [va_up_self]
  rw [hself] at k
  exact k

theorem g_newq_Library (hF : gFix Z cc own nm rt d mc ms Acc AccX) {idx : Nat} {n : Int32} {N : Nat} (hn : ¬ n < 0) (hN : n.toNatClampNeg = N) (hbd : N ≤ 100000) (hw1 : Cond.classLink own idx RX3 ∈ gWS)
    (hnew : gnew T M (14, N) = some (a, T1, M1)) (hlen : T.length < gSB) (hfr : gFr T.length (ls.map Prod.snd)) (hfs : gFr T.length st) (h1 : ce + 1 ≤ mc) (h2 : so + N ≤ ms) (hd : decode cc pc = .ok (.anewarray idx, 3))
    (k : ∀ ad1 : Nat → Nat, (∀ b : Nat, b ≠ a → ad1 b = ad b) → gG Z ad1 T1 M1 (ce + 1) (so + N) (pc + 3) ls (.ref a :: st)) : gG Z ad T M ce so pc ls (.int n :: st) := by
  obtain ⟨rfl, rfl, rfl⟩ := gnew_sp hnew
  obtain ⟨p, l, e, R, s, m, args, below, meth, cd, Q, adV, hKq, hx, hb, hml, hown, hts, hK, hH, hA, hE, hRm, hnm, hlk9, hst9, -⟩ := hF
  intro H locs la hR hl
  have k := fun q H1 hR1 => k (va_up ad T.length q) (fun b hb => va_up_ne _ _ hb) H1 locs la hR1 (by rw [gFr_gmp hfr]; exact hl)
  rw [hKq] at k ⊢
  refine va_newq (C := RX3) hx hb hown (hts _ hw1) hE.2.2.2.2.2.2.1 hK hR.1 hR.2.1 hR.2.2.1 (fun q hq => hA q (by rw [hH] at hq; exact hq)) hn hN (by omega) (Nat.le_trans h1 hRm.2.2.1) (Nat.le_trans h2 hRm.2.2.2) hd (fun q cA H1 hK1 hP hD hS => ?_)
  have hcA : cA = Z.2.2.2.2.1 14 := gRA_eq (hK1.2 8 (cA, .object RX3) rfl).2 (hK.2 4 _ rfl).2
  subst hcA
  have k := k q H1 (gRp_push hR hlen (by
    rw [gE_q (by decide)]
    congr 8
    funext j
    rw [gr_zr, if_pos rfl]
    rfl) hP hD hS)
  rw [List.map_cons, gFr_map hfs] at k
  have hself : gv (va_up ad T.length q) (.ref T.length) = .ref q := by
    show Value.ref (va_up ad T.length q T.length) = _
    rw [va_up_self]
  rw [hself] at k
  exact k

theorem g_newq_LawLibrary (hF : gFix Z cc own nm rt d mc ms Acc AccX) {idx : Nat} {n : Int32} {N : Nat} (hn : ¬ n < 0) (hN : n.toNatClampNeg = N) (hbd : N ≤ 100000) (hw1 : Cond.classLink own idx RX9 ∈ gWS)
    (hnew : gnew T M (21, N) = some (a, T1, M1)) (hlen : T.length < gSB) (hfr : gFr T.length (ls.map Prod.snd)) (hfs : gFr T.length st) (h1 : ce + 1 ≤ mc) (h2 : so + N ≤ ms) (hd : decode cc pc = .ok (.anewarray idx, 3))
    (k : ∀ ad1 : Nat → Nat, (∀ b : Nat, b ≠ a → ad1 b = ad b) → gG Z ad1 T1 M1 (ce + 1) (so + N) (pc + 3) ls (.ref a :: st)) : gG Z ad T M ce so pc ls (.int n :: st) := by
  obtain ⟨rfl, rfl, rfl⟩ := gnew_sp hnew
  obtain ⟨p, l, e, R, s, m, args, below, meth, cd, Q, adV, hKq, hx, hb, hml, hown, hts, hK, hH, hA, hE, hRm, hnm, hlk9, hst9, -⟩ := hF
  intro H locs la hR hl
  have k := fun q H1 hR1 => k (va_up ad T.length q) (fun b hb => va_up_ne _ _ hb) H1 locs la hR1 (by rw [gFr_gmp hfr]; exact hl)
  rw [hKq] at k ⊢
  refine va_newq (C := RX9) hx hb hown (hts _ hw1) hE.2.2.2.2.2.2.2.1 hK hR.1 hR.2.1 hR.2.2.1 (fun q hq => hA q (by rw [hH] at hq; exact hq)) hn hN (by omega) (Nat.le_trans h1 hRm.2.2.1) (Nat.le_trans h2 hRm.2.2.2) hd (fun q cA H1 hK1 hP hD hS => ?_)
  have hcA : cA = Z.2.2.2.2.1 21 := gRA_eq (hK1.2 8 (cA, .object RX9) rfl).2 (hK.2 6 _ rfl).2
  subst hcA
  have k := k q H1 (gRp_push hR hlen (by
    rw [gE_q (by decide)]
    congr 8
    funext j
    rw [gr_zr, if_pos rfl]
    rfl) hP hD hS)
  rw [List.map_cons, gFr_map hfs] at k
  have hself : gv (va_up ad T.length q) (.ref T.length) = .ref q := by
    show Value.ref (va_up ad T.length q T.length) = _
    rw [va_up_self]
  rw [hself] at k
  exact k

theorem g_newq_Linker (hF : gFix Z cc own nm rt d mc ms Acc AccX) {idx : Nat} {n : Int32} {N : Nat} (hn : ¬ n < 0) (hN : n.toNatClampNeg = N) (hbd : N ≤ 100000) (hw1 : Cond.classLink own idx RX10 ∈ gWS)
    (hnew : gnew T M (22, N) = some (a, T1, M1)) (hlen : T.length < gSB) (hfr : gFr T.length (ls.map Prod.snd)) (hfs : gFr T.length st) (h1 : ce + 1 ≤ mc) (h2 : so + N ≤ ms) (hd : decode cc pc = .ok (.anewarray idx, 3))
    (k : ∀ ad1 : Nat → Nat, (∀ b : Nat, b ≠ a → ad1 b = ad b) → gG Z ad1 T1 M1 (ce + 1) (so + N) (pc + 3) ls (.ref a :: st)) : gG Z ad T M ce so pc ls (.int n :: st) := by
  obtain ⟨rfl, rfl, rfl⟩ := gnew_sp hnew
  obtain ⟨p, l, e, R, s, m, args, below, meth, cd, Q, adV, hKq, hx, hb, hml, hown, hts, hK, hH, hA, hE, hRm, hnm, hlk9, hst9, -⟩ := hF
  intro H locs la hR hl
  have k := fun q H1 hR1 => k (va_up ad T.length q) (fun b hb => va_up_ne _ _ hb) H1 locs la hR1 (by rw [gFr_gmp hfr]; exact hl)
  rw [hKq] at k ⊢
  refine va_newq (C := RX10) hx hb hown (hts _ hw1) hE.2.2.2.2.2.2.2.2.1 hK hR.1 hR.2.1 hR.2.2.1 (fun q hq => hA q (by rw [hH] at hq; exact hq)) hn hN (by omega) (Nat.le_trans h1 hRm.2.2.1) (Nat.le_trans h2 hRm.2.2.2) hd (fun q cA H1 hK1 hP hD hS => ?_)
  have hcA : cA = Z.2.2.2.2.1 22 := gRA_eq (hK1.2 8 (cA, .object RX10) rfl).2 (hK.2 7 _ rfl).2
  subst hcA
  have k := k q H1 (gRp_push hR hlen (by
    rw [gE_q (by decide)]
    congr 8
    funext j
    rw [gr_zr, if_pos rfl]
    rfl) hP hD hS)
  rw [List.map_cons, gFr_map hfs] at k
  have hself : gv (va_up ad T.length q) (.ref T.length) = .ref q := by
    show Value.ref (va_up ad T.length q T.length) = _
    rw [va_up_self]
  rw [hself] at k
  exact k

/-- Object's constructor -/
theorem g_obj (hF : gFix Z cc own nm rt d mc ms Acc AccX) {idx b : Nat} (hw1 : Cond.methodLink own idx Lib.objectInit ∈ gWS) (hw2 : Cond.instanceMethod Lib.objectInit ∈ gWS) (hw3 : Cond.code Lib.objectInit ⟨#[0xb1]⟩ 1 none ∈ gWS) (hdd : 1 ≤ d) (hcat : (st.map fun v => v.category).sum ≤ 8) (hd : decode cc pc = .ok (.invokespecial idx, 3))
    (k : gG Z ad T M ce so (pc + 3) ls st) : gG Z ad T M ce so pc ls (.ref b :: st) := by
  obtain ⟨p, l, e, R, s, m, args, below, meth, cd, Q, adV, hKq, hx, hb, hml, hown, hts, hK, hH, hA, hE, hRm, hnm, hlk9, hst9, -⟩ := hF
  intro H locs la hR hl
  have k := k H locs la hR hl
  rw [hKq] at k ⊢
  have hrest : (((st.map (gv ad)).map fun v => v.category).sum) ≤ 8 := by
    rw [List.map_map, show ((fun v : Value => v.category) ∘ gv ad) = (fun v => v.category) from funext fun v => gv_cat ad v]
    exact hcat
  exact W.objInit hx hb hown (hts _ hw1) (hts _ hw2) (hts _ hw3) rfl (by rw [hml]; exact hl.1) rfl hd (by have := hRm.1; omega) (by show 2 * 0 + _ + 12 ≤ _; have := hRm.2.1; omega) k

/-- all things of the list are old -/
def gOld (n : Nat) (l : List Value) : Prop := ∀ v ∈ l, ∀ a : Nat, v = .ref a → a < n ∨ gSB ≤ a
theorem gOld_0 {n : Nat} : gOld n [] := fun _ h => nomatch h
theorem gOld_i {n : Nat} {x : Int32} {l : List Value} (h : gOld n l) : gOld n (.int x :: l) := fun v hv => (List.mem_cons.mp hv).elim (fun e => by rw [e]; exact fun _ q => nomatch q) (h v)
theorem gOld_l {n : Nat} {x : Int64} {l : List Value} (h : gOld n l) : gOld n (.long x :: l) := fun v hv => (List.mem_cons.mp hv).elim (fun e => by rw [e]; exact fun _ q => nomatch q) (h v)
theorem gOld_r {n a : Nat} {l : List Value} (ha : a < n) (h : gOld n l) : gOld n (.ref a :: l) := fun v hv => (List.mem_cons.mp hv).elim (fun e => by rw [e]; exact fun b q => Or.inl (by rw [← Value.ref.inj q]; exact ha)) (h v)
theorem gOld_s {n a : Nat} {l : List Value} (ha : gSB ≤ a) (h : gOld n l) : gOld n (.ref a :: l) := fun v hv => (List.mem_cons.mp hv).elim (fun e => by rw [e]; exact fun b q => Or.inr (by rw [← Value.ref.inj q]; exact ha)) (h v)
theorem gOld_map {ad ad1 : Nat → Nat} {n : Nat} (h1 : ∀ a : Nat, a < n → ad1 a = ad a) (h2 : ∀ a : Nat, gSB ≤ a → ad1 a = ad a) : ∀ {l : List Value}, gOld n l → l.map (gv ad1) = l.map (gv ad)
  | [], _ => rfl
  | v :: l, h => by
    rw [List.map_cons, List.map_cons, gOld_map h1 h2 (fun w hw => h w (List.mem_cons_of_mem _ hw))]
    congr 1
    cases v with
    | ref a =>
      show Value.ref (ad1 a) = Value.ref (ad a)
      rcases h _ List.mem_cons_self a rfl with q | q
      · rw [h1 a q]
      · rw [h2 a q]
    | _ => rfl
theorem gOld_gmp {ad ad1 : Nat → Nat} {n : Nat} (h1 : ∀ a : Nat, a < n → ad1 a = ad a) (h2 : ∀ a : Nat, gSB ≤ a → ad1 a = ad a) : ∀ {l : List (Nat × Value)}, gOld n (l.map Prod.snd) → gmp ad1 l = gmp ad l
  | [], _ => rfl
  | v :: l, h => by
    show (v.1, gv ad1 v.2) :: gmp ad1 l = (v.1, gv ad v.2) :: gmp ad l
    have e := gOld_map (l := [v.2]) h1 h2 (fun w hw => h w (by rw [List.mem_singleton.mp hw]; exact List.mem_cons_self))
    rw [(List.cons.inj e).1, gOld_gmp h1 h2 (fun w hw => h w (List.mem_cons_of_mem _ hw))]
/-- behind a call that made things -/
theorem g_made {T' : gT} {M' : gM} {r : Option Value} (hls : gOld T.length (ls.map Prod.snd)) (hst : gOld T.length st) (h : ∀ ad1 : Nat → Nat, gExt T T' → (∀ a : Nat, a < T.length → ad1 a = ad a) → gG Z ad1 T' M' ce so pc ls (r.toList ++ st)) : ∀ (v : Option Value) (ad1 : Nat → Nat) (T1 : gT) (M1 : gM), gMade T r T' M' ad v ad1 T1 M1 → (∀ a : Nat, gSB ≤ a → ad1 a = ad a) → ∀ H locs la, gRp Z ad1 T1 M1 H locs → lv_has la Z.2.2.2.2.2.1 (gmp ad ls) → Z.1 H locs ce so pc la ((v.map (gv ad1)).toList ++ st.map (gv ad)) := by
  rintro v ad1 T1 M1 ⟨rfl, rfl, rfl, hx, had⟩ hsb H locs la hR hl
  have h1 := h ad1 hx had H locs la hR (by rw [gOld_gmp had hsb hls]; exact hl)
  rw [List.map_append, gOld_map had hsb hst] at h1
  cases v with
  | none => exact h1
  | some x => exact h1
end GM
