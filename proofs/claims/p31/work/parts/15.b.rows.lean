/-! COSTS: an answer with the cells and the slots that it takes -/
def cadd {α : Type} (c s : Nat) (o : Option (α × Nat × Nat)) : Option (α × Nat × Nat) := match o with
  | none => none
  | some x => some (x.1, c + x.2.1, s + x.2.2)
theorem cadd_sp {α : Type} {c s C S : Nat} {o : Option (α × Nat × Nat)} {v : α} (h : cadd c s o = some (v, C, S)) : ∃ C' S', o = some (v, C', S') ∧ C = c + C' ∧ S = s + S' := by
  cases o with
  | none => cases h
  | some x =>
    cases h
    exact ⟨x.2.1, x.2.2, rfl, rfl, rfl⟩
theorem cadd_some {α : Type} {c s C S : Nat} {v : α} : cadd c s (some (v, C, S)) = some (v, c + C, s + S) := rfl
/-- a loop whose rounds cost -/
def gloopc {α β : Type} (B : α → Option ((β ⊕ α) × Nat × Nat)) : Nat → α → Option (β × Nat × Nat)
  | 0, _ => none
  | n + 1, a => match B a with
    | none => none
    | some (.inl e, c, s) => some (e, c, s)
    | some (.inr a', c, s) => cadd c s (gloopc B n a')
theorem gloopc_sp {α β : Type} {B : α → Option ((β ⊕ α) × Nat × Nat)} {n : Nat} {a : α} {e : β} {C S : Nat} (h : gloopc B (n + 1) a = some (e, C, S)) : (B a = some (.inl e, C, S)) ∨ ∃ a' c s C' S', B a = some (.inr a', c, s) ∧ gloopc B n a' = some (e, C', S') ∧ C = c + C' ∧ S = s + S' := by
  unfold gloopc at h
  cases hB : B a with
  | none => rw [hB] at h; cases h
  | some y =>
    rw [hB] at h
    obtain ⟨y, c, s⟩ := y
    cases y with
    | inl e' => cases h; exact Or.inl rfl
    | inr a' =>
      obtain ⟨C', S', h1, h2, h3⟩ := cadd_sp h
      exact Or.inr ⟨a', c, s, C', S', rfl, h1, h2, h3⟩
def gsm (T : gT) (o : Option Nat) (kd : Nat) : Option Nat := match o with
  | some b => if (T[b]?).map Prod.fst = some kd then some b else none
  | none => none
theorem gsm_sp {T : gT} {o : Option Nat} {kd b : Nat} (h : gsm T o kd = some b) : o = some b ∧ ∃ n, T[b]? = some (kd, n) := by
  cases o with
  | none => cases h
  | some c =>
    unfold gsm at h
    dsimp only at h
    split at h
    next q =>
      cases h
      refine ⟨rfl, ?_⟩
      cases ht : T[b]? with
      | none => rw [ht] at q; cases q
      | some y =>
        rw [ht] at q
        have q1 : y.1 = kd := Option.some.inj q
        exact ⟨y.2, by rw [← q1]⟩
    next => cases h
def gko (T : gT) (o : Option Nat) (kd : Nat) : Option Unit := match o with
  | some b => gkd T b kd
  | none => some ()
theorem gko_sp {T : gT} {o : Option Nat} {kd : Nat} {u : Unit} (h : gko T o kd = some u) : gOk T o kd := by
  intro b q
  subst q
  exact gkd_sp h
def gzT (T : gT) (s : Nat) : Prop := (T[s]?).map Prod.fst = some 19
theorem gzT_sp {T : gT} {s : Nat} (h : gzT T s) : ∃ n, T[s]? = some (19, n) := by
  unfold gzT at h
  cases ht : T[s]? with
  | none => rw [ht] at h; cases h
  | some y =>
    rw [ht] at h
    have q1 : y.1 = 19 := Option.some.inj h
    exact ⟨y.2, by rw [← q1]⟩
def gks (T : gT) (s : Nat) : Option Unit := if (T[s]?).map Prod.fst = some 19 ∨ (gSB ≤ s ∧ s < gSB + 34) then some () else none
theorem gks_sp {T : gT} {s : Nat} {u : Unit} (h : gks T s = some u) : gStr T s := by
  unfold gks at h
  split at h
  next q =>
    rcases q with q | q
    · exact Or.inr (gzT_sp q)
    · exact Or.inl ⟨s - gSB, by omega, by omega⟩
  next => cases h
def astro (T : gT) (M : gM) (a : Nat) (i : Int32) (o : Option Nat) : Option gM := if i < 0 ∨ alen T a ≤ i.toNatClampNeg then none else some (sr M a i.toNatClampNeg o)
theorem astro_sp {T : gT} {M M' : gM} {a kd n : Nat} {i : Int32} {o : Option Nat} (hT : T[a]? = some (kd, n)) (h : astro T M a i o = some M') : vp_in i n ∧ M' = sr M a i.toNatClampNeg o := by
  unfold astro at h
  rw [alen_of hT] at h
  split at h
  · cases h
  · exact ⟨by assumption, (Option.some.inj h).symm⟩
def aldo (T : gT) (M : gM) (a : Nat) (i : Int32) : Option (Option Nat) := if i < 0 ∨ alen T a ≤ i.toNatClampNeg then none else some (gr M a i.toNatClampNeg)
theorem aldo_sp {T : gT} {M : gM} {a kd n : Nat} {i : Int32} {v : Option Nat} (hT : T[a]? = some (kd, n)) (h : aldo T M a i = some v) : vp_in i n ∧ v = gr M a i.toNatClampNeg := by
  unfold aldo at h
  rw [alen_of hT] at h
  split at h
  · cases h
  · exact ⟨by assumption, (Option.some.inj h).symm⟩
/-- a copy of the row a, at t -/
def gcl (M : gM) (a t : Nat) : gM := (fun b j => if b = t then M.1 a j else M.1 b j, fun b j => if b = t then 0 else M.2.1 b j, fun b j => if b = t then none else M.2.2 b j)
theorem gi_gcl (M : gM) (a t b j : Nat) : gi (gcl M a t) b j = if b = t then gi M a j else gi M b j := rfl
theorem gl_gcl (M : gM) (a t b j : Nat) : gl (gcl M a t) b j = if b = t then 0 else gl M b j := rfl
theorem gr_gcl (M : gM) (a t b j : Nat) : gr (gcl M a t) b j = if b = t then none else gr M b j := rfl
def gclone (T : gT) (M : gM) (a kd : Nat) : Option (Nat × gT × gM) := if T.length < 900000 ∧ (kd = 11 ∨ ∀ j, j < alen T a → fits .byte (.int (gi M a j)) = true) then some (T.length, T ++ [(kd, alen T a)], gcl M a T.length) else none
theorem gclone_sp {T : gT} {M : gM} {a kd n : Nat} {x : Nat × gT × gM} (hT : T[a]? = some (kd, n)) (h : gclone T M a kd = some x) : T.length < gSB ∧ (kd = 11 ∨ ∀ j, j < n → fits .byte (.int (gi M a j)) = true) ∧ x = (T.length, T ++ [(kd, n)], gcl M a T.length) := by
  unfold gclone at h
  rw [alen_of hT] at h
  split at h
  next q => exact ⟨Nat.lt_trans q.1 (by decide), q.2, (Option.some.inj h).symm⟩
  next => cases h
theorem gpush_ext {T : gT} {sh : Nat × Nat} : gExt T (T ++ [sh]) := fun b x hx => by
  rw [List.getElem?_append_left (List.getElem?_eq_some_iff.mp hx).1]
  exact hx
theorem gpush_at {T : gT} {sh : Nat × Nat} : (T ++ [sh])[T.length]? = some sh := by
  rw [List.getElem?_append_right (Nat.le_refl _), Nat.sub_self]
  rfl
theorem gW_pushC {dA : Nat → ClassId} {ad : Nat → Nat} {T : gT} {M M' : gM} {sh : Nat × Nat} {q : Nat} {e : va_E} (hC : gCl T M) (g1 : ∀ b j, b ≠ T.length → gi M' b j = gi M b j) (g2 : ∀ b j, b ≠ T.length → gl M' b j = gl M b j) (g3 : ∀ b j, b ≠ T.length → gr M' b j = gr M b j) (he : gE dA (va_up ad T.length q) M' T.length sh = e) : gW dA ad T M ++ [(q, e)] = gW dA (va_up ad T.length q) (T ++ [sh]) M' := by
  apply List.ext_getElem?
  intro k
  unfold gW
  rw [List.getElem?_mapIdx]
  by_cases hk : k < T.length
  · rw [List.getElem?_append_left (by rw [List.length_mapIdx]; exact hk), List.getElem?_mapIdx, List.getElem?_append_left hk]
    cases T[k]? with
    | none => rfl
    | some sh' =>
      simp only [Option.map_some]
      have hk' : k ≠ T.length := by omega
      rw [va_up_ne _ _ hk']
      congr 2
      have e1 : ∀ j, (gr M' k j).map (va_up ad T.length q) = (gr M k j).map ad := fun j => by
        rw [g3 k j hk']
        cases hg : gr M k j with
        | none => rfl
        | some b =>
          have hb := hC k j b hg
          simp only [Option.map_some, va_up_ne _ _ (show b ≠ T.length by omega)]
      have e0 : gfv M' (va_up ad T.length q) k = gfv M ad k := by
        funext j kd
        simp only [gfv, e1, g1 k j hk', g2 k j hk']
      simp only [gE, e0, e1, g1 k _ hk', g2 k _ hk']
  · rw [List.getElem?_append_right (by rw [List.length_mapIdx]; omega), List.getElem?_append_right (by omega), List.length_mapIdx]
    by_cases h0 : k = T.length
    · subst h0
      rw [Nat.sub_self]
      simp only [List.getElem?_cons_zero, Option.map_some, va_up_self, he]
    · rw [List.getElem?_eq_none (by simp only [List.length_cons, List.length_nil]; omega), List.getElem?_eq_none (by simp only [List.length_cons, List.length_nil]; omega)]
      rfl

def gnewmI (T : gT) (M : gM) (n k : Int32) : Option (Nat × gT × gM) := if n < 0 ∨ k < 0 ∨ 10000 < n.toNatClampNeg ∨ 10000 < k.toNatClampNeg then none else gnewm T M n.toNatClampNeg k.toNatClampNeg
theorem gnewmI_sp {T : gT} {M : gM} {n k : Int32} {x : Nat × gT × gM} (h : gnewmI T M n k = some x) : ¬ n < 0 ∧ ¬ k < 0 ∧ n.toNatClampNeg ≤ 10000 ∧ k.toNatClampNeg ≤ 10000 ∧ gnewm T M n.toNatClampNeg k.toNatClampNeg = some x := by
  unfold gnewmI at h
  split at h
  · cases h
  next q => exact ⟨fun z => q (Or.inl z), fun z => q (Or.inr (Or.inl z)), Nat.not_lt.mp fun z => q (Or.inr (Or.inr (Or.inl z))), Nat.not_lt.mp fun z => q (Or.inr (Or.inr (Or.inr z))), h⟩
section GCB
variable {Z : gZ} {cc : ByteArray} {own nm : String} {rt : Option FieldType} {d mc ms : Nat} {Acc : Option Value → (Nat → Nat) → gT → gM → Prop} {AccX : Nat → (Nat → Nat) → gT → gM → Prop} {ad : Nat → Nat} {T T1 : gT} {M M1 : gM} {ce so pc : Nat} {ls ls' : List (Nat × Value)} {st st0 : List Value}
theorem g_clone_i (hF : gFix Z cc own nm rt d mc ms Acc AccX) {idx a n : Nat} (hw : Cond.methodLink own idx ⟨"[I", "clone", "()Ljava/lang/Object;"⟩ ∈ gWS) (hT : T[a]? = some (11, n)) (hlen : T.length < gSB) (hfr : gFr T.length (ls.map Prod.snd)) (hfs : gFr T.length st) (h1 : ce + 1 ≤ mc) (h2 : so + n ≤ ms) (hdd : 1 ≤ d) (hcat : (st.map fun v => v.category).sum ≤ 8) (hd : decode cc pc = .ok (.invokevirtual idx, 3))
    (k : ∀ ad1 : Nat → Nat, (∀ b : Nat, b ≠ T.length → ad1 b = ad b) → gG Z ad1 (T ++ [(11, n)]) (gcl M a T.length) (ce + 1) (so + n) (pc + 3) ls (.ref T.length :: st)) : gG Z ad T M ce so pc ls (.ref a :: st) := by
  obtain ⟨p, l, e, R, s, m, args, below, meth, c, Q, adV, hKq, hx, hb, hml, hown, hts, hK, hH, hA, hE, hRm, hnm, hlk9, hst, -⟩ := hF
  intro H locs la hR hl
  have k := fun q H1 hR1 => k (va_up ad T.length q) (fun b hb => va_up_ne _ _ hb) H1 locs la hR1 (by rw [gFr_gmp hfr]; exact hl)
  rw [hKq] at k ⊢
  have he := gW_get (dA := Z.2.2.2.2.1) (ad := ad) (M := M) hT
  rw [gE_i] at he
  have hrest : (((st.map (gv ad)).map fun v => v.category).sum) ≤ 8 := by
    rw [List.map_map, show ((fun v : Value => v.category) ∘ gv ad) = (fun v => v.category) from funext fun v => gv_cat ad v]
    exact hcat
  have hal : a ≠ T.length := gT_ne hT
  refine va_clone (ad := "[I") (ty := .int) hx hb (by rw [hml]; exact hl.1.symm) hown (hts _ hw) (hts _ (gws_of 561 (by decide +kernel) (by decide +kernel))) (hts _ (gws_of 562 (by decide +kernel) (by decide +kernel))) (hts _ (gws_of 563 (by decide +kernel) (by decide +kernel))) (hts _ (gws_of 564 (by decide +kernel) (by decide +kernel))) (hE.1 _ (gnw_of 565 (by decide +kernel) (by decide +kernel))) hK hR.1 hR.2.1 hR.2.2.1 (fun q hq => hA q (by rw [hH] at hq; exact hq)) a 1 he rfl (hK.2 1 _ rfl).2 (fun j v hv => ?_) (by have := hRm.1; omega) (by have := hRm.2.1; omega) (Nat.le_trans h1 hRm.2.2.1) (Nat.le_trans h2 hRm.2.2.2) hd (fun q H1 hK1 hP hD hS => ?_)
  · have hj : j < n := by
      have := (Array.getElem?_eq_some_iff.mp hv).1
      rw [vp_cell_i, arrV_size] at this
      exact this
    rw [vp_cell_i, arrV_read _ _ hj] at hv
    cases hv
    exact rfl
  have hcl : gCl (T ++ [(11, n)]) (gcl M a T.length) := fun a' k' b' e9 => by
    rw [gr_gcl] at e9
    split at e9
    · cases e9
    · have := hR.2.2.2.1 a' k' b' e9
      rw [List.length_append]
      omega
  rw [gW_pushC (dA := Z.2.2.2.2.1) (sh := (11, n)) (M' := gcl M a T.length) hR.2.2.2.1 (fun b j hb => by rw [gi_gcl, if_neg hb]) (fun b j hb => by rw [gl_gcl, if_neg hb]) (fun b j hb => by rw [gr_gcl, if_neg hb]) (by
    rw [gE_i]
    congr 5
    funext j
    rw [gi_gcl, if_pos rfl])] at hP hD
  have k := k q H1 ⟨hP, hD, hS, hcl, fun b hb => by rw [va_up_ne _ _ (by omega)]; exact hR.2.2.2.2 b hb⟩
  rw [List.map_cons, gFr_map hfs] at k
  have hself : gv (va_up ad T.length q) (.ref T.length) = .ref q := by
    show Value.ref (va_up ad T.length q T.length) = _
    rw [va_up_self]
  rw [hself] at k
  exact k
theorem g_castA_i (hF : gFix Z cc own nm rt d mc ms Acc AccX) {idx a n : Nat} (hw : Cond.classLink own idx "[I" ∈ gWS) (hT : T[a]? = some (11, n)) (hd : decode cc pc = .ok (.checkcast idx, 3))
    (k : gG Z ad T M ce so (pc + 3) ls (.ref a :: st)) : gG Z ad T M ce so pc ls (.ref a :: st) := by
  obtain ⟨p, l, e, R, s, m, args, below, meth, c, Q, adV, hKq, hx, hb, hml, hown, hts, hK, hH, hA, hE, hRm, hnm, hlk9, hst, -⟩ := hF
  intro H locs la hR hl
  have k := k H locs la hR hl
  rw [hKq] at k ⊢
  have he := gW_get (dA := Z.2.2.2.2.1) (ad := ad) (M := M) hT
  rw [gE_i] at he
  exact va_castA hx hb hown (hts _ hw) hR.1 a he (hK.2 1 _ rfl).2 hd k
theorem g_clone_b (hF : gFix Z cc own nm rt d mc ms Acc AccX) {idx a n : Nat} (hw : Cond.methodLink own idx ⟨"[B", "clone", "()Ljava/lang/Object;"⟩ ∈ gWS) (hT : T[a]? = some (10, n)) (hfit : ∀ j, j < n → fits .byte (.int (gi M a j)) = true) (hlen : T.length < gSB) (hfr : gFr T.length (ls.map Prod.snd)) (hfs : gFr T.length st) (h1 : ce + 1 ≤ mc) (h2 : so + n ≤ ms) (hdd : 1 ≤ d) (hcat : (st.map fun v => v.category).sum ≤ 8) (hd : decode cc pc = .ok (.invokevirtual idx, 3))
    (k : ∀ ad1 : Nat → Nat, (∀ b : Nat, b ≠ T.length → ad1 b = ad b) → gG Z ad1 (T ++ [(10, n)]) (gcl M a T.length) (ce + 1) (so + n) (pc + 3) ls (.ref T.length :: st)) : gG Z ad T M ce so pc ls (.ref a :: st) := by
  obtain ⟨p, l, e, R, s, m, args, below, meth, c, Q, adV, hKq, hx, hb, hml, hown, hts, hK, hH, hA, hE, hRm, hnm, hlk9, hst, -⟩ := hF
  intro H locs la hR hl
  have k := fun q H1 hR1 => k (va_up ad T.length q) (fun b hb => va_up_ne _ _ hb) H1 locs la hR1 (by rw [gFr_gmp hfr]; exact hl)
  rw [hKq] at k ⊢
  have he := gW_get (dA := Z.2.2.2.2.1) (ad := ad) (M := M) hT
  rw [gE_b] at he
  have hrest : (((st.map (gv ad)).map fun v => v.category).sum) ≤ 8 := by
    rw [List.map_map, show ((fun v : Value => v.category) ∘ gv ad) = (fun v => v.category) from funext fun v => gv_cat ad v]
    exact hcat
  have hal : a ≠ T.length := gT_ne hT
  refine va_clone (ad := "[B") (ty := .byte) hx hb (by rw [hml]; exact hl.1.symm) hown (hts _ hw) (hts _ (gws_of 1193 (by decide +kernel) (by decide +kernel))) (hts _ (gws_of 562 (by decide +kernel) (by decide +kernel))) (hts _ (gws_of 563 (by decide +kernel) (by decide +kernel))) (hts _ (gws_of 1194 (by decide +kernel) (by decide +kernel))) (hE.1 _ (gnw_of 1195 (by decide +kernel) (by decide +kernel))) hK hR.1 hR.2.1 hR.2.2.1 (fun q hq => hA q (by rw [hH] at hq; exact hq)) a 0 he rfl (hK.2 0 _ rfl).2 (fun j v hv => ?_) (by have := hRm.1; omega) (by have := hRm.2.1; omega) (Nat.le_trans h1 hRm.2.2.1) (Nat.le_trans h2 hRm.2.2.2) hd (fun q H1 hK1 hP hD hS => ?_)
  · have hj : j < n := by
      have := (Array.getElem?_eq_some_iff.mp hv).1
      rw [vp_cell_i, arrV_size] at this
      exact this
    rw [vp_cell_i, arrV_read _ _ hj] at hv
    cases hv
    exact hfit j hj
  have hcl : gCl (T ++ [(10, n)]) (gcl M a T.length) := fun a' k' b' e9 => by
    rw [gr_gcl] at e9
    split at e9
    · cases e9
    · have := hR.2.2.2.1 a' k' b' e9
      rw [List.length_append]
      omega
  rw [gW_pushC (dA := Z.2.2.2.2.1) (sh := (10, n)) (M' := gcl M a T.length) hR.2.2.2.1 (fun b j hb => by rw [gi_gcl, if_neg hb]) (fun b j hb => by rw [gl_gcl, if_neg hb]) (fun b j hb => by rw [gr_gcl, if_neg hb]) (by
    rw [gE_b]
    congr 5
    funext j
    rw [gi_gcl, if_pos rfl])] at hP hD
  have k := k q H1 ⟨hP, hD, hS, hcl, fun b hb => by rw [va_up_ne _ _ (by omega)]; exact hR.2.2.2.2 b hb⟩
  rw [List.map_cons, gFr_map hfs] at k
  have hself : gv (va_up ad T.length q) (.ref T.length) = .ref q := by
    show Value.ref (va_up ad T.length q T.length) = _
    rw [va_up_self]
  rw [hself] at k
  exact k
theorem g_castA_b (hF : gFix Z cc own nm rt d mc ms Acc AccX) {idx a n : Nat} (hw : Cond.classLink own idx "[B" ∈ gWS) (hT : T[a]? = some (10, n)) (hd : decode cc pc = .ok (.checkcast idx, 3))
    (k : gG Z ad T M ce so (pc + 3) ls (.ref a :: st)) : gG Z ad T M ce so pc ls (.ref a :: st) := by
  obtain ⟨p, l, e, R, s, m, args, below, meth, c, Q, adV, hKq, hx, hb, hml, hown, hts, hK, hH, hA, hE, hRm, hnm, hlk9, hst, -⟩ := hF
  intro H locs la hR hl
  have k := k H locs la hR hl
  rw [hKq] at k ⊢
  have he := gW_get (dA := Z.2.2.2.2.1) (ad := ad) (M := M) hT
  rw [gE_b] at he
  exact va_castA hx hb hown (hts _ hw) hR.1 a he (hK.2 0 _ rfl).2 hd k
variable {y : MethodName} {cc' : ByteArray} {nL' n idx mc' ms' d' : Nat} {rt' : Option FieldType} {as : List Value} {Acc' : gAcc}
/-- the superclass's own method, on this -/
theorem g_callSU (hF : gFix Z cc own nm rt d mc ms Acc AccX) {b ci : Nat} {C : String} (hm : gMy y cc' nL' rt' n) (hlk : Cond.methodLink own idx y ∈ gWS) (hsm : Cond.sameMethod y.cls y.cls y.name y.desc ∈ gWS) (hsup : Cond.superclass own y.cls ∈ gWS) (hin : Cond.instanceMethod y ∈ gWS) (hno : y.name ≠ "<init>") {TT : u_T} {N : Nat} (hC : vwCl[ci]? = some (C, TT, N)) (hci : gOb ci) {len9 : Nat} (hTb : T[b]? = some (ci, len9)) (hc : gRet d' y cc' nL' rt' mc' ms' (.ref b :: as) T M Acc') (hdd : d' + 1 ≤ d) (hmc : ce + mc' ≤ mc) (hms : so + ms' ≤ ms) (hn : as.length = n) (hst0 : st0 = as.reverse ++ .ref b :: st) (hcat : (st.map fun v => v.category).sum ≤ 8) (hd : decode cc pc = .ok (.invokespecial idx, 3))
    (k : ∀ (v : Option Value) (ad1 : Nat → Nat) (T1 : gT) (M1 : gM), Acc' ad v ad1 T1 M1 → (∀ a : Nat, gSB ≤ a → ad1 a = ad a) → ∀ H locs la, gRp Z ad1 T1 M1 H locs → lv_has la Z.2.2.2.2.2.1 (gmp ad ls) → Z.1 H locs (ce + mc') (so + ms') (pc + 3) la ((v.map (gv ad1)).toList ++ st.map (gv ad))) : gG Z ad T M ce so pc ls st0 := by
  obtain ⟨p, l, e, R, s, m, args, below, meth, c, Q, adV, hKq, hx, hb, hml, hown, hts, hK, hH, hA, hE, hRm, hnm, hlk9, hst, -⟩ := hF
  intro H locs la hR hl
  subst hst0
  have k := fun v ad1 T1 M1 ha had H1 locs1 hR1 => k v ad1 T1 M1 ha had H1 locs1 la hR1 hl
  rw [hKq] at k ⊢
  dsimp only at k ⊢
  obtain ⟨hm1, hm2, hm3, hm4, hm5⟩ := hm
  have hgw := gws_in hm1
  have hroom : d' + 1 ≤ R.frames ∧ 8 + (nL' + 11) + 64 * d' ≤ R.locals := ⟨by have := hRm.1; omega, by have := hRm.2.1; omega⟩
  have hlen : (as.map (gv ad)).length = n := by rw [List.length_map]; exact hn
  have hrest : (((st.map (gv ad)).map fun v => v.category).sum) ≤ 8 := by
    rw [List.map_map, show ((fun v : Value => v.category) ∘ gv ad) = (fun v => v.category) from funext fun v => gv_cat ad v]
    exact hcat
  have hbd : ce + mc' ≤ R.cells ∧ so + ms' ≤ R.slots := ⟨Nat.le_trans hmc hRm.2.2.1, Nat.le_trans hms hRm.2.2.2⟩
  have hrecv : ∃ cellB : Cell, H[ad b]? = some cellB ∧ cellB.vm.isStatics = false ∧ s.vm.findClass C = some cellB.cls := by
    have he := gW_get (dA := Z.2.2.2.2.1) (ad := ad) (M := M) hTb
    rw [gE_obj hci] at he
    exact va_recv hK hR.1 hC he
  have hcd : (Cond.code y cc' nL' rt').before args s = true := hts _ hm1
  have hrun := va_runSU (e := e) (below := below) (meth := meth) (H := H) (locs := locs) (cells := ce) (slots := so) (b := ad b) (As := as.map (gv ad)) (rest := st.map (gv ad)) (g := F0 m pc la ((as.reverse ++ .ref b :: st).map (gv ad))) (hK.1 ci _ hC).2 ⟨hx, hb, hml, hown, hts⟩ (hc l hst Z.2.2.2.1 Z.2.2.2.2.1 adV ad H.size) ⟨⟨rfl, rfl, hroom.1, hroom.2, pay_in hts hgw, List.mem_cons_self⟩, hts _ hlk, hts _ hsm, hts _ hsup, hts _ hin, hts _ hm2, hcd, hno, fun sig h => by rw [h] at hm4; exact (Option.some.inj hm4).symm⟩ ⟨gBlind, hrecv, fun U hU hW => ⟨rfl, gIn_of hR hH hA hK hE hU hW⟩⟩ rfl hlen hl.1 (by show (as.reverse ++ .ref b :: st).map (gv ad) = _; rw [List.map_append, List.map_reverse]; rfl) (lv_room (pc := pc) (ls := la) (rest := (as.reverse ++ .ref b :: st).map (gv ad)) (m := m) hrest) hd hbd
  exact g_after hrun hR (gA_sub hR hH hA) (fun v ad1 T1 M1 H1 locs1 ha hR1 => k v ad1 T1 M1 ha (fun a q => (hR1.2.2.2.2 a q).trans (hR.2.2.2.2 a q).symm) H1 locs1 hR1)
theorem gselP {C : String} {y : MethodName} {s : State} {args : Array Value} {n : Nat} (hy : y.cls ≠ "java/lang/invoke/MethodHandle" ∧ y.cls ≠ "java/lang/invoke/VarHandle") (hins : (Cond.instantiable C n).before args s = true) (hsm : (Cond.sameMethod y.cls y.cls y.name y.desc).before args s = true) (hpriv : (Cond.privateMethod y).before args s = true) (hinst : (Cond.instanceMethod y).before args s = true) : (Cond.selects C y y).before args s = true := by
  obtain ⟨c, k, hc, hk, -, hniab, -, -⟩ := Cond.instantiable_spec hins
  have hni : k.isInterface = false := (Bool.or_eq_false_iff.mp hniab).1
  obtain ⟨mk, methM, hnamed, hmethM, -, -⟩ := Cond.instanceMethod_spec hinst
  have hfound : s.methodFound? y.cls y.name y.desc = some mk := State.methodFound?_of_named hnamed hy
  have hsel : selectMethod {} s.vm c mk = .method mk := selectMethod_private hmethM (Cond.privateMethod_at hpriv mk methM hnamed hmethM)
  obtain ⟨-, kP, hkP, hkPi⟩ := Cond.sameMethod_spec (findClass_of_methodNamed hnamed) hfound (show (Cond.sameMethod y.cls y.cls y.name y.desc).holds args s none s [] = true from hsm)
  simp only [Cond.before, Cond.holds, Cond.value, hc, hfound, hnamed, hsel, hkP]
  simp; exact hkPi
/-- a private method of the superclass, on this -/
theorem g_callVP (hF : gFix Z cc own nm rt d mc ms Acc AccX) {b ci : Nat} {C : String} (hm : gMy y cc' nL' rt' n) (hlk : Cond.methodLink own idx y ∈ gWS) (hin : Cond.instanceMethod y ∈ gWS) (hpr : Cond.privateMethod y ∈ gNw) (hsm : Cond.sameMethod y.cls y.cls y.name y.desc ∈ gWS) {TT : u_T} {N : Nat} (hC : vwCl[ci]? = some (C, TT, N)) (hins : Cond.instantiable C N ∈ gWS) (hci : gOb ci) {len9 : Nat} (hTb : T[b]? = some (ci, len9)) (hc : gRet d' y cc' nL' rt' mc' ms' (.ref b :: as) T M Acc') (hdd : d' + 1 ≤ d) (hmc : ce + mc' ≤ mc) (hms : so + ms' ≤ ms) (hn : as.length = n) (hst0 : st0 = as.reverse ++ .ref b :: st) (hcat : (st.map fun v => v.category).sum ≤ 8) (hd : decode cc pc = .ok (.invokevirtual idx, 3))
    (k : ∀ (v : Option Value) (ad1 : Nat → Nat) (T1 : gT) (M1 : gM), Acc' ad v ad1 T1 M1 → (∀ a : Nat, gSB ≤ a → ad1 a = ad a) → ∀ H locs la, gRp Z ad1 T1 M1 H locs → lv_has la Z.2.2.2.2.2.1 (gmp ad ls) → Z.1 H locs (ce + mc') (so + ms') (pc + 3) la ((v.map (gv ad1)).toList ++ st.map (gv ad))) : gG Z ad T M ce so pc ls st0 := by
  obtain ⟨p, l, e, R, s, m, args, below, meth, c, Q, adV, hKq, hx, hb, hml, hown, hts, hK, hH, hA, hE, hRm, hnm, hlk9, hst, -⟩ := hF
  intro H locs la hR hl
  subst hst0
  have k := fun v ad1 T1 M1 ha had H1 locs1 hR1 => k v ad1 T1 M1 ha had H1 locs1 la hR1 hl
  rw [hKq] at k ⊢
  dsimp only at k ⊢
  obtain ⟨hm1, hm2, hm3, hm4, hm5⟩ := hm
  have hgw := gws_in hm1
  have hroom : d' + 1 ≤ R.frames ∧ 8 + (nL' + 11) + 64 * d' ≤ R.locals := ⟨by have := hRm.1; omega, by have := hRm.2.1; omega⟩
  have hlen : (as.map (gv ad)).length = n := by rw [List.length_map]; exact hn
  have hrest : (((st.map (gv ad)).map fun v => v.category).sum) ≤ 8 := by
    rw [List.map_map, show ((fun v : Value => v.category) ∘ gv ad) = (fun v => v.category) from funext fun v => gv_cat ad v]
    exact hcat
  have hbd : ce + mc' ≤ R.cells ∧ so + ms' ≤ R.slots := ⟨Nat.le_trans hmc hRm.2.2.1, Nat.le_trans hms hRm.2.2.2⟩
  have hrecv : ∃ cellB : Cell, H[ad b]? = some cellB ∧ cellB.vm.isStatics = false ∧ s.vm.findClass C = some cellB.cls := by
    have he := gW_get (dA := Z.2.2.2.2.1) (ad := ad) (M := M) hTb
    rw [gE_obj hci] at he
    exact va_recv hK hR.1 hC he
  have hcb := callB_of (R := R) (rm := { frames := d', cells := mc', slots := ms', locals := 64 * d' }) (mc := mc') (ms := ms') n hts hgw rfl rfl rfl (hts _ hm2) (hts _ hlk) ⟨hm3.1, hm3.2, hm4⟩ hroom
  have hrun := va_runV (e := e) (below := below) (meth := meth) (H := H) (locs := locs) (cells := ce) (slots := so) (b := ad b) (As := as.map (gv ad)) (rest := st.map (gv ad)) (g := F0 m pc la ((as.reverse ++ .ref b :: st).map (gv ad))) ⟨hx, hb, hml, hown, hts⟩ (hc l hst Z.2.2.2.1 Z.2.2.2.2.1 adV ad H.size) ⟨hcb, hts _ hin, gselP hm3 (hts _ hins) (hts _ hsm) (va_Nw.use rfl (hE.1 _ hpr)) (hts _ hin)⟩ ⟨gBlind, hrecv, fun U hU hW => ⟨rfl, gIn_of hR hH hA hK hE hU hW⟩⟩ rfl hlen hl.1 (by show (as.reverse ++ .ref b :: st).map (gv ad) = _; rw [List.map_append, List.map_reverse]; rfl) (lv_room (pc := pc) (ls := la) (rest := (as.reverse ++ .ref b :: st).map (gv ad)) (m := m) hrest) hd hbd
  exact g_after hrun hR (gA_sub hR hH hA) (fun v ad1 T1 M1 H1 locs1 ha hR1 => k v ad1 T1 M1 ha (fun a q => (hR1.2.2.2.2 a q).trans (hR.2.2.2.2 a q).symm) H1 locs1 hR1)
/-- a method that overrides the one that is named -/
theorem g_callVO (hF : gFix Z cc own nm rt d mc ms Acc AccX) {b ci : Nat} {C owner : String} {x : MethodName} {b0 : ByteArray} {m0 : Nat} {r0 : Option FieldType} (hm : gMy y cc' nL' rt' n) (hlk : Cond.methodLink own idx x ∈ gWS) (hsm : Cond.sameMethod x.cls owner x.name x.desc ∈ gWS) (hin0 : Cond.instanceMethod ⟨owner, x.name, x.desc⟩ ∈ gWS) (h0 : Cond.code ⟨owner, x.name, x.desc⟩ b0 m0 r0 ∈ gWS) (hse : Cond.selects C x y ∈ gWS) (hin : Cond.instanceMethod y ∈ gWS) (hxo : owner ≠ "java/lang/invoke/MethodHandle" ∧ owner ≠ "java/lang/invoke/VarHandle") (hxd : (parseMethodDescriptor x.desc).map (fun d => d.parameters.length) = some n) {TT : u_T} {N : Nat} (hC : vwCl[ci]? = some (C, TT, N)) (hci : gOb ci) {len9 : Nat} (hTb : T[b]? = some (ci, len9)) (hc : gRet d' y cc' nL' rt' mc' ms' (.ref b :: as) T M Acc') (hdd : d' + 1 ≤ d) (hmc : ce + mc' ≤ mc) (hms : so + ms' ≤ ms) (hn : as.length = n) (hst0 : st0 = as.reverse ++ .ref b :: st) (hcat : (st.map fun v => v.category).sum ≤ 8) (hd : decode cc pc = .ok (.invokevirtual idx, 3))
    (k : ∀ (v : Option Value) (ad1 : Nat → Nat) (T1 : gT) (M1 : gM), Acc' ad v ad1 T1 M1 → (∀ a : Nat, gSB ≤ a → ad1 a = ad a) → ∀ H locs la, gRp Z ad1 T1 M1 H locs → lv_has la Z.2.2.2.2.2.1 (gmp ad ls) → Z.1 H locs (ce + mc') (so + ms') (pc + 3) la ((v.map (gv ad1)).toList ++ st.map (gv ad))) : gG Z ad T M ce so pc ls st0 := by
  obtain ⟨p, l, e, R, s, m, args, below, meth, c, Q, adV, hKq, hx, hb, hml, hown, hts, hK, hH, hA, hE, hRm, hnm, hlk9, hst, -⟩ := hF
  intro H locs la hR hl
  subst hst0
  have k := fun v ad1 T1 M1 ha had H1 locs1 hR1 => k v ad1 T1 M1 ha had H1 locs1 la hR1 hl
  rw [hKq] at k ⊢
  dsimp only at k ⊢
  obtain ⟨hm1, hm2, hm3, hm4, hm5⟩ := hm
  have hgw := gws_in hm1
  have hroom : d' + 1 ≤ R.frames ∧ 8 + (nL' + 11) + 64 * d' ≤ R.locals := ⟨by have := hRm.1; omega, by have := hRm.2.1; omega⟩
  have hlen : (as.map (gv ad)).length = n := by rw [List.length_map]; exact hn
  have hrest : (((st.map (gv ad)).map fun v => v.category).sum) ≤ 8 := by
    rw [List.map_map, show ((fun v : Value => v.category) ∘ gv ad) = (fun v => v.category) from funext fun v => gv_cat ad v]
    exact hcat
  have hbd : ce + mc' ≤ R.cells ∧ so + ms' ≤ R.slots := ⟨Nat.le_trans hmc hRm.2.2.1, Nat.le_trans hms hRm.2.2.2⟩
  have hrecv : ∃ cellB : Cell, H[ad b]? = some cellB ∧ cellB.vm.isStatics = false ∧ s.vm.findClass C = some cellB.cls := by
    have he := gW_get (dA := Z.2.2.2.2.1) (ad := ad) (M := M) hTb
    rw [gE_obj hci] at he
    exact va_recv hK hR.1 hC he
  have hrun := va_runU (e := e) (below := below) (meth := meth) (H := H) (locs := locs) (cells := ce) (slots := so) (b := ad b) (As := as.map (gv ad)) (rest := st.map (gv ad)) (g := F0 m pc la ((as.reverse ++ .ref b :: st).map (gv ad))) (x := x) (owner := owner) (C := C) ⟨hx, hb, hml, hown, hts⟩ (hc l hst Z.2.2.2.1 Z.2.2.2.2.1 adV ad H.size) ⟨⟨rfl, rfl, hroom.1, hroom.2, pay_in hts hgw, List.mem_cons_self⟩, hts _ hm1, hts _ hm2, hxo, fun sig h => by rw [h] at hxd; exact (Option.some.inj hxd).symm, hts _ hlk, hts _ hsm, va_Decl.of (hts _ hin0) (hts _ h0), hts _ hse, hts _ hin⟩ ⟨gBlind, hrecv, fun U hU hW => ⟨rfl, gIn_of hR hH hA hK hE hU hW⟩⟩ rfl hlen hl.1 (by show (as.reverse ++ .ref b :: st).map (gv ad) = _; rw [List.map_append, List.map_reverse]; rfl) (lv_room (pc := pc) (ls := la) (rest := (as.reverse ++ .ref b :: st).map (gv ad)) (m := m) hrest) hd hbd
  exact g_after hrun hR (gA_sub hR hH hA) (fun v ad1 T1 M1 H1 locs1 ha hR1 => k v ad1 T1 M1 ha (fun a q => (hR1.2.2.2.2 a q).trans (hR.2.2.2.2 a q).symm) H1 locs1 hR1)
theorem g_callStr (hF : gFix Z cc own nm rt d mc ms Acc AccX) {b : Nat} (hs : gStr T b) (hm : gMy y cc' nL' rt' n) (hlk : Cond.methodLink own idx y ∈ gWS) (hin : Cond.instanceMethod y ∈ gWS) (hse : Cond.selects "java/lang/String" y y ∈ gWS) (hc : gRet d' y cc' nL' rt' mc' ms' (.ref b :: as) T M Acc') (hdd : d' + 1 ≤ d) (hmc : ce + mc' ≤ mc) (hms : so + ms' ≤ ms) (hn : as.length = n) (hst0 : st0 = as.reverse ++ .ref b :: st) (hcat : (st.map fun v => v.category).sum ≤ 8) (hd : decode cc pc = .ok (.invokevirtual idx, 3))
    (k : ∀ (v : Option Value) (ad1 : Nat → Nat) (T1 : gT) (M1 : gM), Acc' ad v ad1 T1 M1 → (∀ a : Nat, gSB ≤ a → ad1 a = ad a) → ∀ H locs la, gRp Z ad1 T1 M1 H locs → lv_has la Z.2.2.2.2.2.1 (gmp ad ls) → Z.1 H locs (ce + mc') (so + ms') (pc + 3) la ((v.map (gv ad1)).toList ++ st.map (gv ad))) : gG Z ad T M ce so pc ls st0 := by
  rcases hs with ⟨i, hi, q⟩ | ⟨q, hq⟩
  · exact g_callVSt hF hm hlk hin hse hi q hc hdd hmc hms hn hst0 hcat hd k
  · exact g_callV (C := "java/lang/String") (TT := TJ0) (N := 4) hF hm hlk hin hse (ci := 19) rfl (by decide) hq hc hdd hmc hms hn hst0 hcat hd k
end GCB
section GFG
variable {Z : gZ} {ad : Nat → Nat} {T : gT} {M : gM} {ce so pc : Nat} {ls : List (Nat × Value)} {st : List Value}
def gM0 : gM := (fun _ _ => 0, fun _ _ => 0, fun _ _ => none)
/-- everything that was made is forgotten -/
theorem gG_forget (h : gG Z ad [] gM0 ce so pc ls st) : gG Z ad T M ce so pc ls st := fun H locs la hR hl =>
  h H locs la ⟨fun k q h => by simp [gW] at h, ⟨fun i j x y h => by simp [gW] at h, fun k q h => by simp [gW] at h⟩, hR.2.2.1, (fun a k b' h => by cases h), hR.2.2.2.2⟩ hl
end GFG
