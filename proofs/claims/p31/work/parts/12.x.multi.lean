/-! ARRAYS OF ARRAYS: the outer one, then its rows -/
def gmm (M : gM) (n N : Nat) : gM := (fun b j => if n ≤ b ∧ b ≤ n + N then 0 else M.1 b j, fun b j => if n ≤ b ∧ b ≤ n + N then 0 else M.2.1 b j, fun b j => if b = n then (if j < N then some (n + 1 + j) else none) else if n ≤ b ∧ b ≤ n + N then none else M.2.2 b j)
def gnewm (T : gT) (M : gM) (N K : Nat) : Option (Nat × gT × gM) := if T.length < 900000 then some (T.length, T ++ ((15, N) :: List.replicate N (11, K)), gmm M T.length N) else none
theorem gnewm_sp {T : gT} {M : gM} {N K : Nat} {x : Nat × gT × gM} (h : gnewm T M N K = some x) : T.length < 900000 ∧ x = (T.length, T ++ ((15, N) :: List.replicate N (11, K)), gmm M T.length N) := by
  unfold gnewm at h
  split at h
  · exact ⟨by assumption, (Option.some.inj h).symm⟩
  · cases h
theorem gnewm_ext {T : gT} {M : gM} {N K : Nat} {x : Nat × gT × gM} (h : gnewm T M N K = some x) : gExt T x.2.1 := by
  obtain ⟨-, rfl⟩ := gnewm_sp h
  intro b x hx
  show (T ++ _)[b]? = _
  rw [List.getElem?_append_left (List.getElem?_eq_some_iff.mp hx).1]
  exact hx
theorem gnewm_at {T : gT} {M : gM} {N K : Nat} {x : Nat × gT × gM} (h : gnewm T M N K = some x) : x.2.1[x.1]? = some (15, N) := by
  obtain ⟨-, rfl⟩ := gnewm_sp h
  show (T ++ _)[T.length]? = _
  rw [List.getElem?_append_right (Nat.le_refl _), Nat.sub_self]
  rfl
def gadm (ad : Nat → Nat) (n N q : Nat) (r : Nat → Nat) : Nat → Nat := fun b => if b = n then q else if n ≤ b ∧ b ≤ n + N then r (b - n - 1) else ad b
theorem gadm_lt {ad : Nat → Nat} {n N q : Nat} {r : Nat → Nat} {b : Nat} (h : b < n) : gadm ad n N q r b = ad b := by
  unfold gadm
  rw [if_neg (by omega), if_neg (by omega)]
theorem gadm_gt {ad : Nat → Nat} {n N q : Nat} {r : Nat → Nat} {b : Nat} (h : n + N < b) : gadm ad n N q r b = ad b := by
  unfold gadm
  rw [if_neg (by omega), if_neg (by omega)]
theorem gCl_mm {T : gT} {M : gM} {N K : Nat} (h : gCl T M) : gCl (T ++ ((15, N) :: List.replicate N (11, K))) (gmm M T.length N) := fun a k b e => by
  rw [List.length_append, List.length_cons, List.length_replicate]
  change (if a = T.length then (if k < N then some (T.length + 1 + k) else none) else if T.length ≤ a ∧ a ≤ T.length + N then none else M.2.2 a k) = some b at e
  split at e
  · split at e
    · cases e; omega
    · cases e
  · split at e
    · cases e
    · have := h a k b e
      omega
theorem gW_mm {dA : Nat → ClassId} {ad : Nat → Nat} {T : gT} {M : gM} {N K q : Nat} {r : Nat → Nat} {f : Nat → va_E} (hC : gCl T M) : (gW dA ad T M ++ [(q, (.inl (dA 15, N, .inr (.inr (.inr (.inr (fun i => if i < N then some (r i) else none))))) : va_E))]) ++ va_pl ([] ++ (List.range N).map r) (vr_up f ((List.range N).map r) (.inl (dA 11, (K, .inl (fun _ => 0))))) = gW dA (gadm ad T.length N q r) (T ++ ((15, N) :: List.replicate N (11, K))) (gmm M T.length N) := by
  have e1 : gW dA (gadm ad T.length N q r) T (gmm M T.length N) = gW dA ad T M := by
    apply List.ext_getElem?
    intro k
    unfold gW
    rw [List.getElem?_mapIdx, List.getElem?_mapIdx]
    cases hk : T[k]? with
    | none => rfl
    | some sh =>
      have hlt := (List.getElem?_eq_some_iff.mp hk).1
      simp only [Option.map_some]
      rw [gadm_lt hlt]
      have a1 : ∀ j, gi (gmm M T.length N) k j = gi M k j := fun j => if_neg (by omega)
      have a2 : ∀ j, gl (gmm M T.length N) k j = gl M k j := fun j => if_neg (by omega)
      have a3 : ∀ j, gr (gmm M T.length N) k j = gr M k j := fun j => (if_neg (by omega)).trans (if_neg (by omega))
      have a4 : ∀ j, (gr (gmm M T.length N) k j).map (gadm ad T.length N q r) = (gr M k j).map ad := fun j => by
        rw [a3]
        cases hg : gr M k j with
        | none => rfl
        | some b =>
          have := hC k j b hg
          simp only [Option.map_some]
          rw [gadm_lt this]
      have e0 : gfv (gmm M T.length N) (gadm ad T.length N q r) k = gfv M ad k := by
        funext j kd
        simp only [gfv, a1, a2, a4]
      simp only [gE, e0, a1, a2, a4]
  have e2 : va_pl ([] ++ (List.range N).map r) (vr_up f ((List.range N).map r) (.inl (dA 11, (K, .inl (fun _ => 0))))) = (List.range N).map (fun i => ((r i, .inl (dA 11, (K, .inl (fun _ => 0)))) : Nat × va_E)) := by
    unfold va_pl
    rw [List.nil_append, List.map_map]
    apply List.map_congr_left
    intro i hi
    show (r i, vr_up f ((List.range N).map r) (.inl (dA 11, (K, .inl (fun _ => 0)))) (r i)) = _
    rw [vr_up_in (List.mem_map.mpr ⟨i, hi, rfl⟩)]
  rw [e2]
  conv => rhs; unfold gW
  rw [List.mapIdx_append]
  have e3 : (T.mapIdx fun a sh => (gadm ad T.length N q r a, gE dA (gadm ad T.length N q r) (gmm M T.length N) a sh)) = gW dA ad T M := e1
  rw [e3, List.append_assoc]
  congr 1
  apply List.ext_getElem?
  intro k
  rw [List.getElem?_mapIdx]
  cases k with
  | zero =>
    rw [Nat.zero_add]
    show some (q, _) = some (gadm ad T.length N q r T.length, gE dA (gadm ad T.length N q r) (gmm M T.length N) T.length (15, N))
    rw [gE_q (by omega), show gadm ad T.length N q r T.length = q from if_pos rfl]
    congr 9
    funext j
    rw [show gr (gmm M T.length N) T.length j = (if j < N then some (T.length + 1 + j) else none) from if_pos rfl]
    by_cases hj : j < N
    · rw [if_pos hj, if_pos hj, Option.map_some]
      unfold gadm
      rw [if_neg (by omega), if_pos (by omega)]
      congr 2
      omega
    · rw [if_neg hj, if_neg hj]
      rfl
  | succ k =>
    show ((List.range N).map (fun i => ((r i, .inl (dA 11, (K, .inl (fun _ => 0)))) : Nat × va_E)))[k]? = ((List.replicate N (11, K))[k]?).map _
    rw [List.getElem?_map]
    by_cases hk : k < N
    · rw [List.getElem?_range hk, List.getElem?_replicate, if_pos hk, Option.map_some, Option.map_some]
      have g1 : gadm ad T.length N q r (k + 1 + T.length) = r k := by
        unfold gadm
        rw [if_neg (by omega), if_pos (by omega)]
        congr 1
        omega
      show some (r k, _) = some (gadm ad T.length N q r (k + 1 + T.length), gE dA (gadm ad T.length N q r) (gmm M T.length N) (k + 1 + T.length) (11, K))
      rw [g1, gE_i]
      congr 6
      funext j
      exact (if_pos (by omega)).symm
    · rw [List.getElem?_eq_none (by rw [List.length_range]; omega), List.getElem?_eq_none (by rw [List.length_replicate]; omega)]
      rfl
theorem va_AO2.aoa {U : State} (h : va_AO2 U) : va_AOA .int U := by
  obtain ⟨comp, c, k, h1, hi, hk', hkind, f2⟩ := h
  unfold va_AOA Cond.before Cond.holds
  simp only [Cond.value]
  rw [h1, Option.bind_some]
  refine (congrArg (fun o : Option Nat => (o.bind (fun c => (U.vm.classes[c]?).map fun (k : Class) => match k.kind with | .array _ ty => decide (ty = FieldType.array .int) && decide (U.vm.findClass ("[" ++ (FieldType.array .int).toString) = some c) | _ => false) == some true)) hi).trans ?_
  simp [hk', hkind, f2]
section GMU
variable {Z : gZ} {cc : ByteArray} {own nm : String} {rt : Option FieldType} {d mc ms : Nat} {Acc : Option Value → (Nat → Nat) → gT → gM → Prop} {AccX : Nat → (Nat → Nat) → gT → gM → Prop} {ad : Nat → Nat} {T : gT} {M : gM} {ce so pc : Nat} {ls : List (Nat × Value)} {st : List Value}
theorem g_multi (hF : gFix Z cc own nm rt d mc ms Acc AccX) {idx N K : Nat} {n k9 : Int32} {x : Nat × gT × gM} (hn : ¬ n < 0) (hk0 : ¬ k9 < 0) (hN : n.toNatClampNeg = N) (hM : k9.toNatClampNeg = K) (hb1 : N ≤ 10000) (hb2 : K ≤ 10000) (hw1 : Cond.classLink own idx "[[I" ∈ gWS) (hw2 : Cond.arrayClass .int ∈ gWS)
    (hnew : gnewm T M N K = some x) (hfr : gOld T.length (ls.map Prod.snd)) (hfs : gOld T.length st) (h1 : ce + (1 + N) ≤ mc) (h2 : so + (N + N * K) ≤ ms) (hd : decode cc pc = .ok (.multianewarray idx 2, 4))
    (k : ∀ ad1 : Nat → Nat, (∀ a : Nat, a < T.length → ad1 a = ad a) → gG Z ad1 x.2.1 x.2.2 (ce + 1 + N) (so + N + N * K) (pc + 4) ls (.ref x.1 :: st)) : gG Z ad T M ce so pc ls (.int k9 :: .int n :: st) := by
  obtain ⟨hT9, rfl⟩ := gnewm_sp hnew
  obtain ⟨p, l, e, R, s, m, args, below, meth, cd, Q, adV, hKq, hx, hb, hml, hown, hts, hK, hH, hA, hE, hRm, hnm, hlk9, hst9, -⟩ := hF
  intro H locs la hR hl
  have hlo : ∀ (q : Nat) (r : Nat → Nat) (a : Nat), a < T.length → gadm ad T.length N q r a = ad a := fun q r a ha => gadm_lt ha
  have hhi : ∀ (q : Nat) (r : Nat → Nat) (a : Nat), gSB ≤ a → gadm ad T.length N q r a = ad a := fun q r a ha => gadm_gt (by have h9 : 1000000 ≤ a := ha; omega)
  have k := fun q r H1 hR1 => k (gadm ad T.length N q r) (hlo q r) H1 locs la hR1 (by rw [gOld_gmp (hlo q r) (hhi q r) hfr]; exact hl)
  rw [hKq] at k ⊢
  have hcy : s.vm.findClass (FieldType.array .int).toString = some (Z.2.2.2.2.1 11) := (hK.2 1 _ rfl).2
  have hP0 : va_P Z.2.2.2.1 vwCl (gW Z.2.2.2.2.1 ad T M ++ va_pl [] (fun _ => .inr (0, []))) H := by
    rw [show va_pl [] (fun _ => (.inr (0, []) : va_E)) = [] from rfl, List.append_nil]
    exact hR.1
  have hD0 : va_D Z.2.1 (gW Z.2.2.2.2.1 ad T M ++ va_pl [] (fun _ => .inr (0, []))) := by
    rw [show va_pl [] (fun _ => (.inr (0, []) : va_E)) = [] from rfl, List.append_nil]
    exact hR.2.1
  refine va_mna (ty := .int) (z := (K, .inl (fun _ => 0))) hx hb hown (hts _ hw1) hE.2.2.2.2.2.2.2.2.2.1.aoa (hts _ hw2) hcy hK hP0 hD0 hR.2.2.1 (fun q hq => hA q (by rw [hH] at hq; exact hq)) hn hk0 hN hM (by omega) (by simp only [componentBytes]; omega) (by omega) rfl rfl (Nat.le_trans h1 hRm.2.2.1) (Nat.le_trans h2 hRm.2.2.2) (fun c => ?_) hd (fun q r cA H1 hr1 hr2 hK1 hP hD hS => ?_)
  · show ({ cls := c, slots := Array.replicate K (.int 0), vm := .none } : Cell) = _
    rw [arrV_new]
    rfl
  · have hcA : cA = Z.2.2.2.2.1 15 := gRA_eq (hK1.2 8 (cA, .array .int) rfl).2 (hK.2 5 _ rfl).2
    subst hcA
    rw [gW_mm hR.2.2.2.1] at hP hD
    have k := k q r H1 ⟨hP, hD, hS, gCl_mm hR.2.2.2.1, fun b hb => (hhi q r b hb).trans (hR.2.2.2.2 b hb)⟩
    rw [List.map_cons, gOld_map (hlo q r) (hhi q r) hfs] at k
    have hself : gv (gadm ad T.length N q r) (.ref T.length) = .ref q := by
      show Value.ref (gadm ad T.length N q r T.length) = _
      rw [show gadm ad T.length N q r T.length = q from if_pos rfl]
    rw [hself] at k
    exact k
end GMU
