/-! THE LAW'S ROUND, every call -/
def lP (T : gT) (C : Nat) (i4 : Int32) (x : Option (Int32 ⊕ (Int32 × gT × gM))) : Prop := ∃ T' M', x = some (.inr (i4 + 6, T', M')) ∧ (T'.length = T.length ∨ T'.length = T.length + 3) ∧ ∃ k m nx sz, gInv T' M' k m (C + 1) nx sz
section PL7
variable {T : gT} {M : gM} {C C' nx sz m n : Nat} {k : Nat → Nat × Nat} {f : Nat → Int32} {i4 v0 v1 v2 v3 v4 v5 : Int32}
theorem lP_ite {p : Prop} {d : Decidable p} {a b : Option (Int32 ⊕ (Int32 × gT × gM))} (h1 : p → lP T C i4 a) (h2 : ¬ p → lP T C i4 b) : lP T C i4 (if p then a else b) := by
  by_cases h : p
  · rw [if_pos h]; exact h1 h
  · rw [if_neg h]; exact h2 h
theorem lP_of {x : Option (Int32 ⊕ (Int32 × gT × gM))} (h : ∃ M', x = some (.inr (i4 + 6, T, M')) ∧ ∃ k m nx sz, gInv T M' k m C' nx sz) (hC : C' ≤ C + 1) : lP T C i4 x := by
  obtain ⟨M', h1, k, m, nx, sz, h2⟩ := h
  exact ⟨T, M', h1, Or.inl rfl, k, m, nx, sz, gInv_C' h2 hC⟩
theorem mem1 {P : Nat → Prop} {x : Nat} (hx : P x) : ∀ c, c ∈ [x] → P c := fun c hc => by
  rw [List.mem_singleton.mp hc]
  exact hx
theorem mem2 {P : Nat → Prop} {x y : Nat} (hx : P x) (hy : P y) : ∀ c, c ∈ [x, y] → P c := fun c hc => by
  rcases List.mem_cons.mp hc with e | hc
  · rw [e]; exact hx
  · rw [List.mem_singleton.mp hc]; exact hy
theorem lw_Ql {cls : Option (Nat ⊕ Int32)} {ref : gM → Option (Int32 × gM)} {cd : Nat → Int32} {wc : Nat → Option (Int32 × gM)} {l : List Nat} (h : opQ T M C' cls ref cd) (hT : T[358]? = some (12, 1)) (hl : lo l cls) (hw : ∀ c, c ∈ l → wc c = some (cd c, M)) : ∃ M', ((cls.bind fun x1 => gcase x1 wc fun r1 => (astl T M 358 (0 : Int32) r1.toInt64).bind fun M2 => some ((0 : Int32), M2)).bind fun x28 => (ref x28.2).bind fun x33 => (f_X9_thrown T x33.2 311).bind fun x34 => if x34 = x28.1 then (if ¬ x28.1 = 0 then f_L_law_1692 n f T x33.2 0 311 358 i4 else (aldl T x33.2 358 (0 : Int32)).bind fun v37 => if (lg_cmp v37 x33.1.toInt64) = 0 then f_L_law_1692 n f T x33.2 0 311 358 i4 else some (.inl (0 : Int32))) else some (.inl (0 : Int32))) = some (.inr (i4 + 6, T, M')) ∧ ∃ k m nx sz, gInv T M' k m C' nx sz := lr_Q h hT (fun c hc => hw c (hl c hc))
/-- the queries without arguments -/
theorem lP_same {cls : Option Int32} {ref : Option (Int32 × gM)} (hI : gInv T M k m C nx sz) (h : ∃ v, cls = some v ∧ ref = some (v, si M 311 0 0)) : lP T C i4 (cls.bind fun x39 => ref.bind fun x40 => if x39 = x40.1 then f_L_law_1692 n f T x40.2 0 311 358 i4 else some (.inl (0 : Int32))) := by
  obtain ⟨v, c1, c2⟩ := h
  refine ⟨T, si M 311 0 0, ?_, Or.inl rfl, k, m, nx, sz, gInv_C' (m_thr hI) (by omega)⟩
  unfold f_L_law_1692
  rw [c1, Option.bind_some, c2, Option.bind_some]
  dsimp only
  rw [if_pos rfl]
/-- a round of the law: the script's six ints are v0 .. v5 -/
theorem lw_all (s0 : scr n f i4 = some v0) (s1 : scr n f (i4 + (1 : Int32)) = some v1) (s2 : scr n f (i4 + (2 : Int32)) = some v2) (s3 : scr n f (i4 + (3 : Int32)) = some v3) (s4 : scr n f (i4 + (4 : Int32)) = some v4) (s5 : scr n f (i4 + (5 : Int32)) = some v5) (hb : ¬ (((Int32.ofNat n) - (6 : Int32)) < i4)) (hI : gInv T M k m C nx sz) (hC8 : 8 ≤ C) (hC : C < 1000000) (hj : ∃ j, T.length = 359 + 3 * j) (hL : T.length + 3 ≤ 900000) : lP T C i4 (f_L_law_B23 n f T M 0 311 358 i4) := by
  have hT : T[358]? = some (12, 1) := shF hI.2.1 (by decide) rfl
  unfold f_L_law_B23
  rw [if_neg hb, s0, Option.bind_some]
  refine lP_ite (fun _ => ?_) (fun _ => ?_)
  · simp only [s1, s2, s3, s4, s5, Option.bind_some]
    exact lP_of (lw_U (o_append hI)) (Nat.le_succ C)
  refine lP_ite (fun _ => ?_) (fun _ => ?_)
  · simp only [s1, Option.bind_some]
    exact lw_load (o_load rfl hj hL hI hC8 (Nat.le_succ C))
  refine lP_ite (fun _ => ?_) (fun _ => ?_)
  · exact lP_same hI (o_errorOffset hI)
  refine lP_ite (fun _ => ?_) (fun _ => ?_)
  · exact lP_same hI (o_libraries hI)
  refine lP_ite (fun _ => ?_) (fun _ => ?_)
  · exact lP_same hI (o_names hI)
  refine lP_ite (fun _ => ?_) (fun _ => ?_)
  · exact lP_same hI (o_share hI)
  refine lP_ite (fun _ => ?_) (fun _ => ?_)
  · simp only [s1, s2, Option.bind_some]
    unfold f_L_library
    refine lP_of (lw_Ql (oq_library hI).1 hT (oq_library hI).2 ?_) (Nat.le_succ C)
    refine mem2 ?_ ?_ <;> rfl
  refine lP_ite (fun _ => ?_) (fun _ => ?_)
  · simp only [s1, s2, Option.bind_some]
    unfold f_L_offer
    refine lP_of (lw_Ql (oq_offer hI).1 hT (oq_offer hI).2 ?_) (Nat.le_succ C)
    refine mem1 ?_; rfl
  refine lP_ite (fun _ => ?_) (fun _ => ?_)
  · simp only [s1, Option.bind_some]
    unfold f_L_candidates
    refine lP_of (lw_Ql (oq_candidates hI).1 hT (oq_candidates hI).2 ?_) (Nat.le_succ C)
    refine mem1 ?_; rfl
  refine lP_ite (fun _ => ?_) (fun _ => ?_)
  · simp only [s1, s2, Option.bind_some]
    unfold f_L_vote
    refine lP_of (lw_Ql (oq_vote hI).1 hT (oq_vote hI).2 ?_) (Nat.le_succ C)
    refine mem1 ?_; rfl
  refine lP_ite (fun _ => ?_) (fun _ => ?_)
  · simp only [s1, s2, Option.bind_some]
    unfold f_L_support
    refine lP_of (lw_Ql (oq_support hI).1 hT (oq_support hI).2 ?_) (Nat.le_succ C)
    refine mem1 ?_; rfl
  refine lP_ite (fun _ => ?_) (fun _ => ?_)
  · simp only [s1, Option.bind_some]
    unfold f_L_winner
    refine lP_of (lw_Ql (oq_winner hI).1 hT (oq_winner hI).2 ?_) (Nat.le_succ C)
    refine mem1 ?_; rfl
  refine lP_ite (fun _ => ?_) (fun _ => ?_)
  · simp only [s1, Option.bind_some]
    unfold f_L_margin
    refine lP_of (lw_Ql (oq_margin hI).1 hT (oq_margin hI).2 ?_) (Nat.le_succ C)
    refine mem1 ?_; rfl
  refine lP_ite (fun _ => ?_) (fun _ => ?_)
  · simp only [s1, s2, Option.bind_some]
    unfold f_L_binding
    refine lP_of (lw_Ql (oq_binding hI).1 hT (oq_binding hI).2 ?_) (Nat.le_succ C)
    refine mem1 ?_; rfl
  refine lP_ite (fun _ => ?_) (fun _ => ?_)
  · simp only [s1, Option.bind_some]
    unfold f_L_minority
    refine lP_of (lw_Ql (oq_minority hI).1 hT (oq_minority hI).2 ?_) (Nat.le_succ C)
    refine mem1 ?_; rfl
  refine lP_ite (fun _ => ?_) (fun _ => ?_)
  · simp only [s1, s2, Option.bind_some]
    unfold f_L_call
    refine lP_of (lw_A (oq_call hI).1 (oq_call hI).2 ?_ ?_) (by omega)
    · refine mem1 ?_; rfl
    · exact mem1 (by decide)
  refine lP_ite (fun _ => ?_) (fun _ => ?_)
  · simp only [s1, s2, Option.bind_some]
    unfold f_L_steps
    refine lP_of (lw_A (oq_steps hI).1 (oq_steps hI).2 ?_ ?_) (by omega)
    · refine mem1 ?_; rfl
    · exact mem1 (by decide)
  refine lP_ite (fun _ => ?_) (fun _ => ?_)
  · simp only [s1, s2, Option.bind_some]
    unfold f_L_users
    refine lP_of (lw_Ql (oq_users hI).1 hT (oq_users hI).2 ?_) (Nat.le_succ C)
    refine mem1 ?_; rfl
  refine lP_ite (fun _ => ?_) (fun _ => ?_)
  · simp only [s1, Option.bind_some]
    unfold f_L_unload
    refine lP_of (lw_A (o_unload hI) k_unload ?_ ?_) (by omega)
    · refine mem2 ?_ ?_ <;> rfl
    · exact mem2 (by decide) (by decide)
  refine lP_ite (fun _ => ?_) (fun _ => ?_)
  · simp only [s1, Option.bind_some]
    unfold f_L_reload
    refine lP_of (lw_A (o_reload hC hI) k_reload ?_ ?_) (by omega)
    · refine mem2 ?_ ?_ <;> rfl
    · exact mem2 (by decide) (by decide)
  refine lP_ite (fun _ => ?_) (fun _ => ?_)
  · simp only [s1, s2, s3, Option.bind_some]
    unfold f_L_offerValue
    refine lP_of (lw_A (o_offerValue hI) k_offerValue ?_ ?_) (by omega)
    · refine mem2 ?_ ?_ <;> rfl
    · exact mem2 (by decide) (by decide)
  refine lP_ite (fun _ => ?_) (fun _ => ?_)
  · simp only [s1, s2, s3, Option.bind_some]
    unfold f_L_offerForward
    refine lP_of (lw_A (o_offerForward hI) k_offerForward ?_ ?_) (by omega)
    · refine mem1 ?_; rfl
    · exact mem1 (by decide)
  refine lP_ite (fun _ => ?_) (fun _ => ?_)
  · simp only [s1, s2, Option.bind_some]
    unfold f_L_withdraw
    refine lP_of (lw_A (o_withdraw hI) k_withdraw ?_ ?_) (by omega)
    · refine mem2 ?_ ?_ <;> rfl
    · exact mem2 (by decide) (by decide)
  refine lP_ite (fun _ => ?_) (fun _ => ?_)
  · simp only [s1, s2, Option.bind_some]
    unfold f_L_setTrust
    refine lP_of (lw_A (o_setTrust hI) k_setTrust ?_ ?_) (by omega)
    · refine mem2 ?_ ?_ <;> rfl
    · exact mem2 (by decide) (by decide)
  refine lP_ite (fun _ => ?_) (fun _ => ?_)
  · simp only [s1, s2, Option.bind_some]
    refine lP_ite (fun h => ?_) (fun h => ?_)
    · unfold f_L_law_1546
      simp only [s1, s2, Option.bind_some, if_pos h, f_L_law_1573]
      unfold f_L_setKeeps
      refine lP_of (lw_A (o_setKeeps hI (Or.inl rfl)) k_setKeeps ?_ ?_) (by omega)
      · refine mem1 ?_; rfl
      · exact mem1 (by decide)
    · unfold f_L_law_1546
      simp only [s1, s2, Option.bind_some, if_neg h, f_L_law_1573]
      unfold f_L_setKeeps
      refine lP_of (lw_A (o_setKeeps hI (Or.inr rfl)) k_setKeeps ?_ ?_) (by omega)
      · refine mem1 ?_; rfl
      · exact mem1 (by decide)
  refine lP_ite (fun _ => ?_) (fun _ => ?_)
  · simp only [s1, Option.bind_some]
    unfold f_L_setShare
    refine lP_of (lw_A (o_setShare hI) k_setShare ?_ ?_) (by omega)
    · refine mem1 ?_; rfl
    · exact mem1 (by decide)
  refine lP_ite (fun _ => ?_) (fun _ => ?_)
  · exact lP_of (lw_U (o_undo hI)) (Nat.le_succ C)
  refine lP_ite (fun _ => ?_) (fun _ => ?_)
  · obtain ⟨v, N, N', c1, c2, c3⟩ := o_checksum hI
    refine ⟨T, N', ?_, Or.inl rfl, k, m, nx, sz, gInv_C' c3 (Nat.le_succ C)⟩
    unfold f_L_law_1692
    rw [c1, Option.bind_some]
    dsimp only
    rw [c2, Option.bind_some]
    dsimp only
    rw [if_pos (by unfold lg_cmp; simp)]
  exact ⟨T, M, rfl, Or.inl rfl, k, m, nx, sz, gInv_C' hI (Nat.le_succ C)⟩
end PL7
