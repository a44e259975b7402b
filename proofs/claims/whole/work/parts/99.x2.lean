/-! WHICH EXCEPTIONS A CHANGING CALL THROWS -/
def lo {β : Type} (l : List Nat) (o : Option (Nat ⊕ β)) : Prop := ∀ c, o = some (.inl c) → c ∈ l
section PLO
variable {α β γ : Type} {l : List Nat}
theorem lo_inr {b : β} : lo l (some (.inr b) : Option (Nat ⊕ β)) := fun c h => by cases h
theorem lo_inl {k : Nat} (hk : k ∈ l) : lo l (some (.inl k) : Option (Nat ⊕ β)) := fun c h => by
  cases h
  exact hk
theorem lo_none : lo l (none : Option (Nat ⊕ β)) := fun c h => by cases h
theorem lo_bind {o : Option α} {g : α → Option (Nat ⊕ β)} (h : ∀ a, lo l (g a)) : lo l (o.bind g) := fun c hc => by
  cases o with
  | none => cases hc
  | some a => exact h a c hc
theorem lo_req {o : Option (Nat ⊕ γ)} {g : γ → Option (Nat ⊕ β)} (h1 : lo l o) (h2 : ∀ r, lo l (g r)) : lo l (o.bind fun x => gcase x (fun k => some (.inl k)) g) := fun c hc => by
  cases o with
  | none => cases hc
  | some a =>
    cases a with
    | inl k =>
      cases hc
      exact h1 _ rfl
    | inr r => exact h2 r c hc
theorem lo_if {p : Prop} {d : Decidable p} {a b : Option (Nat ⊕ β)} (h1 : lo l a) (h2 : lo l b) : lo l (if p then a else b) := by
  by_cases h : p
  · rw [if_pos h]; exact h1
  · rw [if_neg h]; exact h2
variable {T : gT} {M : gM} {i j x : Int32}
theorem lo_lib (h : 2 ∈ l) : lo l (f_X8_requireLibrary T M 0 i) := by
  unfold f_X8_requireLibrary f_X8_requireLibrary_15
  exact lo_if (lo_inl h) (lo_bind (fun _ => lo_if lo_inr (lo_inl h)))
theorem lo_name (h : 2 ∈ l) : lo l (f_X8_requireName T M 0 i) := by
  unfold f_X8_requireName f_X8_requireName_15
  exact lo_if (lo_inl h) (lo_bind (fun _ => lo_if lo_inr (lo_inl h)))
theorem k_unload : lo [2, 3] (f_X8_unload T M 0 i) := by
  unfold f_X8_unload
  repeat' (first | exact lo_inr | exact lo_inl (by decide) | (refine lo_req (lo_lib (by decide)) ?_; intro _) | (refine lo_req (lo_name (by decide)) ?_; intro _) | (refine lo_if ?_ ?_) | (refine lo_bind ?_; intro _))
theorem k_reload : lo [2, 3] (f_X8_reload T M 0 i) := by
  unfold f_X8_reload
  repeat' (first | exact lo_inr | exact lo_inl (by decide) | (refine lo_req (lo_lib (by decide)) ?_; intro _) | (refine lo_req (lo_name (by decide)) ?_; intro _) | (refine lo_if ?_ ?_) | (refine lo_bind ?_; intro _))
theorem k_offerValue : lo [2, 1] (f_X8_offerValue T M 0 i j x) := by
  unfold f_X8_offerValue f_X8_offerValue_21
  repeat' (first | exact lo_inr | exact lo_inl (by decide) | (refine lo_req (lo_lib (by decide)) ?_; intro _) | (refine lo_req (lo_name (by decide)) ?_; intro _) | (refine lo_if ?_ ?_) | (refine lo_bind ?_; intro _))
theorem k_offerForward : lo [2] (f_X8_offerForward T M 0 i j x) := by
  unfold f_X8_offerForward
  repeat' (first | exact lo_inr | exact lo_inl (by decide) | (refine lo_req (lo_lib (by decide)) ?_; intro _) | (refine lo_req (lo_name (by decide)) ?_; intro _) | (refine lo_if ?_ ?_) | (refine lo_bind ?_; intro _))
theorem k_withdraw : lo [2, 3] (f_X8_withdraw T M 0 i j) := by
  unfold f_X8_withdraw
  repeat' (first | exact lo_inr | exact lo_inl (by decide) | (refine lo_req (lo_lib (by decide)) ?_; intro _) | (refine lo_req (lo_name (by decide)) ?_; intro _) | (refine lo_if ?_ ?_) | (refine lo_bind ?_; intro _))
theorem k_setTrust : lo [2, 1] (f_X8_setTrust T M 0 i j) := by
  unfold f_X8_setTrust f_X8_setTrust_16
  repeat' (first | exact lo_inr | exact lo_inl (by decide) | (refine lo_req (lo_lib (by decide)) ?_; intro _) | (refine lo_req (lo_name (by decide)) ?_; intro _) | (refine lo_if ?_ ?_) | (refine lo_bind ?_; intro _))
theorem k_setKeeps : lo [2] (f_X8_setKeeps T M 0 i j) := by
  unfold f_X8_setKeeps
  repeat' (first | exact lo_inr | exact lo_inl (by decide) | (refine lo_req (lo_lib (by decide)) ?_; intro _) | (refine lo_req (lo_name (by decide)) ?_; intro _) | (refine lo_if ?_ ?_) | (refine lo_bind ?_; intro _))
theorem k_setShare : lo [1] (f_X8_setShare T M 0 i) := by
  unfold f_X8_setShare f_X8_setShare_10
  repeat' (first | exact lo_inr | exact lo_inl (by decide) | (refine lo_req (lo_lib (by decide)) ?_; intro _) | (refine lo_req (lo_name (by decide)) ?_; intro _) | (refine lo_if ?_ ?_) | (refine lo_bind ?_; intro _))
end PLO
