/-! CALLS, STEPS, LIBRARY, CHECKSUM: both sides -/
theorem gcase_inr {α β δ : Type} {b : β} {f : α → Option δ} {g : β → Option δ} : gcase (.inr b) f g = g b := rfl
section PCS
variable {T : gT} {M N : gM} {D : Nat} {k : Nat → Nat × Nat} {m n a : Nat} {i j : Int32} {W W' : Nat → Nat}
theorem vGo_same (hd : dSame N D M D) (hV : gVal T M D) (hW : ∀ i, i < dNl M D → W' i = W i) : ∀ (f : Nat) (V : Nat → Bool) (c n l : Nat), c < dNl M D → n < dNn M D → vGo W' N D f V c n l = vGo W M D f V c n l
  | 0, V, c, n, l, _, _ => rfl
  | f + 1, V, c, n, l, hc, hn => by
    have h8 := hV.2.1
    have h12 := hV.2.2.1
    unfold vGo
    rw [vBd_same hd hV hc (by omega) hW]
    by_cases h1 : V (12 * c + n) = true
    · rw [if_pos h1, if_pos h1]
    · rw [if_neg h1, if_neg h1]
      by_cases hno : vBd W M D c n = -1
      · rw [if_pos hno, if_pos hno]
      · obtain ⟨b, hb, e1, e2⟩ := vBd_ok hV hc hno
        have ecl : (vBd W M D c n).toNatClampNeg = b := by rw [e1]; exact nI_clamp (by omega)
        rw [if_neg hno, if_neg hno, ecl, hd.off (show b < 8 by omega) (show n < 12 by omega)]
        rcases vOf_ok hV hb (show n < 12 by omega) e2 with ⟨v, hv9, ev⟩ | ⟨q, hq, ev⟩
        · rw [ev, if_pos (nI_pos (by omega)), if_pos (nI_pos (by omega))]
        · obtain ⟨w1, w2, w3⟩ := fw_sub q (by omega)
          rw [ev, if_neg (fun z => z w2), if_neg (fun z => z w2), w1, nI_clamp (by omega)]
          exact vGo_same hd hV hW f _ b q (l + 1) hb hq
theorem vCal_same (hd : dSame N D M D) (hV : gVal T M D) (hW : ∀ i, i < dNl M D → W' i = W i) (ha : a < dNl M D) (hn : n < dNn M D) : vCal W' N D a n = vCal W M D a n := vGo_same hd hV hW 96 _ a n 0 ha hn
theorem q_calY [gW0] (h : gCls T M k m) (hE : gEl M k m) (ha : a < dNl M 37) (hn : n < dNn M 37) : ∃ N, f_X8_call T M 0 (nI a) (nI n) = some (.inr ((vCal (vW M 37 k m) M 37 a n).1, N)) ∧ fr (fun b _ => b = 74 ∨ b = 75) M N := by
  obtain ⟨N, c1, c2, c3, c4⟩ := p_folC h (fun n hn i hi => ((hE.2 n hn).2.2.2 i hi).2.2) ha hn
  unfold f_X8_call
  rw [c_libY h (gdL_nI h ha), c_namY h (gdN_nI h hn), r_0_6 h.1, Option.bind_some, r_0_4 h.1, Option.bind_some, r_0_5 h.1, Option.bind_some, c1, Option.bind_some, r_0_6 (gFx_fr h.1 c2), Option.bind_some, c3]
  exact ⟨N, rfl, c2⟩
theorem q_calN [gW0] (h : gCls T M k m) (g : ¬ (gdL M 37 i ∧ gdN M 37 j)) : f_X8_call T M 0 i j = some (.inl 2) := c_lnN h g
/-! the checksum -/
def ck6 (v : Int64) (g : Nat → Int32) : Nat → Int64
  | 0 => v
  | w + 1 => (31 : Int64) * ck6 v g w + (g w).toInt64
def ckN (v : Int64) (o b c : Nat → Int32) : Nat → Int64
  | 0 => v
  | n + 1 => (31 : Int64) * ((31 : Int64) * ((31 : Int64) * ckN v o b c n + (o n).toInt64) + (b n).toInt64) + (c n).toInt64
def ckL (M : gM) (D : Nat) (k : Nat → Nat × Nat) (m : Nat) : Nat → Int64
  | 0 => (gi M D 3).toInt64
  | i + 1 => ckN (ck6 (ckL M D k m i) (vTl M D k m i) 6) (dOf M D i) (vBd (vW M D k m) M D i) (fun n => (vCal (vW M D k m) M D i n).1) (dNn M D)
theorem vTl_same (hV : gVal T M D) (hd : dSame N D M D) (ha : a < dNl M D) : vTl N D k m a = vTl M D k m a := by
  have h8 := hV.2.1
  funext w
  unfold vTl
  rw [show dRk N D a = dRk M D a from dRk_same hd (by omega), show dTr N D a = dTr M D a from dTr_same hd (by omega), show dKp N D a = dKp M D a from dKp_same hd (by omega), show dPn N D a = dPn M D a from hd.lib (by omega) (Or.inr (Or.inr (Or.inr rfl))), vW_sameV hV hd a ha, cntN_ext (fun q hq => by rw [show dOf N D a q = dOf M D a q from hd.off (by omega) hq])]
theorem gEl_fr [gW0] (h : gCls T M k m) (hE : gEl M k m) {S : Nat → Nat → Prop} (hF : fr S M N) (hS : ∀ b j, S b j → eA b ∧ ¬ (67 ≤ b ∧ b ≤ 73)) : gEl N k m := by
  obtain ⟨hN, hd⟩ := gCls_fr h hF (fun b j q => (hS b j q).1)
  have hW := vW_sameC h hd
  have h8 := h.2.1.2.1
  have h12 := h.2.1.2.2.1
  have hg : ∀ b j, 67 ≤ b → b ≤ 73 → gi N b j = gi M b j := fun b j h1 h2 => hF.2.2 b j (fun q => (hS b j q).2 ⟨h1, h2⟩)
  refine ⟨fun j hj => ?_, fun n hn => ?_⟩
  · rw [dNl_same hd] at hj
    rw [hg 67 j (by omega) (by omega), hE.1 j hj, dRk_same hd (by omega), hW j hj]
  · rw [dNn_same hd] at hn
    refine gElN_same hd h.2.1 (by omega) hW ?_
    obtain ⟨e1, e2, e3, e4⟩ := hE.2 n hn
    refine ⟨by rw [hg _ _ (by omega) (by omega)]; exact e1, by rw [hg _ _ (by omega) (by omega)]; exact e2, by rw [hg _ _ (by omega) (by omega)]; exact e3, fun i hi => ?_⟩
    obtain ⟨g1, g2, g3⟩ := e4 i hi
    exact ⟨by rw [hg _ _ (by omega) (by omega)]; exact g1, by rw [hg _ _ (by omega) (by omega)]; exact g2, by rw [hg _ _ (by omega) (by omega)]; exact g3⟩
theorem q_checksum [gW0] (h : gCls T M k m) (hE : gEl M k m) : ∃ N, f_X8_checksum T M 0 = some (ckL M 37 k m (dNl M 37), N) ∧ fr (fun b _ => b = 74 ∨ b = 75) M N := by
  have h8 := h.2.1.2.1
  have h12 := h.2.1.2.2.1
  have hn1 := h.2.1.2.2.2.1
  have hn2 := h.2.1.2.2.2.2.1
  have hS : ∀ b j : Nat, (fun (b _ : Nat) => b = 74 ∨ b = 75) b j → eA b ∧ ¬ (67 ≤ b ∧ b ≤ 73) := fun b j q => ⟨Or.inl (by omega), by omega⟩
  unfold f_X8_checksum f_X8_share
  rw [r_0_4 h.1, Option.bind_some, Option.bind_some]
  have hL : ∃ e, gloop (fun x => f_X8_checksum_B8 T x.2.2 0 x.1 x.2.1) gFU ((gi M 37 3).toInt64, (0 : Int32), M) = some e ∧ (e.1 = ckL M 37 k m (dNl M 37) ∧ fr (fun b _ => b = 74 ∨ b = 75) M e.2) := by
    refine gloop_ex (P := fun t y => y.1 = ckL M 37 k m t ∧ y.2.1 = nI t ∧ t ≤ dNl M 37 ∧ fr (fun b _ => b = 74 ∨ b = 75) M y.2.2) (fu := gFU) (dNl M 37) (Nat.lt_of_le_of_lt h8 (by decide)) ⟨rfl, rfl, Nat.zero_le _, fr_refl⟩ (fun t y _ hP => ?_)
    obtain ⟨y1, y2, N⟩ := y
    obtain ⟨rfl, rfl, ht, hF⟩ := hP
    dsimp only at hF
    obtain ⟨hN, hd⟩ := gCls_fr h hF (fun b j q => (hS b j q).1)
    have hEN := gEl_fr h hE hF hS
    show (∃ e, f_X8_checksum_B8 T N 0 (ckL M 37 k m t) (nI t) = some (.inl e) ∧ _) ∨ _
    unfold f_X8_checksum_B8
    rw [r_0_4 hN.1, Option.bind_some, show gi N 37 1 = nI (dNl M 37) from (hd.hd (Or.inl rfl)).trans hn1]
    by_cases e : t = dNl M 37
    · rw [if_pos (nI_le (by omega) (by omega))]
      subst e
      exact Or.inl ⟨_, rfl, rfl, hF⟩
    · have hlt : t < dNl M 37 := by omega
      have htN : t < dNl N 37 := by rw [dNl_same hd]; exact hlt
      rw [if_neg (nI_ge hlt (by omega))]
      have h6 := gloop_for (B := fun x => f_X8_checksum_B22 T N 0 x.1 (nI t) x.2) (fu := gFU) (e := ck6 (ckL M 37 k m t) (vTl M 37 k m t) 6) (fun w => (ck6 (ckL M 37 k m t) (vTl M 37 k m t) w, nI w)) 6 (by decide) (fun w hw => by
        show f_X8_checksum_B22 T N 0 _ (nI t) (nI w) = some (.inr (_, nI (w + 1)))
        unfold f_X8_checksum_B22
        rw [if_neg (show ¬ ((5 : Int32) < nI w) from nI_nlt (a := 5) (by omega) (by decide)), q_libY hN hEN htN hw, Option.bind_some, vTl_same h.2.1 hd hlt, nI_1]
        rfl) (by
        show f_X8_checksum_B22 T N 0 _ (nI t) (nI 6) = _
        unfold f_X8_checksum_B22
        rw [if_pos (by decide)])
      rw [show (gloop (fun x => f_X8_checksum_B22 T N 0 x.1 (nI t) x.2) gFU (ckL M 37 k m t, (0 : Int32))) = _ from h6, Option.bind_some]
      generalize hv6 : ck6 (ckL M 37 k m t) (vTl M 37 k m t) 6 = v6
      have hL2 : ∃ e, gloop (fun x => f_X8_checksum_B52 T x.2.2 0 x.1 (nI t) x.2.1) gFU (v6, (0 : Int32), N) = some e ∧ (e.1 = ckN v6 (dOf M 37 t) (vBd (vW M 37 k m) M 37 t) (fun n => (vCal (vW M 37 k m) M 37 t n).1) (dNn M 37) ∧ fr (fun b _ => b = 74 ∨ b = 75) M e.2) := by
        refine gloop_ex (P := fun s y => y.1 = ckN v6 (dOf M 37 t) (vBd (vW M 37 k m) M 37 t) (fun n => (vCal (vW M 37 k m) M 37 t n).1) s ∧ y.2.1 = nI s ∧ s ≤ dNn M 37 ∧ fr (fun b _ => b = 74 ∨ b = 75) M y.2.2) (fu := gFU) (dNn M 37) (Nat.lt_of_le_of_lt h12 (by decide)) ⟨rfl, rfl, Nat.zero_le _, hF⟩ (fun s y _ hP => ?_)
        obtain ⟨y1, y2, K⟩ := y
        obtain ⟨rfl, rfl, hs, hFK⟩ := hP
        dsimp only at hFK
        obtain ⟨hK, hdK⟩ := gCls_fr h hFK (fun b j q => (hS b j q).1)
        have hEK := gEl_fr h hE hFK hS
        show (∃ e, f_X8_checksum_B52 T K 0 _ (nI t) (nI s) = some (.inl e) ∧ _) ∨ _
        unfold f_X8_checksum_B52
        rw [r_0_4 hK.1, Option.bind_some, show gi K 37 2 = nI (dNn M 37) from (hdK.hd (Or.inr (Or.inl rfl))).trans hn2]
        by_cases e2 : s = dNn M 37
        · rw [if_pos (nI_le (by omega) (by omega))]
          subst e2
          exact Or.inl ⟨_, rfl, rfl, hFK⟩
        · have hsl : s < dNn M 37 := by omega
          have htK : t < dNl K 37 := by rw [dNl_same hdK]; exact hlt
          have hsK : s < dNn K 37 := by rw [dNn_same hdK]; exact hsl
          obtain ⟨K', c1, c2⟩ := q_calY hK hEK htK hsK
          rw [if_neg (nI_ge hsl (by omega)), q_offY hK htK hsK, Option.bind_some]
          rw [gcase_inr]
          rw [q_bndY hK hEK htK hsK, Option.bind_some]
          rw [gcase_inr]
          rw [c1, Option.bind_some, gcase_inr]
          refine Or.inr ⟨hsl, _, rfl, ?_, by rw [nI_1], hsl, fr_trans hFK c2⟩
          show (31 : Int64) * ((31 : Int64) * ((31 : Int64) * _ + (dOf K 37 t s).toInt64) + (vBd (vW K 37 k m) K 37 t s).toInt64) + ((vCal (vW K 37 k m) K 37 t s).1).toInt64 = _
          rw [show dOf K 37 t s = dOf M 37 t s from hdK.off (by omega) (by omega), vBd_same hdK h.2.1 hlt (by omega) (vW_sameC h hdK), vCal_same hdK h.2.1 (vW_sameC h hdK) hlt hsl]
          rfl
      obtain ⟨e2, c1, c2, c3⟩ := hL2
      rw [c1, Option.bind_some]
      refine Or.inr ⟨hlt, _, rfl, ?_, by rw [nI_1], hlt, c3⟩
      show e2.1 = _
      rw [c2, ← hv6]
      rfl
  obtain ⟨e, c1, c2, c3⟩ := hL
  rw [c1, Option.bind_some]
  exact ⟨e.2, by rw [c2], c3⟩
end PCS
