theorem t_L_margin {Z : gZ} {d mc ms : Nat} {Acc : Option Value → (Nat → Nat) → gT → gM → Prop} {AccX : Nat → (Nat → Nat) → gT → gM → Prop} {ad : Nat → Nat} {T : gT} {M : gM} {m_a0 m_a2 : Nat} {a0 : Nat} {i1 : Int32} {a2 : Nat} {o : Int32 × gM} (hFH : gFixH Z cL_margin RL "margin" (some .int) [(0, 9, 12, 19)] d mc ms Acc AccX) (hn : Z.2.2.2.2.2.1 = 4) (hd : 8 ≤ d) (hmc : 1 ≤ mc) (hms : 6 ≤ ms) (q0 : T[a0]? = some (8, m_a0)) (q2 : T[a2]? = some (12, m_a2)) (h : f_L_margin T M a0 i1 a2 = some o) (hR : Acc (some (.int o.1)) ad T o.2) : gG Z ad T M 0 0 0 [(0, .ref a0), (1, .int i1), (2, .ref a2)] [] := by
  have hF := hFH.fix
  unfold f_L_margin at h
  refine g_aload_n hF 2 rfl rfl dL_margin_0 ?_
  refine g_iconst (v := (0 : Int32)) hF rfl dL_margin_1 ?_
  refine g_aload_n hF 0 rfl rfl dL_margin_2 ?_
  refine g_iload_n hF 1 rfl rfl dL_margin_3 ?_
  obtain ⟨x1, h1, h⟩ := gbnd h
  rcases x1 with k1 | r1
  · replace h := gcase_l h
    by_cases e1_0 : k1 = 2
    · replace h := gif_t e1_0 h
      subst e1_0
      refine g_callVC hFH my_X8_margin kw_948 kw_949 kw_950 gC_8.1 (by decide) q0 (cx_X8_margin (d := d - 1) (by omega) q0 h1) (by omega) (by omega) (by omega) rfl rfl (Nat.le_of_ble_eq_true rfl) dL_margin_4 [] (0, 9, 12, 19) [] rfl (by decide) (by decide) (fun z hz => nomatch hz) kw_911 kn_562 (Or.inl ⟨⟨3, by decide⟩, dL_margin_12, rfl, rfl⟩) (by rw [hn]; decide) (ls' := [(0, .ref a0), (1, .int i1), (2, .ref a2)]) rfl ?_
      refine g_iconst (v := (1 : Int32)) hF rfl dL_margin_13 ?_
      cases h
      exact g_ret_i hF rfl rfl dL_margin_14 hR (by omega) (by omega)
    · replace h := gif_f e1_0 h
      cases h
  · replace h := gcase_r h
    refine g_callV hF my_X8_margin kw_948 kw_949 kw_950 gC_8.1 (by decide) q0 (c_X8_margin (d := d - 1) (by omega) q0 h1) (by omega) (by omega) (by omega) rfl rfl (Nat.le_of_ble_eq_true rfl) dL_margin_4 (g_sameS ?_)
    refine g_i2l hF dL_margin_7 ?_
    obtain ⟨M2, h2, h⟩ := gbnd h
    obtain ⟨i2h, e2v⟩ := astl_sp q2 h2
    refine g_last hF q2 i2h dL_margin_8 ?_
    rw [← e2v]
    refine g_goto (tgt := 15) hF dL_margin_9 (by decide) ?_
    refine g_iconst (v := (0 : Int32)) hF rfl dL_margin_15 ?_
    cases h
    exact g_ret_i hF rfl rfl dL_margin_16 hR (by omega) (by omega)
theorem c_L_margin {d : Nat} {T : gT} {M : gM} {m_a0 m_a2 : Nat} {a0 : Nat} {i1 : Int32} {a2 : Nat} {r : Int32 × gM} (hd : 8 ≤ d) (q0 : T[a0]? = some (8, m_a0)) (q2 : T[a2]? = some (12, m_a2)) (h : f_L_margin T M a0 i1 a2 = some (r)) : gRetH d yL_margin cL_margin 4 (some .int) [(0, 9, 12, 19)] 1 6 [.ref a0, .int i1, .ref a2] T M (gSame T (some (.int r.1)) r.2) := by
  refine gRetH_of (own := RL) (by decide) rfl (Nat.le_of_ble_eq_true rfl) (fun Z ad0 hn h0 hF => ?_)
  exact t_L_margin hF hn hd (Nat.le_refl _) (Nat.le_refl _) q0 q2 h ⟨rfl, rfl, rfl, rfl⟩
theorem t_L_binding {Z : gZ} {d mc ms : Nat} {Acc : Option Value → (Nat → Nat) → gT → gM → Prop} {AccX : Nat → (Nat → Nat) → gT → gM → Prop} {ad : Nat → Nat} {T : gT} {M : gM} {m_a0 m_a3 : Nat} {a0 : Nat} {i1 : Int32} {i2 : Int32} {a3 : Nat} {o : Int32 × gM} (hFH : gFixH Z cL_binding RL "binding" (some .int) [(0, 10, 13, 19)] d mc ms Acc AccX) (hn : Z.2.2.2.2.2.1 = 5) (hd : 8 ≤ d) (hmc : 1 ≤ mc) (hms : 6 ≤ ms) (q0 : T[a0]? = some (8, m_a0)) (q3 : T[a3]? = some (12, m_a3)) (h : f_L_binding T M a0 i1 i2 a3 = some o) (hR : Acc (some (.int o.1)) ad T o.2) : gG Z ad T M 0 0 0 [(0, .ref a0), (1, .int i1), (2, .int i2), (3, .ref a3)] [] := by
  have hF := hFH.fix
  unfold f_L_binding at h
  refine g_aload_n hF 3 rfl rfl dL_binding_0 ?_
  refine g_iconst (v := (0 : Int32)) hF rfl dL_binding_1 ?_
  refine g_aload_n hF 0 rfl rfl dL_binding_2 ?_
  refine g_iload_n hF 1 rfl rfl dL_binding_3 ?_
  refine g_iload_n hF 2 rfl rfl dL_binding_4 ?_
  obtain ⟨x1, h1, h⟩ := gbnd h
  rcases x1 with k1 | r1
  · replace h := gcase_l h
    by_cases e1_0 : k1 = 2
    · replace h := gif_t e1_0 h
      subst e1_0
      refine g_callVC hFH my_X8_binding kw_955 kw_654 kw_655 gC_8.1 (by decide) q0 (cx_X8_binding (d := d - 1) (by omega) q0 h1) (by omega) (by omega) (by omega) rfl rfl (Nat.le_of_ble_eq_true rfl) dL_binding_5 [] (0, 10, 13, 19) [] rfl (by decide) (by decide) (fun z hz => nomatch hz) kw_911 kn_562 (Or.inr ⟨dL_binding_13, rfl⟩) (by rw [hn]; decide) (ls' := [(0, .ref a0), (1, .int i1), (2, .int i2), (3, .ref a3)]) rfl ?_
      refine g_iconst (v := (1 : Int32)) hF rfl dL_binding_15 ?_
      cases h
      exact g_ret_i hF rfl rfl dL_binding_16 hR (by omega) (by omega)
    · replace h := gif_f e1_0 h
      cases h
  · replace h := gcase_r h
    refine g_callV hF my_X8_binding kw_955 kw_654 kw_655 gC_8.1 (by decide) q0 (c_X8_binding (d := d - 1) (by omega) q0 h1) (by omega) (by omega) (by omega) rfl rfl (Nat.le_of_ble_eq_true rfl) dL_binding_5 (g_sameS ?_)
    refine g_i2l hF dL_binding_8 ?_
    obtain ⟨M2, h2, h⟩ := gbnd h
    obtain ⟨i2h, e2v⟩ := astl_sp q3 h2
    refine g_last hF q3 i2h dL_binding_9 ?_
    rw [← e2v]
    refine g_goto (tgt := 17) hF dL_binding_10 (by decide) ?_
    refine g_iconst (v := (0 : Int32)) hF rfl dL_binding_17 ?_
    cases h
    exact g_ret_i hF rfl rfl dL_binding_18 hR (by omega) (by omega)
theorem c_L_binding {d : Nat} {T : gT} {M : gM} {m_a0 m_a3 : Nat} {a0 : Nat} {i1 : Int32} {i2 : Int32} {a3 : Nat} {r : Int32 × gM} (hd : 8 ≤ d) (q0 : T[a0]? = some (8, m_a0)) (q3 : T[a3]? = some (12, m_a3)) (h : f_L_binding T M a0 i1 i2 a3 = some (r)) : gRetH d yL_binding cL_binding 5 (some .int) [(0, 10, 13, 19)] 1 6 [.ref a0, .int i1, .int i2, .ref a3] T M (gSame T (some (.int r.1)) r.2) := by
  refine gRetH_of (own := RL) (by decide) rfl (Nat.le_of_ble_eq_true rfl) (fun Z ad0 hn h0 hF => ?_)
  exact t_L_binding hF hn hd (Nat.le_refl _) (Nat.le_refl _) q0 q3 h ⟨rfl, rfl, rfl, rfl⟩
theorem t_L_minority {Z : gZ} {d mc ms : Nat} {Acc : Option Value → (Nat → Nat) → gT → gM → Prop} {AccX : Nat → (Nat → Nat) → gT → gM → Prop} {ad : Nat → Nat} {T : gT} {M : gM} {m_a0 m_a2 : Nat} {a0 : Nat} {i1 : Int32} {a2 : Nat} {o : Int32 × gM} (hFH : gFixH Z cL_minority RL "minority" (some .int) [(0, 9, 12, 19)] d mc ms Acc AccX) (hn : Z.2.2.2.2.2.1 = 4) (hd : 8 ≤ d) (hmc : 1 ≤ mc) (hms : 6 ≤ ms) (q0 : T[a0]? = some (8, m_a0)) (q2 : T[a2]? = some (12, m_a2)) (h : f_L_minority T M a0 i1 a2 = some o) (hR : Acc (some (.int o.1)) ad T o.2) : gG Z ad T M 0 0 0 [(0, .ref a0), (1, .int i1), (2, .ref a2)] [] := by
  have hF := hFH.fix
  unfold f_L_minority at h
  refine g_aload_n hF 2 rfl rfl dL_minority_0 ?_
  refine g_iconst (v := (0 : Int32)) hF rfl dL_minority_1 ?_
  refine g_aload_n hF 0 rfl rfl dL_minority_2 ?_
  refine g_iload_n hF 1 rfl rfl dL_minority_3 ?_
  obtain ⟨x1, h1, h⟩ := gbnd h
  rcases x1 with k1 | r1
  · replace h := gcase_l h
    by_cases e1_0 : k1 = 2
    · replace h := gif_t e1_0 h
      subst e1_0
      refine g_callVC hFH my_X8_minority kw_959 kw_960 kw_961 gC_8.1 (by decide) q0 (cx_X8_minority (d := d - 1) (by omega) q0 h1) (by omega) (by omega) (by omega) rfl rfl (Nat.le_of_ble_eq_true rfl) dL_minority_4 [] (0, 9, 12, 19) [] rfl (by decide) (by decide) (fun z hz => nomatch hz) kw_911 kn_562 (Or.inl ⟨⟨3, by decide⟩, dL_minority_12, rfl, rfl⟩) (by rw [hn]; decide) (ls' := [(0, .ref a0), (1, .int i1), (2, .ref a2)]) rfl ?_
      refine g_iconst (v := (1 : Int32)) hF rfl dL_minority_13 ?_
      cases h
      exact g_ret_i hF rfl rfl dL_minority_14 hR (by omega) (by omega)
    · replace h := gif_f e1_0 h
      cases h
  · replace h := gcase_r h
    refine g_callV hF my_X8_minority kw_959 kw_960 kw_961 gC_8.1 (by decide) q0 (c_X8_minority (d := d - 1) (by omega) q0 h1) (by omega) (by omega) (by omega) rfl rfl (Nat.le_of_ble_eq_true rfl) dL_minority_4 (g_sameS ?_)
    refine g_i2l hF dL_minority_7 ?_
    obtain ⟨M2, h2, h⟩ := gbnd h
    obtain ⟨i2h, e2v⟩ := astl_sp q2 h2
    refine g_last hF q2 i2h dL_minority_8 ?_
    rw [← e2v]
    refine g_goto (tgt := 15) hF dL_minority_9 (by decide) ?_
    refine g_iconst (v := (0 : Int32)) hF rfl dL_minority_15 ?_
    cases h
    exact g_ret_i hF rfl rfl dL_minority_16 hR (by omega) (by omega)
theorem c_L_minority {d : Nat} {T : gT} {M : gM} {m_a0 m_a2 : Nat} {a0 : Nat} {i1 : Int32} {a2 : Nat} {r : Int32 × gM} (hd : 8 ≤ d) (q0 : T[a0]? = some (8, m_a0)) (q2 : T[a2]? = some (12, m_a2)) (h : f_L_minority T M a0 i1 a2 = some (r)) : gRetH d yL_minority cL_minority 4 (some .int) [(0, 9, 12, 19)] 1 6 [.ref a0, .int i1, .ref a2] T M (gSame T (some (.int r.1)) r.2) := by
  refine gRetH_of (own := RL) (by decide) rfl (Nat.le_of_ble_eq_true rfl) (fun Z ad0 hn h0 hF => ?_)
  exact t_L_minority hF hn hd (Nat.le_refl _) (Nat.le_refl _) q0 q2 h ⟨rfl, rfl, rfl, rfl⟩
theorem t_L_call {Z : gZ} {d mc ms : Nat} {Acc : Option Value → (Nat → Nat) → gT → gM → Prop} {AccX : Nat → (Nat → Nat) → gT → gM → Prop} {ad : Nat → Nat} {T : gT} {M : gM} {m_a0 m_a3 : Nat} {a0 : Nat} {i1 : Int32} {i2 : Int32} {a3 : Nat} {o : Int32 × gM} (hFH : gFixH Z cL_call RL "call" (some .int) [(0, 10, 13, 19)] d mc ms Acc AccX) (hn : Z.2.2.2.2.2.1 = 5) (hd : 8 ≤ d) (hmc : 1 ≤ mc) (hms : 6 ≤ ms) (q0 : T[a0]? = some (8, m_a0)) (q3 : T[a3]? = some (12, m_a3)) (h : f_L_call T M a0 i1 i2 a3 = some o) (hR : Acc (some (.int o.1)) ad T o.2) : gG Z ad T M 0 0 0 [(0, .ref a0), (1, .int i1), (2, .int i2), (3, .ref a3)] [] := by
  have hF := hFH.fix
  unfold f_L_call at h
  refine g_aload_n hF 3 rfl rfl dL_call_0 ?_
  refine g_iconst (v := (0 : Int32)) hF rfl dL_call_1 ?_
  refine g_aload_n hF 0 rfl rfl dL_call_2 ?_
  refine g_iload_n hF 1 rfl rfl dL_call_3 ?_
  refine g_iload_n hF 2 rfl rfl dL_call_4 ?_
  obtain ⟨x1, h1, h⟩ := gbnd h
  rcases x1 with k1 | r1
  · replace h := gcase_l h
    by_cases e1_0 : k1 = 2
    · replace h := gif_t e1_0 h
      subst e1_0
      refine g_callVC hFH my_X8_call kw_967 kw_659 kw_660 gC_8.1 (by decide) q0 (cx_X8_call (d := d - 1) (by omega) q0 h1) (by omega) (by omega) (by omega) rfl rfl (Nat.le_of_ble_eq_true rfl) dL_call_5 [] (0, 10, 13, 19) [] rfl (by decide) (by decide) (fun z hz => nomatch hz) kw_911 kn_562 (Or.inr ⟨dL_call_13, rfl⟩) (by rw [hn]; decide) (ls' := [(0, .ref a0), (1, .int i1), (2, .int i2), (3, .ref a3)]) rfl ?_
      refine g_iconst (v := (1 : Int32)) hF rfl dL_call_15 ?_
      cases h
      exact g_ret_i hF rfl rfl dL_call_16 hR (by omega) (by omega)
    · replace h := gif_f e1_0 h
      cases h
  · replace h := gcase_r h
    refine g_callV hF my_X8_call kw_967 kw_659 kw_660 gC_8.1 (by decide) q0 (c_X8_call (d := d - 1) (by omega) q0 h1) (by omega) (by omega) (by omega) rfl rfl (Nat.le_of_ble_eq_true rfl) dL_call_5 (g_sameS ?_)
    refine g_i2l hF dL_call_8 ?_
    obtain ⟨M2, h2, h⟩ := gbnd h
    obtain ⟨i2h, e2v⟩ := astl_sp q3 h2
    refine g_last hF q3 i2h dL_call_9 ?_
    rw [← e2v]
    refine g_goto (tgt := 17) hF dL_call_10 (by decide) ?_
    refine g_iconst (v := (0 : Int32)) hF rfl dL_call_17 ?_
    cases h
    exact g_ret_i hF rfl rfl dL_call_18 hR (by omega) (by omega)
theorem c_L_call {d : Nat} {T : gT} {M : gM} {m_a0 m_a3 : Nat} {a0 : Nat} {i1 : Int32} {i2 : Int32} {a3 : Nat} {r : Int32 × gM} (hd : 8 ≤ d) (q0 : T[a0]? = some (8, m_a0)) (q3 : T[a3]? = some (12, m_a3)) (h : f_L_call T M a0 i1 i2 a3 = some (r)) : gRetH d yL_call cL_call 5 (some .int) [(0, 10, 13, 19)] 1 6 [.ref a0, .int i1, .int i2, .ref a3] T M (gSame T (some (.int r.1)) r.2) := by
  refine gRetH_of (own := RL) (by decide) rfl (Nat.le_of_ble_eq_true rfl) (fun Z ad0 hn h0 hF => ?_)
  exact t_L_call hF hn hd (Nat.le_refl _) (Nat.le_refl _) q0 q3 h ⟨rfl, rfl, rfl, rfl⟩
theorem t_L_steps {Z : gZ} {d mc ms : Nat} {Acc : Option Value → (Nat → Nat) → gT → gM → Prop} {AccX : Nat → (Nat → Nat) → gT → gM → Prop} {ad : Nat → Nat} {T : gT} {M : gM} {m_a0 m_a3 : Nat} {a0 : Nat} {i1 : Int32} {i2 : Int32} {a3 : Nat} {o : Int32 × gM} (hFH : gFixH Z cL_steps RL "steps" (some .int) [(0, 10, 13, 19)] d mc ms Acc AccX) (hn : Z.2.2.2.2.2.1 = 5) (hd : 8 ≤ d) (hmc : 1 ≤ mc) (hms : 6 ≤ ms) (q0 : T[a0]? = some (8, m_a0)) (q3 : T[a3]? = some (12, m_a3)) (h : f_L_steps T M a0 i1 i2 a3 = some o) (hR : Acc (some (.int o.1)) ad T o.2) : gG Z ad T M 0 0 0 [(0, .ref a0), (1, .int i1), (2, .int i2), (3, .ref a3)] [] := by
  have hF := hFH.fix
  unfold f_L_steps at h
  refine g_aload_n hF 3 rfl rfl dL_steps_0 ?_
  refine g_iconst (v := (0 : Int32)) hF rfl dL_steps_1 ?_
  refine g_aload_n hF 0 rfl rfl dL_steps_2 ?_
  refine g_iload_n hF 1 rfl rfl dL_steps_3 ?_
  refine g_iload_n hF 2 rfl rfl dL_steps_4 ?_
  obtain ⟨x1, h1, h⟩ := gbnd h
  rcases x1 with k1 | r1
  · replace h := gcase_l h
    by_cases e1_0 : k1 = 2
    · replace h := gif_t e1_0 h
      subst e1_0
      refine g_callVC hFH my_X8_steps kw_971 kw_972 kw_973 gC_8.1 (by decide) q0 (cx_X8_steps (d := d - 1) (by omega) q0 h1) (by omega) (by omega) (by omega) rfl rfl (Nat.le_of_ble_eq_true rfl) dL_steps_5 [] (0, 10, 13, 19) [] rfl (by decide) (by decide) (fun z hz => nomatch hz) kw_911 kn_562 (Or.inr ⟨dL_steps_13, rfl⟩) (by rw [hn]; decide) (ls' := [(0, .ref a0), (1, .int i1), (2, .int i2), (3, .ref a3)]) rfl ?_
      refine g_iconst (v := (1 : Int32)) hF rfl dL_steps_15 ?_
      cases h
      exact g_ret_i hF rfl rfl dL_steps_16 hR (by omega) (by omega)
    · replace h := gif_f e1_0 h
      cases h
  · replace h := gcase_r h
    refine g_callV hF my_X8_steps kw_971 kw_972 kw_973 gC_8.1 (by decide) q0 (c_X8_steps (d := d - 1) (by omega) q0 h1) (by omega) (by omega) (by omega) rfl rfl (Nat.le_of_ble_eq_true rfl) dL_steps_5 (g_sameS ?_)
    refine g_i2l hF dL_steps_8 ?_
    obtain ⟨M2, h2, h⟩ := gbnd h
    obtain ⟨i2h, e2v⟩ := astl_sp q3 h2
    refine g_last hF q3 i2h dL_steps_9 ?_
    rw [← e2v]
    refine g_goto (tgt := 17) hF dL_steps_10 (by decide) ?_
    refine g_iconst (v := (0 : Int32)) hF rfl dL_steps_17 ?_
    cases h
    exact g_ret_i hF rfl rfl dL_steps_18 hR (by omega) (by omega)
theorem c_L_steps {d : Nat} {T : gT} {M : gM} {m_a0 m_a3 : Nat} {a0 : Nat} {i1 : Int32} {i2 : Int32} {a3 : Nat} {r : Int32 × gM} (hd : 8 ≤ d) (q0 : T[a0]? = some (8, m_a0)) (q3 : T[a3]? = some (12, m_a3)) (h : f_L_steps T M a0 i1 i2 a3 = some (r)) : gRetH d yL_steps cL_steps 5 (some .int) [(0, 10, 13, 19)] 1 6 [.ref a0, .int i1, .int i2, .ref a3] T M (gSame T (some (.int r.1)) r.2) := by
  refine gRetH_of (own := RL) (by decide) rfl (Nat.le_of_ble_eq_true rfl) (fun Z ad0 hn h0 hF => ?_)
  exact t_L_steps hF hn hd (Nat.le_refl _) (Nat.le_refl _) q0 q3 h ⟨rfl, rfl, rfl, rfl⟩
theorem t_L_users {Z : gZ} {d mc ms : Nat} {Acc : Option Value → (Nat → Nat) → gT → gM → Prop} {AccX : Nat → (Nat → Nat) → gT → gM → Prop} {ad : Nat → Nat} {T : gT} {M : gM} {m_a0 m_a3 : Nat} {a0 : Nat} {i1 : Int32} {i2 : Int32} {a3 : Nat} {o : Int32 × gM} (hFH : gFixH Z cL_users RL "users" (some .int) [(0, 10, 13, 19)] d mc ms Acc AccX) (hn : Z.2.2.2.2.2.1 = 5) (hd : 8 ≤ d) (hmc : 1 ≤ mc) (hms : 6 ≤ ms) (q0 : T[a0]? = some (8, m_a0)) (q3 : T[a3]? = some (12, m_a3)) (h : f_L_users T M a0 i1 i2 a3 = some o) (hR : Acc (some (.int o.1)) ad T o.2) : gG Z ad T M 0 0 0 [(0, .ref a0), (1, .int i1), (2, .int i2), (3, .ref a3)] [] := by
  have hF := hFH.fix
  unfold f_L_users at h
  refine g_aload_n hF 3 rfl rfl dL_users_0 ?_
  refine g_iconst (v := (0 : Int32)) hF rfl dL_users_1 ?_
  refine g_aload_n hF 0 rfl rfl dL_users_2 ?_
  refine g_iload_n hF 1 rfl rfl dL_users_3 ?_
  refine g_iload_n hF 2 rfl rfl dL_users_4 ?_
  obtain ⟨x1, h1, h⟩ := gbnd h
  rcases x1 with k1 | r1
  · replace h := gcase_l h
    by_cases e1_0 : k1 = 2
    · replace h := gif_t e1_0 h
      subst e1_0
      refine g_callVC hFH my_X8_users kw_978 kw_979 kw_980 gC_8.1 (by decide) q0 (cx_X8_users (d := d - 1) (by omega) q0 h1) (by omega) (by omega) (by omega) rfl rfl (Nat.le_of_ble_eq_true rfl) dL_users_5 [] (0, 10, 13, 19) [] rfl (by decide) (by decide) (fun z hz => nomatch hz) kw_911 kn_562 (Or.inr ⟨dL_users_13, rfl⟩) (by rw [hn]; decide) (ls' := [(0, .ref a0), (1, .int i1), (2, .int i2), (3, .ref a3)]) rfl ?_
      refine g_iconst (v := (1 : Int32)) hF rfl dL_users_15 ?_
      cases h
      exact g_ret_i hF rfl rfl dL_users_16 hR (by omega) (by omega)
    · replace h := gif_f e1_0 h
      cases h
  · replace h := gcase_r h
    refine g_callV hF my_X8_users kw_978 kw_979 kw_980 gC_8.1 (by decide) q0 (c_X8_users (d := d - 1) (by omega) q0 h1) (by omega) (by omega) (by omega) rfl rfl (Nat.le_of_ble_eq_true rfl) dL_users_5 (g_sameS ?_)
    refine g_i2l hF dL_users_8 ?_
    obtain ⟨M2, h2, h⟩ := gbnd h
    obtain ⟨i2h, e2v⟩ := astl_sp q3 h2
    refine g_last hF q3 i2h dL_users_9 ?_
    rw [← e2v]
    refine g_goto (tgt := 17) hF dL_users_10 (by decide) ?_
    refine g_iconst (v := (0 : Int32)) hF rfl dL_users_17 ?_
    cases h
    exact g_ret_i hF rfl rfl dL_users_18 hR (by omega) (by omega)
theorem c_L_users {d : Nat} {T : gT} {M : gM} {m_a0 m_a3 : Nat} {a0 : Nat} {i1 : Int32} {i2 : Int32} {a3 : Nat} {r : Int32 × gM} (hd : 8 ≤ d) (q0 : T[a0]? = some (8, m_a0)) (q3 : T[a3]? = some (12, m_a3)) (h : f_L_users T M a0 i1 i2 a3 = some (r)) : gRetH d yL_users cL_users 5 (some .int) [(0, 10, 13, 19)] 1 6 [.ref a0, .int i1, .int i2, .ref a3] T M (gSame T (some (.int r.1)) r.2) := by
  refine gRetH_of (own := RL) (by decide) rfl (Nat.le_of_ble_eq_true rfl) (fun Z ad0 hn h0 hF => ?_)
  exact t_L_users hF hn hd (Nat.le_refl _) (Nat.le_refl _) q0 q3 h ⟨rfl, rfl, rfl, rfl⟩
theorem t_L_unload {Z : gZ} {d mc ms : Nat} {Acc : Option Value → (Nat → Nat) → gT → gM → Prop} {AccX : Nat → (Nat → Nat) → gT → gM → Prop} {ad : Nat → Nat} {T : gT} {M : gM} {m_a0 m_a2 : Nat} {a0 : Nat} {i1 : Int32} {a2 : Nat} {o : Int32 × gM} (hFH : gFixH Z cL_unload RL "unload" (some .int) [(0, 9, 12, 19), (0, 9, 15, 57)] d mc ms Acc AccX) (hn : Z.2.2.2.2.2.1 = 4) (hd : 8 ≤ d) (hmc : 1 ≤ mc) (hms : 6 ≤ ms) (q0 : T[a0]? = some (8, m_a0)) (q2 : T[a2]? = some (12, m_a2)) (h : f_L_unload T M a0 i1 a2 = some o) (hR : Acc (some (.int o.1)) ad T o.2) : gG Z ad T M 0 0 0 [(0, .ref a0), (1, .int i1), (2, .ref a2)] [] := by
  have hF := hFH.fix
  unfold f_L_unload at h
  refine g_aload_n hF 2 rfl rfl dL_unload_0 ?_
  refine g_iconst (v := (0 : Int32)) hF rfl dL_unload_1 ?_
  refine g_aload_n hF 0 rfl rfl dL_unload_2 ?_
  refine g_iload_n hF 1 rfl rfl dL_unload_3 ?_
  obtain ⟨x1, h1, h⟩ := gbnd h
  rcases x1 with k1 | r1
  · replace h := gcase_l h
    by_cases e1_0 : k1 = 2
    · replace h := gif_t e1_0 h
      subst e1_0
      refine g_callVC hFH my_X8_unload kw_986 kw_987 kw_988 gC_8.1 (by decide) q0 (cx_X8_unload (d := d - 1) (by omega) q0 h1) (by omega) (by omega) (by omega) rfl rfl (Nat.le_of_ble_eq_true rfl) dL_unload_4 [] (0, 9, 12, 19) [(0, 9, 15, 57)] rfl (by decide) (by decide) (fun z hz => nomatch hz) kw_911 kn_562 (Or.inl ⟨⟨3, by decide⟩, dL_unload_12, rfl, rfl⟩) (by rw [hn]; decide) (ls' := [(0, .ref a0), (1, .int i1), (2, .ref a2)]) rfl ?_
      refine g_iconst (v := (1 : Int32)) hF rfl dL_unload_13 ?_
      cases h
      exact g_ret_i hF rfl rfl dL_unload_14 hR (by omega) (by omega)
    · replace h := gif_f e1_0 h
      by_cases e1_1 : k1 = 3
      · replace h := gif_t e1_1 h
        subst e1_1
        refine g_callVC hFH my_X8_unload kw_986 kw_987 kw_988 gC_8.1 (by decide) q0 (cx_X8_unload (d := d - 1) (by omega) q0 h1) (by omega) (by omega) (by omega) rfl rfl (Nat.le_of_ble_eq_true rfl) dL_unload_4 [(0, 9, 12, 19)] (0, 9, 15, 57) [] rfl (by decide) (by decide) (fun z hz => by rcases List.mem_singleton.mp hz with rfl; exact ⟨by decide, _, kw_911, by decide⟩) kw_985 kn_992 (Or.inl ⟨⟨3, by decide⟩, dL_unload_15, rfl, rfl⟩) (by rw [hn]; decide) (ls' := [(0, .ref a0), (1, .int i1), (2, .ref a2)]) rfl ?_
        refine g_iconst (v := (2 : Int32)) hF rfl dL_unload_16 ?_
        cases h
        exact g_ret_i hF rfl rfl dL_unload_17 hR (by omega) (by omega)
      · replace h := gif_f e1_1 h
        cases h
  · replace h := gcase_r h
    refine g_callV hF my_X8_unload kw_986 kw_987 kw_988 gC_8.1 (by decide) q0 (c_X8_unload (d := d - 1) (by omega) q0 h1) (by omega) (by omega) (by omega) rfl rfl (Nat.le_of_ble_eq_true rfl) dL_unload_4 (g_sameS ?_)
    refine g_i2l hF dL_unload_7 ?_
    obtain ⟨M2, h2, h⟩ := gbnd h
    obtain ⟨i2h, e2v⟩ := astl_sp q2 h2
    refine g_last hF q2 i2h dL_unload_8 ?_
    rw [← e2v]
    refine g_goto (tgt := 18) hF dL_unload_9 (by decide) ?_
    refine g_iconst (v := (0 : Int32)) hF rfl dL_unload_18 ?_
    cases h
    exact g_ret_i hF rfl rfl dL_unload_19 hR (by omega) (by omega)
theorem c_L_unload {d : Nat} {T : gT} {M : gM} {m_a0 m_a2 : Nat} {a0 : Nat} {i1 : Int32} {a2 : Nat} {r : Int32 × gM} (hd : 8 ≤ d) (q0 : T[a0]? = some (8, m_a0)) (q2 : T[a2]? = some (12, m_a2)) (h : f_L_unload T M a0 i1 a2 = some (r)) : gRetH d yL_unload cL_unload 4 (some .int) [(0, 9, 12, 19), (0, 9, 15, 57)] 1 6 [.ref a0, .int i1, .ref a2] T M (gSame T (some (.int r.1)) r.2) := by
  refine gRetH_of (own := RL) (by decide) rfl (Nat.le_of_ble_eq_true rfl) (fun Z ad0 hn h0 hF => ?_)
  exact t_L_unload hF hn hd (Nat.le_refl _) (Nat.le_refl _) q0 q2 h ⟨rfl, rfl, rfl, rfl⟩
theorem t_L_reload {Z : gZ} {d mc ms : Nat} {Acc : Option Value → (Nat → Nat) → gT → gM → Prop} {AccX : Nat → (Nat → Nat) → gT → gM → Prop} {ad : Nat → Nat} {T : gT} {M : gM} {m_a0 m_a2 : Nat} {a0 : Nat} {i1 : Int32} {a2 : Nat} {o : Int32 × gM} (hFH : gFixH Z cL_reload RL "reload" (some .int) [(0, 9, 12, 19), (0, 9, 15, 57)] d mc ms Acc AccX) (hn : Z.2.2.2.2.2.1 = 4) (hd : 8 ≤ d) (hmc : 1 ≤ mc) (hms : 6 ≤ ms) (q0 : T[a0]? = some (8, m_a0)) (q2 : T[a2]? = some (12, m_a2)) (h : f_L_reload T M a0 i1 a2 = some o) (hR : Acc (some (.int o.1)) ad T o.2) : gG Z ad T M 0 0 0 [(0, .ref a0), (1, .int i1), (2, .ref a2)] [] := by
  have hF := hFH.fix
  unfold f_L_reload at h
  refine g_aload_n hF 2 rfl rfl dL_reload_0 ?_
  refine g_iconst (v := (0 : Int32)) hF rfl dL_reload_1 ?_
  refine g_aload_n hF 0 rfl rfl dL_reload_2 ?_
  refine g_iload_n hF 1 rfl rfl dL_reload_3 ?_
  obtain ⟨x1, h1, h⟩ := gbnd h
  rcases x1 with k1 | r1
  · replace h := gcase_l h
    by_cases e1_0 : k1 = 2
    · replace h := gif_t e1_0 h
      subst e1_0
      refine g_callVC hFH my_X8_reload kw_1021 kw_1022 kw_1023 gC_8.1 (by decide) q0 (cx_X8_reload (d := d - 1) (by omega) q0 h1) (by omega) (by omega) (by omega) rfl rfl (Nat.le_of_ble_eq_true rfl) dL_reload_4 [] (0, 9, 12, 19) [(0, 9, 15, 57)] rfl (by decide) (by decide) (fun z hz => nomatch hz) kw_911 kn_562 (Or.inl ⟨⟨3, by decide⟩, dL_reload_12, rfl, rfl⟩) (by rw [hn]; decide) (ls' := [(0, .ref a0), (1, .int i1), (2, .ref a2)]) rfl ?_
      refine g_iconst (v := (1 : Int32)) hF rfl dL_reload_13 ?_
      cases h
      exact g_ret_i hF rfl rfl dL_reload_14 hR (by omega) (by omega)
    · replace h := gif_f e1_0 h
      by_cases e1_1 : k1 = 3
      · replace h := gif_t e1_1 h
        subst e1_1
        refine g_callVC hFH my_X8_reload kw_1021 kw_1022 kw_1023 gC_8.1 (by decide) q0 (cx_X8_reload (d := d - 1) (by omega) q0 h1) (by omega) (by omega) (by omega) rfl rfl (Nat.le_of_ble_eq_true rfl) dL_reload_4 [(0, 9, 12, 19)] (0, 9, 15, 57) [] rfl (by decide) (by decide) (fun z hz => by rcases List.mem_singleton.mp hz with rfl; exact ⟨by decide, _, kw_911, by decide⟩) kw_985 kn_992 (Or.inl ⟨⟨3, by decide⟩, dL_reload_15, rfl, rfl⟩) (by rw [hn]; decide) (ls' := [(0, .ref a0), (1, .int i1), (2, .ref a2)]) rfl ?_
        refine g_iconst (v := (2 : Int32)) hF rfl dL_reload_16 ?_
        cases h
        exact g_ret_i hF rfl rfl dL_reload_17 hR (by omega) (by omega)
      · replace h := gif_f e1_1 h
        cases h
  · replace h := gcase_r h
    refine g_callV hF my_X8_reload kw_1021 kw_1022 kw_1023 gC_8.1 (by decide) q0 (c_X8_reload (d := d - 1) (by omega) q0 h1) (by omega) (by omega) (by omega) rfl rfl (Nat.le_of_ble_eq_true rfl) dL_reload_4 (g_sameS ?_)
    refine g_i2l hF dL_reload_7 ?_
    obtain ⟨M2, h2, h⟩ := gbnd h
    obtain ⟨i2h, e2v⟩ := astl_sp q2 h2
    refine g_last hF q2 i2h dL_reload_8 ?_
    rw [← e2v]
    refine g_goto (tgt := 18) hF dL_reload_9 (by decide) ?_
    refine g_iconst (v := (0 : Int32)) hF rfl dL_reload_18 ?_
    cases h
    exact g_ret_i hF rfl rfl dL_reload_19 hR (by omega) (by omega)
theorem c_L_reload {d : Nat} {T : gT} {M : gM} {m_a0 m_a2 : Nat} {a0 : Nat} {i1 : Int32} {a2 : Nat} {r : Int32 × gM} (hd : 8 ≤ d) (q0 : T[a0]? = some (8, m_a0)) (q2 : T[a2]? = some (12, m_a2)) (h : f_L_reload T M a0 i1 a2 = some (r)) : gRetH d yL_reload cL_reload 4 (some .int) [(0, 9, 12, 19), (0, 9, 15, 57)] 1 6 [.ref a0, .int i1, .ref a2] T M (gSame T (some (.int r.1)) r.2) := by
  refine gRetH_of (own := RL) (by decide) rfl (Nat.le_of_ble_eq_true rfl) (fun Z ad0 hn h0 hF => ?_)
  exact t_L_reload hF hn hd (Nat.le_refl _) (Nat.le_refl _) q0 q2 h ⟨rfl, rfl, rfl, rfl⟩
theorem t_L_offerValue {Z : gZ} {d mc ms : Nat} {Acc : Option Value → (Nat → Nat) → gT → gM → Prop} {AccX : Nat → (Nat → Nat) → gT → gM → Prop} {ad : Nat → Nat} {T : gT} {M : gM} {m_a0 m_a4 : Nat} {a0 : Nat} {i1 : Int32} {i2 : Int32} {i3 : Int32} {a4 : Nat} {o : Int32 × gM} (hFH : gFixH Z cL_offerValue RL "offerValue" (some .int) [(0, 12, 15, 19), (0, 12, 19, 13)] d mc ms Acc AccX) (hn : Z.2.2.2.2.2.1 = 6) (hd : 8 ≤ d) (hmc : 1 ≤ mc) (hms : 6 ≤ ms) (q0 : T[a0]? = some (8, m_a0)) (q4 : T[a4]? = some (12, m_a4)) (h : f_L_offerValue T M a0 i1 i2 i3 a4 = some o) (hR : Acc (some (.int o.1)) ad T o.2) : gG Z ad T M 0 0 0 [(0, .ref a0), (1, .int i1), (2, .int i2), (3, .int i3), (4, .ref a4)] [] := by
  have hF := hFH.fix
  unfold f_L_offerValue at h
  refine g_aload hF 4 rfl dL_offerValue_0 ?_
  refine g_iconst (v := (0 : Int32)) hF rfl dL_offerValue_2 ?_
  refine g_aload_n hF 0 rfl rfl dL_offerValue_3 ?_
  refine g_iload_n hF 1 rfl rfl dL_offerValue_4 ?_
  refine g_iload_n hF 2 rfl rfl dL_offerValue_5 ?_
  refine g_iload_n hF 3 rfl rfl dL_offerValue_6 ?_
  obtain ⟨x1, h1, h⟩ := gbnd h
  rcases x1 with k1 | r1
  · replace h := gcase_l h
    by_cases e1_0 : k1 = 2
    · replace h := gif_t e1_0 h
      subst e1_0
      refine g_callVC hFH my_X8_offerValue kw_1033 kw_1034 kw_1035 gC_8.1 (by decide) q0 (cx_X8_offerValue (d := d - 1) (by omega) q0 h1) (by omega) (by omega) (by omega) rfl rfl (Nat.le_of_ble_eq_true rfl) dL_offerValue_7 [] (0, 12, 15, 19) [(0, 12, 19, 13)] rfl (by decide) (by decide) (fun z hz => nomatch hz) kw_911 kn_562 (Or.inr ⟨dL_offerValue_15, rfl⟩) (by rw [hn]; decide) (ls' := [(0, .ref a0), (1, .int i1), (2, .int i2), (3, .int i3), (4, .ref a4)]) rfl ?_
      refine g_iconst (v := (1 : Int32)) hF rfl dL_offerValue_17 ?_
      cases h
      exact g_ret_i hF rfl rfl dL_offerValue_18 hR (by omega) (by omega)
    · replace h := gif_f e1_0 h
      by_cases e1_1 : k1 = 1
      · replace h := gif_t e1_1 h
        subst e1_1
        refine g_callVC hFH my_X8_offerValue kw_1033 kw_1034 kw_1035 gC_8.1 (by decide) q0 (cx_X8_offerValue (d := d - 1) (by omega) q0 h1) (by omega) (by omega) (by omega) rfl rfl (Nat.le_of_ble_eq_true rfl) dL_offerValue_7 [(0, 12, 15, 19)] (0, 12, 19, 13) [] rfl (by decide) (by decide) (fun z hz => by rcases List.mem_singleton.mp hz with rfl; exact ⟨by decide, _, kw_911, by decide⟩) kw_673 kn_630 (Or.inr ⟨dL_offerValue_19, rfl⟩) (by rw [hn]; decide) (ls' := [(0, .ref a0), (1, .int i1), (2, .int i2), (3, .int i3), (4, .ref a4)]) rfl ?_
        refine g_iconst (v := (2 : Int32)) hF rfl dL_offerValue_21 ?_
        cases h
        exact g_ret_i hF rfl rfl dL_offerValue_22 hR (by omega) (by omega)
      · replace h := gif_f e1_1 h
        cases h
  · replace h := gcase_r h
    refine g_callV hF my_X8_offerValue kw_1033 kw_1034 kw_1035 gC_8.1 (by decide) q0 (c_X8_offerValue (d := d - 1) (by omega) q0 h1) (by omega) (by omega) (by omega) rfl rfl (Nat.le_of_ble_eq_true rfl) dL_offerValue_7 (g_sameS ?_)
    refine g_i2l hF dL_offerValue_10 ?_
    obtain ⟨M2, h2, h⟩ := gbnd h
    obtain ⟨i2h, e2v⟩ := astl_sp q4 h2
    refine g_last hF q4 i2h dL_offerValue_11 ?_
    rw [← e2v]
    refine g_goto (tgt := 23) hF dL_offerValue_12 (by decide) ?_
    refine g_iconst (v := (0 : Int32)) hF rfl dL_offerValue_23 ?_
    cases h
    exact g_ret_i hF rfl rfl dL_offerValue_24 hR (by omega) (by omega)
theorem c_L_offerValue {d : Nat} {T : gT} {M : gM} {m_a0 m_a4 : Nat} {a0 : Nat} {i1 : Int32} {i2 : Int32} {i3 : Int32} {a4 : Nat} {r : Int32 × gM} (hd : 8 ≤ d) (q0 : T[a0]? = some (8, m_a0)) (q4 : T[a4]? = some (12, m_a4)) (h : f_L_offerValue T M a0 i1 i2 i3 a4 = some (r)) : gRetH d yL_offerValue cL_offerValue 6 (some .int) [(0, 12, 15, 19), (0, 12, 19, 13)] 1 6 [.ref a0, .int i1, .int i2, .int i3, .ref a4] T M (gSame T (some (.int r.1)) r.2) := by
  refine gRetH_of (own := RL) (by decide) rfl (Nat.le_of_ble_eq_true rfl) (fun Z ad0 hn h0 hF => ?_)
  exact t_L_offerValue hF hn hd (Nat.le_refl _) (Nat.le_refl _) q0 q4 h ⟨rfl, rfl, rfl, rfl⟩
theorem t_L_offerForward {Z : gZ} {d mc ms : Nat} {Acc : Option Value → (Nat → Nat) → gT → gM → Prop} {AccX : Nat → (Nat → Nat) → gT → gM → Prop} {ad : Nat → Nat} {T : gT} {M : gM} {m_a0 m_a4 : Nat} {a0 : Nat} {i1 : Int32} {i2 : Int32} {i3 : Int32} {a4 : Nat} {o : Int32 × gM} (hFH : gFixH Z cL_offerForward RL "offerForward" (some .int) [(0, 12, 15, 19)] d mc ms Acc AccX) (hn : Z.2.2.2.2.2.1 = 6) (hd : 8 ≤ d) (hmc : 1 ≤ mc) (hms : 6 ≤ ms) (q0 : T[a0]? = some (8, m_a0)) (q4 : T[a4]? = some (12, m_a4)) (h : f_L_offerForward T M a0 i1 i2 i3 a4 = some o) (hR : Acc (some (.int o.1)) ad T o.2) : gG Z ad T M 0 0 0 [(0, .ref a0), (1, .int i1), (2, .int i2), (3, .int i3), (4, .ref a4)] [] := by
  have hF := hFH.fix
  unfold f_L_offerForward at h
  refine g_aload hF 4 rfl dL_offerForward_0 ?_
  refine g_iconst (v := (0 : Int32)) hF rfl dL_offerForward_2 ?_
  refine g_aload_n hF 0 rfl rfl dL_offerForward_3 ?_
  refine g_iload_n hF 1 rfl rfl dL_offerForward_4 ?_
  refine g_iload_n hF 2 rfl rfl dL_offerForward_5 ?_
  refine g_iload_n hF 3 rfl rfl dL_offerForward_6 ?_
  obtain ⟨x1, h1, h⟩ := gbnd h
  rcases x1 with k1 | r1
  · replace h := gcase_l h
    by_cases e1_0 : k1 = 2
    · replace h := gif_t e1_0 h
      subst e1_0
      refine g_callVC hFH my_X8_offerForward kw_1045 kw_1046 kw_1047 gC_8.1 (by decide) q0 (cx_X8_offerForward (d := d - 1) (by omega) q0 h1) (by omega) (by omega) (by omega) rfl rfl (Nat.le_of_ble_eq_true rfl) dL_offerForward_7 [] (0, 12, 15, 19) [] rfl (by decide) (by decide) (fun z hz => nomatch hz) kw_911 kn_562 (Or.inr ⟨dL_offerForward_15, rfl⟩) (by rw [hn]; decide) (ls' := [(0, .ref a0), (1, .int i1), (2, .int i2), (3, .int i3), (4, .ref a4)]) rfl ?_
      refine g_iconst (v := (1 : Int32)) hF rfl dL_offerForward_17 ?_
      cases h
      exact g_ret_i hF rfl rfl dL_offerForward_18 hR (by omega) (by omega)
    · replace h := gif_f e1_0 h
      cases h
  · replace h := gcase_r h
    refine g_callV hF my_X8_offerForward kw_1045 kw_1046 kw_1047 gC_8.1 (by decide) q0 (c_X8_offerForward (d := d - 1) (by omega) q0 h1) (by omega) (by omega) (by omega) rfl rfl (Nat.le_of_ble_eq_true rfl) dL_offerForward_7 (g_sameS ?_)
    refine g_i2l hF dL_offerForward_10 ?_
    obtain ⟨M2, h2, h⟩ := gbnd h
    obtain ⟨i2h, e2v⟩ := astl_sp q4 h2
    refine g_last hF q4 i2h dL_offerForward_11 ?_
    rw [← e2v]
    refine g_goto (tgt := 19) hF dL_offerForward_12 (by decide) ?_
    refine g_iconst (v := (0 : Int32)) hF rfl dL_offerForward_19 ?_
    cases h
    exact g_ret_i hF rfl rfl dL_offerForward_20 hR (by omega) (by omega)
theorem c_L_offerForward {d : Nat} {T : gT} {M : gM} {m_a0 m_a4 : Nat} {a0 : Nat} {i1 : Int32} {i2 : Int32} {i3 : Int32} {a4 : Nat} {r : Int32 × gM} (hd : 8 ≤ d) (q0 : T[a0]? = some (8, m_a0)) (q4 : T[a4]? = some (12, m_a4)) (h : f_L_offerForward T M a0 i1 i2 i3 a4 = some (r)) : gRetH d yL_offerForward cL_offerForward 6 (some .int) [(0, 12, 15, 19)] 1 6 [.ref a0, .int i1, .int i2, .int i3, .ref a4] T M (gSame T (some (.int r.1)) r.2) := by
  refine gRetH_of (own := RL) (by decide) rfl (Nat.le_of_ble_eq_true rfl) (fun Z ad0 hn h0 hF => ?_)
  exact t_L_offerForward hF hn hd (Nat.le_refl _) (Nat.le_refl _) q0 q4 h ⟨rfl, rfl, rfl, rfl⟩
theorem t_L_withdraw {Z : gZ} {d mc ms : Nat} {Acc : Option Value → (Nat → Nat) → gT → gM → Prop} {AccX : Nat → (Nat → Nat) → gT → gM → Prop} {ad : Nat → Nat} {T : gT} {M : gM} {m_a0 m_a3 : Nat} {a0 : Nat} {i1 : Int32} {i2 : Int32} {a3 : Nat} {o : Int32 × gM} (hFH : gFixH Z cL_withdraw RL "withdraw" (some .int) [(0, 10, 13, 19), (0, 10, 17, 57)] d mc ms Acc AccX) (hn : Z.2.2.2.2.2.1 = 5) (hd : 8 ≤ d) (hmc : 1 ≤ mc) (hms : 6 ≤ ms) (q0 : T[a0]? = some (8, m_a0)) (q3 : T[a3]? = some (12, m_a3)) (h : f_L_withdraw T M a0 i1 i2 a3 = some o) (hR : Acc (some (.int o.1)) ad T o.2) : gG Z ad T M 0 0 0 [(0, .ref a0), (1, .int i1), (2, .int i2), (3, .ref a3)] [] := by
  have hF := hFH.fix
  unfold f_L_withdraw at h
  refine g_aload_n hF 3 rfl rfl dL_withdraw_0 ?_
  refine g_iconst (v := (0 : Int32)) hF rfl dL_withdraw_1 ?_
  refine g_aload_n hF 0 rfl rfl dL_withdraw_2 ?_
  refine g_iload_n hF 1 rfl rfl dL_withdraw_3 ?_
  refine g_iload_n hF 2 rfl rfl dL_withdraw_4 ?_
  obtain ⟨x1, h1, h⟩ := gbnd h
  rcases x1 with k1 | r1
  · replace h := gcase_l h
    by_cases e1_0 : k1 = 2
    · replace h := gif_t e1_0 h
      subst e1_0
      refine g_callVC hFH my_X8_withdraw kw_1052 kw_1053 kw_1054 gC_8.1 (by decide) q0 (cx_X8_withdraw (d := d - 1) (by omega) q0 h1) (by omega) (by omega) (by omega) rfl rfl (Nat.le_of_ble_eq_true rfl) dL_withdraw_5 [] (0, 10, 13, 19) [(0, 10, 17, 57)] rfl (by decide) (by decide) (fun z hz => nomatch hz) kw_911 kn_562 (Or.inr ⟨dL_withdraw_13, rfl⟩) (by rw [hn]; decide) (ls' := [(0, .ref a0), (1, .int i1), (2, .int i2), (3, .ref a3)]) rfl ?_
      refine g_iconst (v := (1 : Int32)) hF rfl dL_withdraw_15 ?_
      cases h
      exact g_ret_i hF rfl rfl dL_withdraw_16 hR (by omega) (by omega)
    · replace h := gif_f e1_0 h
      by_cases e1_1 : k1 = 3
      · replace h := gif_t e1_1 h
        subst e1_1
        refine g_callVC hFH my_X8_withdraw kw_1052 kw_1053 kw_1054 gC_8.1 (by decide) q0 (cx_X8_withdraw (d := d - 1) (by omega) q0 h1) (by omega) (by omega) (by omega) rfl rfl (Nat.le_of_ble_eq_true rfl) dL_withdraw_5 [(0, 10, 13, 19)] (0, 10, 17, 57) [] rfl (by decide) (by decide) (fun z hz => by rcases List.mem_singleton.mp hz with rfl; exact ⟨by decide, _, kw_911, by decide⟩) kw_985 kn_992 (Or.inr ⟨dL_withdraw_17, rfl⟩) (by rw [hn]; decide) (ls' := [(0, .ref a0), (1, .int i1), (2, .int i2), (3, .ref a3)]) rfl ?_
        refine g_iconst (v := (2 : Int32)) hF rfl dL_withdraw_19 ?_
        cases h
        exact g_ret_i hF rfl rfl dL_withdraw_20 hR (by omega) (by omega)
      · replace h := gif_f e1_1 h
        cases h
  · replace h := gcase_r h
    refine g_callV hF my_X8_withdraw kw_1052 kw_1053 kw_1054 gC_8.1 (by decide) q0 (c_X8_withdraw (d := d - 1) (by omega) q0 h1) (by omega) (by omega) (by omega) rfl rfl (Nat.le_of_ble_eq_true rfl) dL_withdraw_5 (g_sameS ?_)
    refine g_i2l hF dL_withdraw_8 ?_
    obtain ⟨M2, h2, h⟩ := gbnd h
    obtain ⟨i2h, e2v⟩ := astl_sp q3 h2
    refine g_last hF q3 i2h dL_withdraw_9 ?_
    rw [← e2v]
    refine g_goto (tgt := 21) hF dL_withdraw_10 (by decide) ?_
    refine g_iconst (v := (0 : Int32)) hF rfl dL_withdraw_21 ?_
    cases h
    exact g_ret_i hF rfl rfl dL_withdraw_22 hR (by omega) (by omega)
theorem c_L_withdraw {d : Nat} {T : gT} {M : gM} {m_a0 m_a3 : Nat} {a0 : Nat} {i1 : Int32} {i2 : Int32} {a3 : Nat} {r : Int32 × gM} (hd : 8 ≤ d) (q0 : T[a0]? = some (8, m_a0)) (q3 : T[a3]? = some (12, m_a3)) (h : f_L_withdraw T M a0 i1 i2 a3 = some (r)) : gRetH d yL_withdraw cL_withdraw 5 (some .int) [(0, 10, 13, 19), (0, 10, 17, 57)] 1 6 [.ref a0, .int i1, .int i2, .ref a3] T M (gSame T (some (.int r.1)) r.2) := by
  refine gRetH_of (own := RL) (by decide) rfl (Nat.le_of_ble_eq_true rfl) (fun Z ad0 hn h0 hF => ?_)
  exact t_L_withdraw hF hn hd (Nat.le_refl _) (Nat.le_refl _) q0 q3 h ⟨rfl, rfl, rfl, rfl⟩
theorem t_L_setTrust {Z : gZ} {d mc ms : Nat} {Acc : Option Value → (Nat → Nat) → gT → gM → Prop} {AccX : Nat → (Nat → Nat) → gT → gM → Prop} {ad : Nat → Nat} {T : gT} {M : gM} {m_a0 m_a3 : Nat} {a0 : Nat} {i1 : Int32} {i2 : Int32} {a3 : Nat} {o : Int32 × gM} (hFH : gFixH Z cL_setTrust RL "setTrust" (some .int) [(0, 10, 13, 19), (0, 10, 17, 13)] d mc ms Acc AccX) (hn : Z.2.2.2.2.2.1 = 5) (hd : 8 ≤ d) (hmc : 1 ≤ mc) (hms : 6 ≤ ms) (q0 : T[a0]? = some (8, m_a0)) (q3 : T[a3]? = some (12, m_a3)) (h : f_L_setTrust T M a0 i1 i2 a3 = some o) (hR : Acc (some (.int o.1)) ad T o.2) : gG Z ad T M 0 0 0 [(0, .ref a0), (1, .int i1), (2, .int i2), (3, .ref a3)] [] := by
  have hF := hFH.fix
  unfold f_L_setTrust at h
  refine g_aload_n hF 3 rfl rfl dL_setTrust_0 ?_
  refine g_iconst (v := (0 : Int32)) hF rfl dL_setTrust_1 ?_
  refine g_aload_n hF 0 rfl rfl dL_setTrust_2 ?_
  refine g_iload_n hF 1 rfl rfl dL_setTrust_3 ?_
  refine g_iload_n hF 2 rfl rfl dL_setTrust_4 ?_
  obtain ⟨x1, h1, h⟩ := gbnd h
  rcases x1 with k1 | r1
  · replace h := gcase_l h
    by_cases e1_0 : k1 = 2
    · replace h := gif_t e1_0 h
      subst e1_0
      refine g_callVC hFH my_X8_setTrust kw_1061 kw_1062 kw_1063 gC_8.1 (by decide) q0 (cx_X8_setTrust (d := d - 1) (by omega) q0 h1) (by omega) (by omega) (by omega) rfl rfl (Nat.le_of_ble_eq_true rfl) dL_setTrust_5 [] (0, 10, 13, 19) [(0, 10, 17, 13)] rfl (by decide) (by decide) (fun z hz => nomatch hz) kw_911 kn_562 (Or.inr ⟨dL_setTrust_13, rfl⟩) (by rw [hn]; decide) (ls' := [(0, .ref a0), (1, .int i1), (2, .int i2), (3, .ref a3)]) rfl ?_
      refine g_iconst (v := (1 : Int32)) hF rfl dL_setTrust_15 ?_
      cases h
      exact g_ret_i hF rfl rfl dL_setTrust_16 hR (by omega) (by omega)
    · replace h := gif_f e1_0 h
      by_cases e1_1 : k1 = 1
      · replace h := gif_t e1_1 h
        subst e1_1
        refine g_callVC hFH my_X8_setTrust kw_1061 kw_1062 kw_1063 gC_8.1 (by decide) q0 (cx_X8_setTrust (d := d - 1) (by omega) q0 h1) (by omega) (by omega) (by omega) rfl rfl (Nat.le_of_ble_eq_true rfl) dL_setTrust_5 [(0, 10, 13, 19)] (0, 10, 17, 13) [] rfl (by decide) (by decide) (fun z hz => by rcases List.mem_singleton.mp hz with rfl; exact ⟨by decide, _, kw_911, by decide⟩) kw_673 kn_630 (Or.inr ⟨dL_setTrust_17, rfl⟩) (by rw [hn]; decide) (ls' := [(0, .ref a0), (1, .int i1), (2, .int i2), (3, .ref a3)]) rfl ?_
        refine g_iconst (v := (2 : Int32)) hF rfl dL_setTrust_19 ?_
        cases h
        exact g_ret_i hF rfl rfl dL_setTrust_20 hR (by omega) (by omega)
      · replace h := gif_f e1_1 h
        cases h
  · replace h := gcase_r h
    refine g_callV hF my_X8_setTrust kw_1061 kw_1062 kw_1063 gC_8.1 (by decide) q0 (c_X8_setTrust (d := d - 1) (by omega) q0 h1) (by omega) (by omega) (by omega) rfl rfl (Nat.le_of_ble_eq_true rfl) dL_setTrust_5 (g_sameS ?_)
    refine g_i2l hF dL_setTrust_8 ?_
    obtain ⟨M2, h2, h⟩ := gbnd h
    obtain ⟨i2h, e2v⟩ := astl_sp q3 h2
    refine g_last hF q3 i2h dL_setTrust_9 ?_
    rw [← e2v]
    refine g_goto (tgt := 21) hF dL_setTrust_10 (by decide) ?_
    refine g_iconst (v := (0 : Int32)) hF rfl dL_setTrust_21 ?_
    cases h
    exact g_ret_i hF rfl rfl dL_setTrust_22 hR (by omega) (by omega)
theorem c_L_setTrust {d : Nat} {T : gT} {M : gM} {m_a0 m_a3 : Nat} {a0 : Nat} {i1 : Int32} {i2 : Int32} {a3 : Nat} {r : Int32 × gM} (hd : 8 ≤ d) (q0 : T[a0]? = some (8, m_a0)) (q3 : T[a3]? = some (12, m_a3)) (h : f_L_setTrust T M a0 i1 i2 a3 = some (r)) : gRetH d yL_setTrust cL_setTrust 5 (some .int) [(0, 10, 13, 19), (0, 10, 17, 13)] 1 6 [.ref a0, .int i1, .int i2, .ref a3] T M (gSame T (some (.int r.1)) r.2) := by
  refine gRetH_of (own := RL) (by decide) rfl (Nat.le_of_ble_eq_true rfl) (fun Z ad0 hn h0 hF => ?_)
  exact t_L_setTrust hF hn hd (Nat.le_refl _) (Nat.le_refl _) q0 q3 h ⟨rfl, rfl, rfl, rfl⟩
theorem t_L_setKeeps {Z : gZ} {d mc ms : Nat} {Acc : Option Value → (Nat → Nat) → gT → gM → Prop} {AccX : Nat → (Nat → Nat) → gT → gM → Prop} {ad : Nat → Nat} {T : gT} {M : gM} {m_a0 m_a3 : Nat} {a0 : Nat} {i1 : Int32} {i2 : Int32} {a3 : Nat} {o : Int32 × gM} (hFH : gFixH Z cL_setKeeps RL "setKeeps" (some .int) [(0, 10, 13, 19)] d mc ms Acc AccX) (hn : Z.2.2.2.2.2.1 = 5) (hd : 8 ≤ d) (hmc : 1 ≤ mc) (hms : 6 ≤ ms) (q0 : T[a0]? = some (8, m_a0)) (q3 : T[a3]? = some (12, m_a3)) (h : f_L_setKeeps T M a0 i1 i2 a3 = some o) (hR : Acc (some (.int o.1)) ad T o.2) : gG Z ad T M 0 0 0 [(0, .ref a0), (1, .int i1), (2, .int i2), (3, .ref a3)] [] := by
  have hF := hFH.fix
  unfold f_L_setKeeps at h
  refine g_aload_n hF 3 rfl rfl dL_setKeeps_0 ?_
  refine g_iconst (v := (0 : Int32)) hF rfl dL_setKeeps_1 ?_
  refine g_aload_n hF 0 rfl rfl dL_setKeeps_2 ?_
  refine g_iload_n hF 1 rfl rfl dL_setKeeps_3 ?_
  refine g_iload_n hF 2 rfl rfl dL_setKeeps_4 ?_
  obtain ⟨x1, h1, h⟩ := gbnd h
  rcases x1 with k1 | r1
  · replace h := gcase_l h
    by_cases e1_0 : k1 = 2
    · replace h := gif_t e1_0 h
      subst e1_0
      refine g_callVC hFH my_X8_setKeeps kw_1069 kw_1070 kw_1071 gC_8.1 (by decide) q0 (cx_X8_setKeeps (d := d - 1) (by omega) q0 h1) (by omega) (by omega) (by omega) rfl rfl (Nat.le_of_ble_eq_true rfl) dL_setKeeps_5 [] (0, 10, 13, 19) [] rfl (by decide) (by decide) (fun z hz => nomatch hz) kw_911 kn_562 (Or.inr ⟨dL_setKeeps_13, rfl⟩) (by rw [hn]; decide) (ls' := [(0, .ref a0), (1, .int i1), (2, .int i2), (3, .ref a3)]) rfl ?_
      refine g_iconst (v := (1 : Int32)) hF rfl dL_setKeeps_15 ?_
      cases h
      exact g_ret_i hF rfl rfl dL_setKeeps_16 hR (by omega) (by omega)
    · replace h := gif_f e1_0 h
      cases h
  · replace h := gcase_r h
    refine g_callV hF my_X8_setKeeps kw_1069 kw_1070 kw_1071 gC_8.1 (by decide) q0 (c_X8_setKeeps (d := d - 1) (by omega) q0 h1) (by omega) (by omega) (by omega) rfl rfl (Nat.le_of_ble_eq_true rfl) dL_setKeeps_5 (g_sameS ?_)
    refine g_i2l hF dL_setKeeps_8 ?_
    obtain ⟨M2, h2, h⟩ := gbnd h
    obtain ⟨i2h, e2v⟩ := astl_sp q3 h2
    refine g_last hF q3 i2h dL_setKeeps_9 ?_
    rw [← e2v]
    refine g_goto (tgt := 17) hF dL_setKeeps_10 (by decide) ?_
    refine g_iconst (v := (0 : Int32)) hF rfl dL_setKeeps_17 ?_
    cases h
    exact g_ret_i hF rfl rfl dL_setKeeps_18 hR (by omega) (by omega)
theorem c_L_setKeeps {d : Nat} {T : gT} {M : gM} {m_a0 m_a3 : Nat} {a0 : Nat} {i1 : Int32} {i2 : Int32} {a3 : Nat} {r : Int32 × gM} (hd : 8 ≤ d) (q0 : T[a0]? = some (8, m_a0)) (q3 : T[a3]? = some (12, m_a3)) (h : f_L_setKeeps T M a0 i1 i2 a3 = some (r)) : gRetH d yL_setKeeps cL_setKeeps 5 (some .int) [(0, 10, 13, 19)] 1 6 [.ref a0, .int i1, .int i2, .ref a3] T M (gSame T (some (.int r.1)) r.2) := by
  refine gRetH_of (own := RL) (by decide) rfl (Nat.le_of_ble_eq_true rfl) (fun Z ad0 hn h0 hF => ?_)
  exact t_L_setKeeps hF hn hd (Nat.le_refl _) (Nat.le_refl _) q0 q3 h ⟨rfl, rfl, rfl, rfl⟩
theorem t_L_setShare {Z : gZ} {d mc ms : Nat} {Acc : Option Value → (Nat → Nat) → gT → gM → Prop} {AccX : Nat → (Nat → Nat) → gT → gM → Prop} {ad : Nat → Nat} {T : gT} {M : gM} {m_a0 m_a2 : Nat} {a0 : Nat} {i1 : Int32} {a2 : Nat} {o : Int32 × gM} (hFH : gFixH Z cL_setShare RL "setShare" (some .int) [(0, 9, 12, 13)] d mc ms Acc AccX) (hn : Z.2.2.2.2.2.1 = 4) (hd : 7 ≤ d) (hmc : 1 ≤ mc) (hms : 6 ≤ ms) (q0 : T[a0]? = some (8, m_a0)) (q2 : T[a2]? = some (12, m_a2)) (h : f_L_setShare T M a0 i1 a2 = some o) (hR : Acc (some (.int o.1)) ad T o.2) : gG Z ad T M 0 0 0 [(0, .ref a0), (1, .int i1), (2, .ref a2)] [] := by
  have hF := hFH.fix
  unfold f_L_setShare at h
  refine g_aload_n hF 2 rfl rfl dL_setShare_0 ?_
  refine g_iconst (v := (0 : Int32)) hF rfl dL_setShare_1 ?_
  refine g_aload_n hF 0 rfl rfl dL_setShare_2 ?_
  refine g_iload_n hF 1 rfl rfl dL_setShare_3 ?_
  obtain ⟨x1, h1, h⟩ := gbnd h
  rcases x1 with k1 | r1
  · replace h := gcase_l h
    by_cases e1_0 : k1 = 1
    · replace h := gif_t e1_0 h
      subst e1_0
      refine g_callVC hFH my_X8_setShare kw_1076 kw_1077 kw_1078 gC_8.1 (by decide) q0 (cx_X8_setShare (d := d - 1) (by omega) q0 h1) (by omega) (by omega) (by omega) rfl rfl (Nat.le_of_ble_eq_true rfl) dL_setShare_4 [] (0, 9, 12, 13) [] rfl (by decide) (by decide) (fun z hz => nomatch hz) kw_673 kn_630 (Or.inl ⟨⟨3, by decide⟩, dL_setShare_12, rfl, rfl⟩) (by rw [hn]; decide) (ls' := [(0, .ref a0), (1, .int i1), (2, .ref a2)]) rfl ?_
      refine g_iconst (v := (1 : Int32)) hF rfl dL_setShare_13 ?_
      cases h
      exact g_ret_i hF rfl rfl dL_setShare_14 hR (by omega) (by omega)
    · replace h := gif_f e1_0 h
      cases h
  · replace h := gcase_r h
    refine g_callV hF my_X8_setShare kw_1076 kw_1077 kw_1078 gC_8.1 (by decide) q0 (c_X8_setShare (d := d - 1) (by omega) q0 h1) (by omega) (by omega) (by omega) rfl rfl (Nat.le_of_ble_eq_true rfl) dL_setShare_4 (g_sameS ?_)
    refine g_i2l hF dL_setShare_7 ?_
    obtain ⟨M2, h2, h⟩ := gbnd h
    obtain ⟨i2h, e2v⟩ := astl_sp q2 h2
    refine g_last hF q2 i2h dL_setShare_8 ?_
    rw [← e2v]
    refine g_goto (tgt := 15) hF dL_setShare_9 (by decide) ?_
    refine g_iconst (v := (0 : Int32)) hF rfl dL_setShare_15 ?_
    cases h
    exact g_ret_i hF rfl rfl dL_setShare_16 hR (by omega) (by omega)
theorem c_L_setShare {d : Nat} {T : gT} {M : gM} {m_a0 m_a2 : Nat} {a0 : Nat} {i1 : Int32} {a2 : Nat} {r : Int32 × gM} (hd : 7 ≤ d) (q0 : T[a0]? = some (8, m_a0)) (q2 : T[a2]? = some (12, m_a2)) (h : f_L_setShare T M a0 i1 a2 = some (r)) : gRetH d yL_setShare cL_setShare 4 (some .int) [(0, 9, 12, 13)] 1 6 [.ref a0, .int i1, .ref a2] T M (gSame T (some (.int r.1)) r.2) := by
  refine gRetH_of (own := RL) (by decide) rfl (Nat.le_of_ble_eq_true rfl) (fun Z ad0 hn h0 hF => ?_)
  exact t_L_setShare hF hn hd (Nat.le_refl _) (Nat.le_refl _) q0 q2 h ⟨rfl, rfl, rfl, rfl⟩
