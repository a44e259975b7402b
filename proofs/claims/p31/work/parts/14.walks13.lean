theorem t_L_offerValue {Z : gZ} {d mc ms : Nat} {Acc : Option Value → (Nat → Nat) → gT → gM → Prop} {AccX : Nat → (Nat → Nat) → gT → gM → Prop} {ad : Nat → Nat} {T : gT} {M : gM} {m_a0 : Nat} {a0 : Nat} {i1 : Int32} {i2 : Int32} {i3 : Int32} {o : Int32 × gM} (hFH : gFixH Z cL_offerValue RL "offerValue" (some .int) [(0, 7, 8, 47), (0, 7, 13, 40)] d mc ms Acc AccX) (hn : Z.2.2.2.2.2.1 = 5) (hd : 8 ≤ d) (hmc : 1 ≤ mc) (hms : 6 ≤ ms) (q0 : T[a0]? = some (8, m_a0)) (h : f_L_offerValue T M a0 i1 i2 i3 = some o) (hR : Acc (some (.int o.1)) ad T o.2) : gG Z ad T M 0 0 0 [(0, .ref a0), (1, .int i1), (2, .int i2), (3, .int i3)] [] := by
  have hF := hFH.fix
  unfold f_L_offerValue at h
  refine g_aload_n hF 0 rfl rfl dL_offerValue_0 ?_
  refine g_iload_n hF 1 rfl rfl dL_offerValue_1 ?_
  refine g_iload_n hF 2 rfl rfl dL_offerValue_2 ?_
  refine g_iload_n hF 3 rfl rfl dL_offerValue_3 ?_
  obtain ⟨x1, h1, h⟩ := gbnd h
  rcases x1 with k1 | r1
  · replace h := gcase_l h
    by_cases e1_0 : k1 = 2
    · replace h := gif_t e1_0 h
      subst e1_0
      refine g_callVC hFH my_X8_offerValue kw_1051 kw_1052 kw_1053 gC_8.1 (by decide) q0 (cx_X8_offerValue (d := d - 1) (by omega) q0 h1) (by omega) (by omega) (by omega) rfl rfl (Nat.le_of_ble_eq_true rfl) dL_offerValue_4 [] (0, 7, 8, 47) [(0, 7, 13, 40)] rfl (by decide) (by decide) (fun z hz => nomatch hz) kw_946 kn_957 (Or.inr ⟨dL_offerValue_8, rfl⟩) (by rw [hn]; decide) (ls' := [(0, .ref a0), (1, .int i1), (2, .int i2), (3, .int i3)]) rfl ?_
      refine g_ldc (v := (-2000000097 : Int32)) hF kw_971 dL_offerValue_10 ?_
      cases h
      exact g_ret_i hF rfl rfl dL_offerValue_12 hR (by omega) (by omega)
    · replace h := gif_f e1_0 h
      by_cases e1_1 : k1 = 1
      · replace h := gif_t e1_1 h
        subst e1_1
        refine g_callVC hFH my_X8_offerValue kw_1051 kw_1052 kw_1053 gC_8.1 (by decide) q0 (cx_X8_offerValue (d := d - 1) (by omega) q0 h1) (by omega) (by omega) (by omega) rfl rfl (Nat.le_of_ble_eq_true rfl) dL_offerValue_4 [(0, 7, 8, 47)] (0, 7, 13, 40) [] rfl (by decide) (by decide) (fun z hz => by rcases List.mem_singleton.mp hz with rfl; exact ⟨by decide, _, kw_946, by decide⟩) kw_644 kn_651 (Or.inr ⟨dL_offerValue_13, rfl⟩) (by rw [hn]; decide) (ls' := [(0, .ref a0), (1, .int i1), (2, .int i2), (3, .int i3)]) rfl ?_
        refine g_ldc (v := (-2000000098 : Int32)) hF kw_942 dL_offerValue_15 ?_
        cases h
        exact g_ret_i hF rfl rfl dL_offerValue_17 hR (by omega) (by omega)
      · replace h := gif_f e1_1 h
        cases h
  · replace h := gcase_r h
    refine g_callV hF my_X8_offerValue kw_1051 kw_1052 kw_1053 gC_8.1 (by decide) q0 (c_X8_offerValue (d := d - 1) (by omega) q0 h1) (by omega) (by omega) (by omega) rfl rfl (Nat.le_of_ble_eq_true rfl) dL_offerValue_4 (g_sameS ?_)
    cases h
    exact g_ret_i hF rfl rfl dL_offerValue_7 hR (by omega) (by omega)
theorem c_L_offerValue {d : Nat} {T : gT} {M : gM} {m_a0 : Nat} {a0 : Nat} {i1 : Int32} {i2 : Int32} {i3 : Int32} {r : Int32 × gM} (hd : 8 ≤ d) (q0 : T[a0]? = some (8, m_a0)) (h : f_L_offerValue T M a0 i1 i2 i3 = some (r)) : gRetH d yL_offerValue cL_offerValue 5 (some .int) [(0, 7, 8, 47), (0, 7, 13, 40)] 1 6 [.ref a0, .int i1, .int i2, .int i3] T M (gSame T (some (.int r.1)) r.2) := by
  refine gRetH_of (own := RL) (by decide) rfl (Nat.le_of_ble_eq_true rfl) (fun Z ad0 hn h0 hF => ?_)
  exact t_L_offerValue hF hn hd (Nat.le_refl _) (Nat.le_refl _) q0 h ⟨rfl, rfl, rfl, rfl⟩
theorem t_L_offerForward {Z : gZ} {d mc ms : Nat} {Acc : Option Value → (Nat → Nat) → gT → gM → Prop} {AccX : Nat → (Nat → Nat) → gT → gM → Prop} {ad : Nat → Nat} {T : gT} {M : gM} {m_a0 : Nat} {a0 : Nat} {i1 : Int32} {i2 : Int32} {i3 : Int32} {o : Int32 × gM} (hFH : gFixH Z cL_offerForward RL "offerForward" (some .int) [(0, 7, 8, 47)] d mc ms Acc AccX) (hn : Z.2.2.2.2.2.1 = 5) (hd : 8 ≤ d) (hmc : 1 ≤ mc) (hms : 6 ≤ ms) (q0 : T[a0]? = some (8, m_a0)) (h : f_L_offerForward T M a0 i1 i2 i3 = some o) (hR : Acc (some (.int o.1)) ad T o.2) : gG Z ad T M 0 0 0 [(0, .ref a0), (1, .int i1), (2, .int i2), (3, .int i3)] [] := by
  have hF := hFH.fix
  unfold f_L_offerForward at h
  refine g_aload_n hF 0 rfl rfl dL_offerForward_0 ?_
  refine g_iload_n hF 1 rfl rfl dL_offerForward_1 ?_
  refine g_iload_n hF 2 rfl rfl dL_offerForward_2 ?_
  refine g_iload_n hF 3 rfl rfl dL_offerForward_3 ?_
  obtain ⟨x1, h1, h⟩ := gbnd h
  rcases x1 with k1 | r1
  · replace h := gcase_l h
    by_cases e1_0 : k1 = 2
    · replace h := gif_t e1_0 h
      subst e1_0
      refine g_callVC hFH my_X8_offerForward kw_1063 kw_1064 kw_1065 gC_8.1 (by decide) q0 (cx_X8_offerForward (d := d - 1) (by omega) q0 h1) (by omega) (by omega) (by omega) rfl rfl (Nat.le_of_ble_eq_true rfl) dL_offerForward_4 [] (0, 7, 8, 47) [] rfl (by decide) (by decide) (fun z hz => nomatch hz) kw_946 kn_957 (Or.inr ⟨dL_offerForward_8, rfl⟩) (by rw [hn]; decide) (ls' := [(0, .ref a0), (1, .int i1), (2, .int i2), (3, .int i3)]) rfl ?_
      refine g_ldc (v := (-2000000097 : Int32)) hF kw_971 dL_offerForward_10 ?_
      cases h
      exact g_ret_i hF rfl rfl dL_offerForward_12 hR (by omega) (by omega)
    · replace h := gif_f e1_0 h
      cases h
  · replace h := gcase_r h
    refine g_callV hF my_X8_offerForward kw_1063 kw_1064 kw_1065 gC_8.1 (by decide) q0 (c_X8_offerForward (d := d - 1) (by omega) q0 h1) (by omega) (by omega) (by omega) rfl rfl (Nat.le_of_ble_eq_true rfl) dL_offerForward_4 (g_sameS ?_)
    cases h
    exact g_ret_i hF rfl rfl dL_offerForward_7 hR (by omega) (by omega)
theorem c_L_offerForward {d : Nat} {T : gT} {M : gM} {m_a0 : Nat} {a0 : Nat} {i1 : Int32} {i2 : Int32} {i3 : Int32} {r : Int32 × gM} (hd : 8 ≤ d) (q0 : T[a0]? = some (8, m_a0)) (h : f_L_offerForward T M a0 i1 i2 i3 = some (r)) : gRetH d yL_offerForward cL_offerForward 5 (some .int) [(0, 7, 8, 47)] 1 6 [.ref a0, .int i1, .int i2, .int i3] T M (gSame T (some (.int r.1)) r.2) := by
  refine gRetH_of (own := RL) (by decide) rfl (Nat.le_of_ble_eq_true rfl) (fun Z ad0 hn h0 hF => ?_)
  exact t_L_offerForward hF hn hd (Nat.le_refl _) (Nat.le_refl _) q0 h ⟨rfl, rfl, rfl, rfl⟩
theorem t_L_withdraw {Z : gZ} {d mc ms : Nat} {Acc : Option Value → (Nat → Nat) → gT → gM → Prop} {AccX : Nat → (Nat → Nat) → gT → gM → Prop} {ad : Nat → Nat} {T : gT} {M : gM} {m_a0 : Nat} {a0 : Nat} {i1 : Int32} {i2 : Int32} {o : Int32 × gM} (hFH : gFixH Z cL_withdraw RL "withdraw" (some .int) [(0, 6, 7, 47), (0, 6, 11, 86)] d mc ms Acc AccX) (hn : Z.2.2.2.2.2.1 = 4) (hd : 8 ≤ d) (hmc : 1 ≤ mc) (hms : 6 ≤ ms) (q0 : T[a0]? = some (8, m_a0)) (h : f_L_withdraw T M a0 i1 i2 = some o) (hR : Acc (some (.int o.1)) ad T o.2) : gG Z ad T M 0 0 0 [(0, .ref a0), (1, .int i1), (2, .int i2)] [] := by
  have hF := hFH.fix
  unfold f_L_withdraw at h
  refine g_aload_n hF 0 rfl rfl dL_withdraw_0 ?_
  refine g_iload_n hF 1 rfl rfl dL_withdraw_1 ?_
  refine g_iload_n hF 2 rfl rfl dL_withdraw_2 ?_
  obtain ⟨x1, h1, h⟩ := gbnd h
  rcases x1 with k1 | r1
  · replace h := gcase_l h
    by_cases e1_0 : k1 = 2
    · replace h := gif_t e1_0 h
      subst e1_0
      refine g_callVC hFH my_X8_withdraw kw_1070 kw_1071 kw_1072 gC_8.1 (by decide) q0 (cx_X8_withdraw (d := d - 1) (by omega) q0 h1) (by omega) (by omega) (by omega) rfl rfl (Nat.le_of_ble_eq_true rfl) dL_withdraw_3 [] (0, 6, 7, 47) [(0, 6, 11, 86)] rfl (by decide) (by decide) (fun z hz => nomatch hz) kw_946 kn_957 (Or.inl ⟨⟨3, by decide⟩, dL_withdraw_7, rfl, rfl⟩) (by rw [hn]; decide) (ls' := [(0, .ref a0), (1, .int i1), (2, .int i2)]) rfl ?_
      refine g_ldc (v := (-2000000097 : Int32)) hF kw_971 dL_withdraw_8 ?_
      cases h
      exact g_ret_i hF rfl rfl dL_withdraw_10 hR (by omega) (by omega)
    · replace h := gif_f e1_0 h
      by_cases e1_1 : k1 = 3
      · replace h := gif_t e1_1 h
        subst e1_1
        refine g_callVC hFH my_X8_withdraw kw_1070 kw_1071 kw_1072 gC_8.1 (by decide) q0 (cx_X8_withdraw (d := d - 1) (by omega) q0 h1) (by omega) (by omega) (by omega) rfl rfl (Nat.le_of_ble_eq_true rfl) dL_withdraw_3 [(0, 6, 7, 47)] (0, 6, 11, 86) [] rfl (by decide) (by decide) (fun z hz => by rcases List.mem_singleton.mp hz with rfl; exact ⟨by decide, _, kw_946, by decide⟩) kw_1002 kn_1009 (Or.inl ⟨⟨3, by decide⟩, dL_withdraw_11, rfl, rfl⟩) (by rw [hn]; decide) (ls' := [(0, .ref a0), (1, .int i1), (2, .int i2)]) rfl ?_
        refine g_ldc (v := (-2000000099 : Int32)) hF kw_1035 dL_withdraw_12 ?_
        cases h
        exact g_ret_i hF rfl rfl dL_withdraw_14 hR (by omega) (by omega)
      · replace h := gif_f e1_1 h
        cases h
  · replace h := gcase_r h
    refine g_callV hF my_X8_withdraw kw_1070 kw_1071 kw_1072 gC_8.1 (by decide) q0 (c_X8_withdraw (d := d - 1) (by omega) q0 h1) (by omega) (by omega) (by omega) rfl rfl (Nat.le_of_ble_eq_true rfl) dL_withdraw_3 (g_sameS ?_)
    cases h
    exact g_ret_i hF rfl rfl dL_withdraw_6 hR (by omega) (by omega)
theorem c_L_withdraw {d : Nat} {T : gT} {M : gM} {m_a0 : Nat} {a0 : Nat} {i1 : Int32} {i2 : Int32} {r : Int32 × gM} (hd : 8 ≤ d) (q0 : T[a0]? = some (8, m_a0)) (h : f_L_withdraw T M a0 i1 i2 = some (r)) : gRetH d yL_withdraw cL_withdraw 4 (some .int) [(0, 6, 7, 47), (0, 6, 11, 86)] 1 6 [.ref a0, .int i1, .int i2] T M (gSame T (some (.int r.1)) r.2) := by
  refine gRetH_of (own := RL) (by decide) rfl (Nat.le_of_ble_eq_true rfl) (fun Z ad0 hn h0 hF => ?_)
  exact t_L_withdraw hF hn hd (Nat.le_refl _) (Nat.le_refl _) q0 h ⟨rfl, rfl, rfl, rfl⟩
theorem t_L_setTrust {Z : gZ} {d mc ms : Nat} {Acc : Option Value → (Nat → Nat) → gT → gM → Prop} {AccX : Nat → (Nat → Nat) → gT → gM → Prop} {ad : Nat → Nat} {T : gT} {M : gM} {m_a0 : Nat} {a0 : Nat} {i1 : Int32} {i2 : Int32} {o : Int32 × gM} (hFH : gFixH Z cL_setTrust RL "setTrust" (some .int) [(0, 6, 7, 47), (0, 6, 11, 40)] d mc ms Acc AccX) (hn : Z.2.2.2.2.2.1 = 4) (hd : 8 ≤ d) (hmc : 1 ≤ mc) (hms : 6 ≤ ms) (q0 : T[a0]? = some (8, m_a0)) (h : f_L_setTrust T M a0 i1 i2 = some o) (hR : Acc (some (.int o.1)) ad T o.2) : gG Z ad T M 0 0 0 [(0, .ref a0), (1, .int i1), (2, .int i2)] [] := by
  have hF := hFH.fix
  unfold f_L_setTrust at h
  refine g_aload_n hF 0 rfl rfl dL_setTrust_0 ?_
  refine g_iload_n hF 1 rfl rfl dL_setTrust_1 ?_
  refine g_iload_n hF 2 rfl rfl dL_setTrust_2 ?_
  obtain ⟨x1, h1, h⟩ := gbnd h
  rcases x1 with k1 | r1
  · replace h := gcase_l h
    by_cases e1_0 : k1 = 2
    · replace h := gif_t e1_0 h
      subst e1_0
      refine g_callVC hFH my_X8_setTrust kw_1079 kw_1080 kw_1081 gC_8.1 (by decide) q0 (cx_X8_setTrust (d := d - 1) (by omega) q0 h1) (by omega) (by omega) (by omega) rfl rfl (Nat.le_of_ble_eq_true rfl) dL_setTrust_3 [] (0, 6, 7, 47) [(0, 6, 11, 40)] rfl (by decide) (by decide) (fun z hz => nomatch hz) kw_946 kn_957 (Or.inl ⟨⟨3, by decide⟩, dL_setTrust_7, rfl, rfl⟩) (by rw [hn]; decide) (ls' := [(0, .ref a0), (1, .int i1), (2, .int i2)]) rfl ?_
      refine g_ldc (v := (-2000000097 : Int32)) hF kw_971 dL_setTrust_8 ?_
      cases h
      exact g_ret_i hF rfl rfl dL_setTrust_10 hR (by omega) (by omega)
    · replace h := gif_f e1_0 h
      by_cases e1_1 : k1 = 1
      · replace h := gif_t e1_1 h
        subst e1_1
        refine g_callVC hFH my_X8_setTrust kw_1079 kw_1080 kw_1081 gC_8.1 (by decide) q0 (cx_X8_setTrust (d := d - 1) (by omega) q0 h1) (by omega) (by omega) (by omega) rfl rfl (Nat.le_of_ble_eq_true rfl) dL_setTrust_3 [(0, 6, 7, 47)] (0, 6, 11, 40) [] rfl (by decide) (by decide) (fun z hz => by rcases List.mem_singleton.mp hz with rfl; exact ⟨by decide, _, kw_946, by decide⟩) kw_644 kn_651 (Or.inl ⟨⟨3, by decide⟩, dL_setTrust_11, rfl, rfl⟩) (by rw [hn]; decide) (ls' := [(0, .ref a0), (1, .int i1), (2, .int i2)]) rfl ?_
        refine g_ldc (v := (-2000000098 : Int32)) hF kw_942 dL_setTrust_12 ?_
        cases h
        exact g_ret_i hF rfl rfl dL_setTrust_14 hR (by omega) (by omega)
      · replace h := gif_f e1_1 h
        cases h
  · replace h := gcase_r h
    refine g_callV hF my_X8_setTrust kw_1079 kw_1080 kw_1081 gC_8.1 (by decide) q0 (c_X8_setTrust (d := d - 1) (by omega) q0 h1) (by omega) (by omega) (by omega) rfl rfl (Nat.le_of_ble_eq_true rfl) dL_setTrust_3 (g_sameS ?_)
    cases h
    exact g_ret_i hF rfl rfl dL_setTrust_6 hR (by omega) (by omega)
theorem c_L_setTrust {d : Nat} {T : gT} {M : gM} {m_a0 : Nat} {a0 : Nat} {i1 : Int32} {i2 : Int32} {r : Int32 × gM} (hd : 8 ≤ d) (q0 : T[a0]? = some (8, m_a0)) (h : f_L_setTrust T M a0 i1 i2 = some (r)) : gRetH d yL_setTrust cL_setTrust 4 (some .int) [(0, 6, 7, 47), (0, 6, 11, 40)] 1 6 [.ref a0, .int i1, .int i2] T M (gSame T (some (.int r.1)) r.2) := by
  refine gRetH_of (own := RL) (by decide) rfl (Nat.le_of_ble_eq_true rfl) (fun Z ad0 hn h0 hF => ?_)
  exact t_L_setTrust hF hn hd (Nat.le_refl _) (Nat.le_refl _) q0 h ⟨rfl, rfl, rfl, rfl⟩
theorem t_L_setKeeps {Z : gZ} {d mc ms : Nat} {Acc : Option Value → (Nat → Nat) → gT → gM → Prop} {AccX : Nat → (Nat → Nat) → gT → gM → Prop} {ad : Nat → Nat} {T : gT} {M : gM} {m_a0 : Nat} {a0 : Nat} {i1 : Int32} {i2 : Int32} {o : Int32 × gM} (hFH : gFixH Z cL_setKeeps RL "setKeeps" (some .int) [(0, 6, 7, 47)] d mc ms Acc AccX) (hn : Z.2.2.2.2.2.1 = 4) (hd : 8 ≤ d) (hmc : 1 ≤ mc) (hms : 6 ≤ ms) (q0 : T[a0]? = some (8, m_a0)) (h : f_L_setKeeps T M a0 i1 i2 = some o) (hR : Acc (some (.int o.1)) ad T o.2) : gG Z ad T M 0 0 0 [(0, .ref a0), (1, .int i1), (2, .int i2)] [] := by
  have hF := hFH.fix
  unfold f_L_setKeeps at h
  refine g_aload_n hF 0 rfl rfl dL_setKeeps_0 ?_
  refine g_iload_n hF 1 rfl rfl dL_setKeeps_1 ?_
  refine g_iload_n hF 2 rfl rfl dL_setKeeps_2 ?_
  obtain ⟨x1, h1, h⟩ := gbnd h
  rcases x1 with k1 | r1
  · replace h := gcase_l h
    by_cases e1_0 : k1 = 2
    · replace h := gif_t e1_0 h
      subst e1_0
      refine g_callVC hFH my_X8_setKeeps kw_1087 kw_1088 kw_1089 gC_8.1 (by decide) q0 (cx_X8_setKeeps (d := d - 1) (by omega) q0 h1) (by omega) (by omega) (by omega) rfl rfl (Nat.le_of_ble_eq_true rfl) dL_setKeeps_3 [] (0, 6, 7, 47) [] rfl (by decide) (by decide) (fun z hz => nomatch hz) kw_946 kn_957 (Or.inl ⟨⟨3, by decide⟩, dL_setKeeps_7, rfl, rfl⟩) (by rw [hn]; decide) (ls' := [(0, .ref a0), (1, .int i1), (2, .int i2)]) rfl ?_
      refine g_ldc (v := (-2000000097 : Int32)) hF kw_971 dL_setKeeps_8 ?_
      cases h
      exact g_ret_i hF rfl rfl dL_setKeeps_10 hR (by omega) (by omega)
    · replace h := gif_f e1_0 h
      cases h
  · replace h := gcase_r h
    refine g_callV hF my_X8_setKeeps kw_1087 kw_1088 kw_1089 gC_8.1 (by decide) q0 (c_X8_setKeeps (d := d - 1) (by omega) q0 h1) (by omega) (by omega) (by omega) rfl rfl (Nat.le_of_ble_eq_true rfl) dL_setKeeps_3 (g_sameS ?_)
    cases h
    exact g_ret_i hF rfl rfl dL_setKeeps_6 hR (by omega) (by omega)
theorem c_L_setKeeps {d : Nat} {T : gT} {M : gM} {m_a0 : Nat} {a0 : Nat} {i1 : Int32} {i2 : Int32} {r : Int32 × gM} (hd : 8 ≤ d) (q0 : T[a0]? = some (8, m_a0)) (h : f_L_setKeeps T M a0 i1 i2 = some (r)) : gRetH d yL_setKeeps cL_setKeeps 4 (some .int) [(0, 6, 7, 47)] 1 6 [.ref a0, .int i1, .int i2] T M (gSame T (some (.int r.1)) r.2) := by
  refine gRetH_of (own := RL) (by decide) rfl (Nat.le_of_ble_eq_true rfl) (fun Z ad0 hn h0 hF => ?_)
  exact t_L_setKeeps hF hn hd (Nat.le_refl _) (Nat.le_refl _) q0 h ⟨rfl, rfl, rfl, rfl⟩
theorem t_L_setShare {Z : gZ} {d mc ms : Nat} {Acc : Option Value → (Nat → Nat) → gT → gM → Prop} {AccX : Nat → (Nat → Nat) → gT → gM → Prop} {ad : Nat → Nat} {T : gT} {M : gM} {m_a0 : Nat} {a0 : Nat} {i1 : Int32} {o : Int32 × gM} (hFH : gFixH Z cL_setShare RL "setShare" (some .int) [(0, 5, 6, 40)] d mc ms Acc AccX) (hn : Z.2.2.2.2.2.1 = 3) (hd : 7 ≤ d) (hmc : 1 ≤ mc) (hms : 6 ≤ ms) (q0 : T[a0]? = some (8, m_a0)) (h : f_L_setShare T M a0 i1 = some o) (hR : Acc (some (.int o.1)) ad T o.2) : gG Z ad T M 0 0 0 [(0, .ref a0), (1, .int i1)] [] := by
  have hF := hFH.fix
  unfold f_L_setShare at h
  refine g_aload_n hF 0 rfl rfl dL_setShare_0 ?_
  refine g_iload_n hF 1 rfl rfl dL_setShare_1 ?_
  obtain ⟨x1, h1, h⟩ := gbnd h
  rcases x1 with k1 | r1
  · replace h := gcase_l h
    by_cases e1_0 : k1 = 1
    · replace h := gif_t e1_0 h
      subst e1_0
      refine g_callVC hFH my_X8_setShare kw_1094 kw_1095 kw_1096 gC_8.1 (by decide) q0 (cx_X8_setShare (d := d - 1) (by omega) q0 h1) (by omega) (by omega) (by omega) rfl rfl (Nat.le_of_ble_eq_true rfl) dL_setShare_2 [] (0, 5, 6, 40) [] rfl (by decide) (by decide) (fun z hz => nomatch hz) kw_644 kn_651 (Or.inl ⟨⟨2, by decide⟩, dL_setShare_6, rfl, rfl⟩) (by rw [hn]; decide) (ls' := [(0, .ref a0), (1, .int i1)]) rfl ?_
      refine g_ldc (v := (-2000000098 : Int32)) hF kw_942 dL_setShare_7 ?_
      cases h
      exact g_ret_i hF rfl rfl dL_setShare_9 hR (by omega) (by omega)
    · replace h := gif_f e1_0 h
      cases h
  · replace h := gcase_r h
    refine g_callV hF my_X8_setShare kw_1094 kw_1095 kw_1096 gC_8.1 (by decide) q0 (c_X8_setShare (d := d - 1) (by omega) q0 h1) (by omega) (by omega) (by omega) rfl rfl (Nat.le_of_ble_eq_true rfl) dL_setShare_2 (g_sameS ?_)
    cases h
    exact g_ret_i hF rfl rfl dL_setShare_5 hR (by omega) (by omega)
theorem c_L_setShare {d : Nat} {T : gT} {M : gM} {m_a0 : Nat} {a0 : Nat} {i1 : Int32} {r : Int32 × gM} (hd : 7 ≤ d) (q0 : T[a0]? = some (8, m_a0)) (h : f_L_setShare T M a0 i1 = some (r)) : gRetH d yL_setShare cL_setShare 3 (some .int) [(0, 5, 6, 40)] 1 6 [.ref a0, .int i1] T M (gSame T (some (.int r.1)) r.2) := by
  refine gRetH_of (own := RL) (by decide) rfl (Nat.le_of_ble_eq_true rfl) (fun Z ad0 hn h0 hF => ?_)
  exact t_L_setShare hF hn hd (Nat.le_refl _) (Nat.le_refl _) q0 h ⟨rfl, rfl, rfl, rfl⟩
