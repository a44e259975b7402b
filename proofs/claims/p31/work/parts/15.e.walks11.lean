theorem t_L_randomLinker_748 {Z : gZ} {d mc ms : Nat} {Acc : Option Value → (Nat → Nat) → gT → gM → Prop} {AccX : Nat → (Nat → Nat) → gT → gM → Prop} {ad : Nat → Nat} {T : gT} {M : gM} {ce so c9 s9 : Nat}  {u0 : Option Nat} {o : Nat × gT × gM} (hF : gFix Z cL_randomLinker RL "randomLinker" (some (.object RX10)) d mc ms Acc AccX) (hn : Z.2.2.2.2.2.1 = 11) (hd : 59 ≤ d) (hk1 : ce + c9 ≤ mc) (hk2 : so + s9 ≤ ms) (p0 : gOk T u0 16) (h : f_L_randomLinker_748 T M u0 = some (o, c9, s9)) (hR : ∀ ad1 : Nat → Nat, gExt T o.2.1 → (∀ a : Nat, a < T.length → ad1 a = ad a) → Acc (some (.ref o.1)) ad1 o.2.1 o.2.2) : gG Z ad T M ce so 748 [] [gvo u0] := by
  unfold f_L_randomLinker_748 at h
  obtain ⟨b173, h173, h⟩ := gbnd h
  obtain ⟨g173, l173, q_b173⟩ := gsm_sp h173
  refine gG_st (st' := [.ref b173]) (by first | (rw [g173]; rfl) | rw [g173]) ?_
  cases h
  exact g_ret_a hF rfl (Or.inl ⟨_, rfl⟩) dL_randomLinker_748 (hR _ gExt.rf (fun _ _ => rfl)) (by omega) (by omega)
theorem t_L_randomLinker_732 {Z : gZ} {d mc ms : Nat} {Acc : Option Value → (Nat → Nat) → gT → gM → Prop} {AccX : Nat → (Nat → Nat) → gT → gM → Prop} {ad : Nat → Nat} {T : gT} {M : gM} {ce so c9 s9 : Nat} {m_a0 m_a1 m_a5 : Nat} {a0 : Nat} {a1 : Nat} {a5 : Nat} {i6 : Int32} {o : Nat × gT × gM} (hF : gFix Z cL_randomLinker RL "randomLinker" (some (.object RX10)) d mc ms Acc AccX) (hn : Z.2.2.2.2.2.1 = 11) (hd : 59 ≤ d) (hk1 : ce + c9 ≤ mc) (hk2 : so + s9 ≤ ms) (q0 : T[a0]? = some (8, m_a0)) (q1 : T[a1]? = some (11, m_a1)) (q5 : T[a5]? = some (16, m_a5)) (h : f_L_randomLinker_732 T M a0 a1 a5 i6 = some (o, c9, s9)) (hR : ∀ ad1 : Nat → Nat, gExt T o.2.1 → (∀ a : Nat, a < T.length → ad1 a = ad a) → Acc (some (.ref o.1)) ad1 o.2.1 o.2.2) : gG Z ad T M ce so 732 [(0, .ref a0), (1, .ref a1), (5, .ref a5), (6, .int i6)] [] := by
  unfold f_L_randomLinker_732 at h
  refine g_aload_n hF 0 rfl rfl dL_randomLinker_732 ?_
  refine g_aload_n hF 1 rfl rfl dL_randomLinker_733 ?_
  obtain ⟨x174, h174, h⟩ := gbnd h
  obtain ⟨c174, s174, h, ec174, es174⟩ := cadd_sp h
  refine g_callS hF my_L_loadText kw_1416 kw_1417 (c_L_loadText (d := d - 1) (by omega) q0 q1 (trip h174)) (by omega) (by omega) (by omega) rfl rfl (Nat.le_of_ble_eq_true rfl) dL_randomLinker_734 (g_madeS (gOld_r (gT_lt q0) (gOld_r (gT_lt q1) (gOld_r (gT_lt q5) (gOld_i gOld_0)))) gOld_0 (fun ad174 e174 y174 => ?_))
  have X174 := gExt.tr gExt.rf e174
  have W174 := gad_call y174 gExt.rf (fun _ _ => rfl)
  have q_175 := e174 _ _ q0
  have q_176 := e174 _ _ q1
  have q_177 := e174 _ _ q5
  refine g_iload hF 3 rfl dL_randomLinker_737 ?_
  refine g_icmp_ne (tgt := 747) hF dL_randomLinker_739 (by decide) (fun c178 => ?_) (fun c178 => ?_)
  · replace h := gif_t c178 h
    refine g_null hF dL_randomLinker_747 ?_
    exact gG_sub [] rfl (t_L_randomLinker_748 hF hn hd (by omega) (by omega) gOk_none h (fun ad1 x1 y1 => hR ad1 (gExt.tr X174 x1) (gad_call y1 X174 W174)))
  · replace h := gif_n c178 h
    refine g_aload hF 2 rfl dL_randomLinker_742 ?_
    refine g_goto (tgt := 748) hF dL_randomLinker_744 (by decide) ?_
    exact gG_sub [] rfl (t_L_randomLinker_748 hF hn hd (by omega) (by omega) (gOk_some q_177) h (fun ad1 x1 y1 => hR ad1 (gExt.tr X174 x1) (gad_call y1 X174 W174)))
theorem t_L_randomLinker_682 {Z : gZ} {d mc ms : Nat} {Acc : Option Value → (Nat → Nat) → gT → gM → Prop} {AccX : Nat → (Nat → Nat) → gT → gM → Prop} {ad : Nat → Nat} {T : gT} {M : gM} {ce so c9 s9 : Nat} {m_a0 m_a1 m_a2 m_a5 : Nat} {a0 : Nat} {a1 : Nat} {a2 : Nat} {a5 : Nat} {i6 : Int32} {o : Nat × gT × gM} (hF : gFix Z cL_randomLinker RL "randomLinker" (some (.object RX10)) d mc ms Acc AccX) (hn : Z.2.2.2.2.2.1 = 11) (hd : 59 ≤ d) (hk1 : ce + c9 ≤ mc) (hk2 : so + s9 ≤ ms) (q0 : T[a0]? = some (8, m_a0)) (q1 : T[a1]? = some (11, m_a1)) (q2 : T[a2]? = some (18, m_a2)) (q5 : T[a5]? = some (16, m_a5)) (h : f_L_randomLinker_682 T M a0 a1 a2 a5 i6 = some (o, c9, s9)) (hR : ∀ ad1 : Nat → Nat, gExt T o.2.1 → (∀ a : Nat, a < T.length → ad1 a = ad a) → Acc (some (.ref o.1)) ad1 o.2.1 o.2.2) : gG Z ad T M ce so 682 [(0, .ref a0), (1, .ref a1), (2, .ref a2), (5, .ref a5), (6, .int i6)] [] := by
  unfold f_L_randomLinker_682 at h
  refine g_aload_n hF 2 rfl rfl dL_randomLinker_682 ?_
  refine g_iconst (v := (2 : Int32)) hF rfl dL_randomLinker_683 ?_
  obtain ⟨x179, h179, h⟩ := gbnd h
  refine g_callV hF my_X12_below kw_636 kw_637 kw_638 gC_18.1 (by decide) q2 (c_X12_below (d := d - 1) (by omega) q2 h179) (by omega) (by omega) (by omega) rfl rfl (Nat.le_of_ble_eq_true rfl) dL_randomLinker_684 (g_sameS ?_)
  refine g_if_ne (tgt := 732) hF dL_randomLinker_687 (by decide) (fun c180 => ?_) (fun c180 => ?_)
  · replace h := gif_t c180 h
    exact gG_sub [0, 1, 3, 4] rfl (t_L_randomLinker_732 hF hn hd (by omega) (by omega) q0 q1 q5 h (fun ad1 x1 y1 => hR ad1 (gExt.tr gExt.rf x1) (gad_call y1 gExt.rf (fun _ _ => rfl))))
  · replace h := gif_n c180 h
    refine g_aload hF 3 rfl dL_randomLinker_690 ?_
    refine g_aload_n hF 2 rfl rfl dL_randomLinker_692 ?_
    refine g_aload_n hF 2 rfl rfl dL_randomLinker_693 ?_
    refine g_iconst (v := (3 : Int32)) hF rfl dL_randomLinker_694 ?_
    obtain ⟨x181, h181, h⟩ := gbnd h
    refine g_callV hF my_X12_below kw_636 kw_637 kw_638 gC_18.1 (by decide) q2 (c_X12_below (d := d - 1) (by omega) q2 h181) (by omega) (by omega) (by omega) rfl rfl (Nat.le_of_ble_eq_true rfl) dL_randomLinker_695 (g_sameS ?_)
    obtain ⟨x182, h182, h⟩ := gbnd h
    obtain ⟨c182, s182, h, ec182, es182⟩ := cadd_sp h
    refine g_callS hF my_X11_random kw_1372 kw_1373 (c_X11_random_c (d := d - 1) (by omega) q2 (trip h182)) (by omega) (by omega) (by omega) rfl rfl (Nat.le_of_ble_eq_true rfl) dL_randomLinker_698 (g_madeS (gOld_r (gT_lt q0) (gOld_r (gT_lt q1) (gOld_r (gT_lt q2) (gOld_r (gT_lt q5) (gOld_i gOld_0))))) (gOld_r (gT_lt q5) gOld_0) (fun ad182 e182 y182 => ?_))
    have X182 := gExt.tr gExt.rf e182
    have W182 := gad_call y182 gExt.rf (fun _ _ => rfl)
    have q_183 := e182 _ _ q0
    have q_184 := e182 _ _ q1
    have q_185 := e182 _ _ q2
    have q_186 := e182 _ _ q5
    obtain ⟨_, h187, h⟩ := gbnd h
    obtain ⟨l187, q_187⟩ := gkd_sp h187
    refine g_put_r hF (fun _ => rfl) (fun _ => rfl) (gT_lt q_187) fl_RL_220 q_186 dL_randomLinker_701 ?_
    refine g_aload_n hF 0 rfl rfl dL_randomLinker_704 ?_
    refine g_aload_n hF 1 rfl rfl dL_randomLinker_705 ?_
    refine g_ldcS (tx := "weight ") (a := gSB + 27) hF (by decide +kernel) (Nat.le_add_right _ _) dL_randomLinker_706 ?_
    obtain ⟨x188, h188, h⟩ := gbnd h
    refine g_callS hF my_L_write kw_1106 kw_1107 (c_L_write (d := d - 1) (by omega) q_183 q_184 (gStr_c (i := 27) (by decide)) h188) (by omega) (by omega) (by omega) rfl rfl (Nat.le_of_ble_eq_true rfl) dL_randomLinker_708 (g_sameN ?_)
    refine g_aload_n hF 0 rfl rfl dL_randomLinker_711 ?_
    refine g_aload_n hF 1 rfl rfl dL_randomLinker_712 ?_
    refine g_aload hF 3 rfl dL_randomLinker_713 ?_
    obtain ⟨_, h189, h⟩ := gbnd h
    have q_189 := gko_sp h189
    refine g_get_o hF fl_RL_220 q_186 dL_randomLinker_715 ?_
    refine g_iconst (v := (0 : Int32)) hF rfl dL_randomLinker_718 ?_
    obtain ⟨b191, h191, h⟩ := gbnd h
    obtain ⟨g191, l191, q_b191⟩ := gsm_sp h191
    refine gG_st (st' := [.int (0 : Int32), .ref b191, .ref a1, .ref a0]) (by first | (rw [g191]; rfl) | rw [g191]) ?_
    obtain ⟨x190, h190, h⟩ := gbnd h
    obtain ⟨c190, s190, h, ec190, es190⟩ := cadd_sp h
    refine g_callV hF my_X11_text kw_1397 kw_1398 kw_1399 gC_17.1 (by decide) q_b191 (c_X11_text_c (d := d - 1) (by omega) q_b191 (trip h190)) (by omega) (by omega) (by omega) rfl rfl (Nat.le_of_ble_eq_true rfl) dL_randomLinker_719 (g_madeS (gOld_r (gT_lt q_183) (gOld_r (gT_lt q_184) (gOld_r (gT_lt q_185) (gOld_r (gT_lt q_186) (gOld_i gOld_0))))) (gOld_r (gT_lt q_184) (gOld_r (gT_lt q_183) gOld_0)) (fun ad190 e190 y190 => ?_))
    have X190 := gExt.tr X182 e190
    have W190 := gad_call y190 X182 W182
    have q_192 := e190 _ _ q_183
    have q_193 := e190 _ _ q_184
    have q_194 := e190 _ _ q_185
    have q_195 := e190 _ _ q_186
    obtain ⟨_, h196, h⟩ := gbnd h
    have q_196 := gks_sp h196
    obtain ⟨x197, h197, h⟩ := gbnd h
    refine g_callS hF my_L_write kw_1106 kw_1107 (c_L_write (d := d - 1) (by omega) q_192 q_193 q_196 h197) (by omega) (by omega) (by omega) rfl rfl (Nat.le_of_ble_eq_true rfl) dL_randomLinker_722 (g_sameN ?_)
    refine g_aload_n hF 0 rfl rfl dL_randomLinker_725 ?_
    refine g_aload_n hF 1 rfl rfl dL_randomLinker_726 ?_
    refine g_ldcS (tx := ";") (a := gSB + 17) hF (by decide +kernel) (Nat.le_add_right _ _) dL_randomLinker_727 ?_
    obtain ⟨x198, h198, h⟩ := gbnd h
    refine g_callS hF my_L_write kw_1106 kw_1107 (c_L_write (d := d - 1) (by omega) q_192 q_193 (gStr_c (i := 17) (by decide)) h198) (by omega) (by omega) (by omega) rfl rfl (Nat.le_of_ble_eq_true rfl) dL_randomLinker_729 (g_sameN ?_)
    exact gG_sub [0, 1, 3, 4] rfl (t_L_randomLinker_732 hF hn hd (by omega) (by omega) q_192 q_193 q_195 h (fun ad1 x1 y1 => hR ad1 (gExt.tr X190 x1) (gad_call y1 X190 W190)))
theorem t_L_randomLinker {Z : gZ} {d mc ms : Nat} {Acc : Option Value → (Nat → Nat) → gT → gM → Prop} {AccX : Nat → (Nat → Nat) → gT → gM → Prop} {ad : Nat → Nat} {T : gT} {M : gM} {ce so c9 s9 : Nat} {m_a0 m_a1 m_a2 : Nat} {a0 : Nat} {a1 : Nat} {a2 : Nat} {i3 : Int32} {i4 : Int32} {o : Nat × gT × gM} (hF : gFix Z cL_randomLinker RL "randomLinker" (some (.object RX10)) d mc ms Acc AccX) (hn : Z.2.2.2.2.2.1 = 11) (hd : 59 ≤ d) (hk1 : ce + c9 ≤ mc) (hk2 : so + s9 ≤ ms) (q0 : T[a0]? = some (8, m_a0)) (q1 : T[a1]? = some (11, m_a1)) (q2 : T[a2]? = some (18, m_a2)) (h : f_L_randomLinker T M a0 a1 a2 i3 i4 = some (o, c9, s9)) (hR : ∀ ad1 : Nat → Nat, gExt T o.2.1 → (∀ a : Nat, a < T.length → ad1 a = ad a) → Acc (some (.ref o.1)) ad1 o.2.1 o.2.2) : gG Z ad T M ce so 0 [(0, .ref a0), (1, .ref a1), (2, .ref a2), (3, .int i3), (4, .int i4)] [] := by
  unfold f_L_randomLinker at h
  obtain ⟨x199, h199, h⟩ := gbnd h
  obtain ⟨c199, s199, h, ec199, es199⟩ := cadd_sp h
  have g199 : gnew T M (16, 0) = some (x199.1, x199.2.1, x199.2.2) := h199
  refine g_new hF gC_16 gDf_16 kw_494 kw_495 kw_75 g199 (gnew_lt g199) (gFr_r (gT_ne q0) (gFr_r (gT_ne q1) (gFr_r (gT_ne q2) (gFr_i (gFr_i gFr_0))))) gFr_0 (by omega) (by omega) dL_randomLinker_0 (fun ad199 z199 => ?_)
  have y199 : ∀ b : Nat, b < T.length → ad199 b = ad b := fun b hb => z199 b (by rw [(gnew_sp g199).1]; omega)
  have X199 := gExt.tr gExt.rf (gnew_ext g199)
  have W199 := gad_call y199 gExt.rf (fun _ _ => rfl)
  have q_200 := (gnew_ext g199) _ _ q0
  have q_201 := (gnew_ext g199) _ _ q1
  have q_202 := (gnew_ext g199) _ _ q2
  have q_y199 := gnew_at g199
  refine g_dup hF rfl dL_randomLinker_3 ?_
  obtain ⟨x203, h203, h⟩ := gbnd h
  obtain ⟨c203, s203, h, ec203, es203⟩ := cadd_sp h
  refine g_callIN hF my_X10_init kn_496 kw_497 rfl gC_16.1 (by decide) q_y199 (c_X10_init (d := d - 1) (by omega) q_y199 (trip h203)) (by omega) (by omega) (by omega) rfl rfl (Nat.le_of_ble_eq_true rfl) dL_randomLinker_4 (g_madeN (gOld_r (gT_lt q_200) (gOld_r (gT_lt q_201) (gOld_r (gT_lt q_202) (gOld_i (gOld_i gOld_0))))) (gOld_r (gT_lt q_y199) gOld_0) (fun ad203 e203 y203 => ?_))
  have X203 := gExt.tr X199 e203
  have W203 := gad_call y203 X199 W199
  have q_204 := e203 _ _ q_200
  have q_205 := e203 _ _ q_201
  have q_206 := e203 _ _ q_202
  have q_207 := e203 _ _ q_y199
  refine g_astore (ls' := [(5, .ref x199.1), (0, .ref a0), (1, .ref a1), (2, .ref a2), (3, .int i3), (4, .int i4)]) hF (by rw [hn]; decide) rfl dL_randomLinker_7 ?_
  refine g_aload hF 0 rfl dL_randomLinker_9 ?_
  refine g_aload_n hF 3 rfl rfl dL_randomLinker_11 ?_
  refine g_iload_n hF 4 rfl rfl dL_randomLinker_12 ?_
  refine g_iconst (v := (1 : Int32)) hF rfl dL_randomLinker_13 ?_
  refine g_iadd hF dL_randomLinker_14 ?_
  obtain ⟨x208, h208, h⟩ := gbnd h
  refine g_callV hF my_X12_below kw_636 kw_637 kw_638 gC_18.1 (by decide) q_206 (c_X12_below (d := d - 1) (by omega) q_206 h208) (by omega) (by omega) (by omega) rfl rfl (Nat.le_of_ble_eq_true rfl) dL_randomLinker_15 (g_sameS ?_)
  refine g_put_i hF rfl rfl fl_RL_141 q_207 dL_randomLinker_18 ?_
  refine g_aload_n hF 1 rfl rfl dL_randomLinker_21 ?_
  refine g_aload_n hF 2 rfl rfl dL_randomLinker_22 ?_
  refine g_ldcS (tx := "link;") (a := gSB + 13) hF (by decide +kernel) (Nat.le_add_right _ _) dL_randomLinker_23 ?_
  obtain ⟨x209, h209, h⟩ := gbnd h
  refine g_callS hF my_L_write kw_1106 kw_1107 (c_L_write (d := d - 1) (by omega) q_204 q_205 (gStr_c (i := 13) (by decide)) h209) (by omega) (by omega) (by omega) rfl rfl (Nat.le_of_ble_eq_true rfl) dL_randomLinker_25 (g_sameN ?_)
  refine g_iconst (v := (0 : Int32)) hF rfl dL_randomLinker_28 ?_
  refine g_istore (ls' := [(6, .int (0 : Int32)), (5, .ref x199.1), (0, .ref a0), (1, .ref a1), (2, .ref a2), (3, .int i3), (4, .int i4)]) hF (by rw [hn]; decide) rfl dL_randomLinker_29 ?_
  obtain ⟨x210, h210, h⟩ := gbnd h
  obtain ⟨c210, s210, h, ec210, es210⟩ := cadd_sp h
  refine gG_sub [2, 3, 4, 6, 1, 0] rfl (t_L_randomLinker_L31 (K := c210) (KS := s210) hF hn hd gFU (trip h210) (by omega) (by omega) (fun e210 adE210 ceE210 soE210 qE210 xE210 yE210 kE210 kS210 => ?_))
  subst qE210
  have X210 := gExt.tr X203 xE210
  have W210 := gad_call yE210 X203 W203
  have q_211 := xE210 _ _ q_207
  have q_212 := xE210 _ _ q_204
  have q_213 := xE210 _ _ q_205
  have q_214 := xE210 _ _ q_206
  refine g_aload_n hF 2 rfl rfl dL_randomLinker_72 ?_
  refine g_iload hF 3 rfl dL_randomLinker_73 ?_
  refine g_iconst (v := (1 : Int32)) hF rfl dL_randomLinker_75 ?_
  refine g_iadd hF dL_randomLinker_76 ?_
  obtain ⟨x215, h215, h⟩ := gbnd h
  refine g_callV hF my_X12_below kw_636 kw_637 kw_638 gC_18.1 (by decide) q_214 (c_X12_below (d := d - 1) (by omega) q_214 h215) (by omega) (by omega) (by omega) rfl rfl (Nat.le_of_ble_eq_true rfl) dL_randomLinker_77 (g_sameS ?_)
  refine g_istore (ls' := [(6, .int x215.1), (0, .ref a0), (1, .ref a1), (2, .ref a2), (4, .int i4), (5, .ref x199.1)]) hF (by rw [hn]; decide) rfl dL_randomLinker_80 ?_
  refine g_aload hF 5 rfl dL_randomLinker_82 ?_
  refine g_iload hF 0 rfl dL_randomLinker_84 ?_
  obtain ⟨x216, h216, h⟩ := gbnd h
  obtain ⟨c216, s216, h, ec216, es216⟩ := cadd_sp h
  obtain ⟨n2160, n2161, n216h⟩ := gnewa_sp h216
  refine g_newq_LawLibrary hF n2160 rfl n2161 kw_1357 n216h (gnew_lt n216h) (gFr_i (gFr_r (gT_ne q_212) (gFr_r (gT_ne q_213) (gFr_r (gT_ne q_214) (gFr_i (gFr_r (gT_ne q_211) gFr_0)))))) (gFr_r (gT_ne q_211) gFr_0) (by omega) (by omega) dL_randomLinker_86 (fun ad216 z216 => ?_)
  have y216 : ∀ b : Nat, b < x210.1.1.length → ad216 b = adE210 b := fun b hb => z216 b (by rw [(gnew_sp n216h).1]; omega)
  have X216 := gExt.tr X210 (gnew_ext n216h)
  have W216 := gad_call y216 X210 W210
  have q_217 := (gnew_ext n216h) _ _ q_212
  have q_218 := (gnew_ext n216h) _ _ q_213
  have q_219 := (gnew_ext n216h) _ _ q_214
  have q_220 := (gnew_ext n216h) _ _ q_211
  have q_y216 := gnew_at n216h
  refine g_put_r hF (fun _ => rfl) (fun _ => rfl) (gT_lt q_y216) fl_RL_161 q_220 dL_randomLinker_89 ?_
  refine g_iconst (v := (0 : Int32)) hF rfl dL_randomLinker_92 ?_
  refine g_istore (ls' := [(7, .int (0 : Int32)), (6, .int x215.1), (0, .ref a0), (1, .ref a1), (2, .ref a2), (4, .int i4), (5, .ref x199.1)]) hF (by rw [hn]; decide) rfl dL_randomLinker_93 ?_
  obtain ⟨x221, h221, h⟩ := gbnd h
  obtain ⟨c221, s221, h, ec221, es221⟩ := cadd_sp h
  refine gG_sub [2, 3, 4, 6, 1, 0] rfl (t_L_randomLinker_L95 (K := c221) (KS := s221) hF hn hd gFU (trip h221) (by omega) (by omega) (fun e221 adE221 ceE221 soE221 qE221 xE221 yE221 kE221 kS221 => ?_))
  subst qE221
  have X221 := gExt.tr X216 xE221
  have W221 := gad_call yE221 X216 W216
  have q_222 := xE221 _ _ q_217
  have q_223 := xE221 _ _ q_218
  have q_224 := xE221 _ _ q_219
  have q_225 := xE221 _ _ q_220
  refine g_aload_n hF 2 rfl rfl dL_randomLinker_293 ?_
  refine g_bipush (v := (9 : Int32)) hF rfl dL_randomLinker_294 ?_
  obtain ⟨x226, h226, h⟩ := gbnd h
  refine g_callV hF my_X12_below kw_636 kw_637 kw_638 gC_18.1 (by decide) q_224 (c_X12_below (d := d - 1) (by omega) q_224 h226) (by omega) (by omega) (by omega) rfl rfl (Nat.le_of_ble_eq_true rfl) dL_randomLinker_296 (g_sameS ?_)
  refine g_istore (ls' := [(7, .int x226.1), (0, .ref a0), (1, .ref a1), (2, .ref a2), (5, .ref x199.1), (6, .int x215.1)]) hF (by rw [hn]; decide) rfl dL_randomLinker_299 ?_
  obtain ⟨x227, h227, h⟩ := gbnd h
  obtain ⟨c227, s227, h, ec227, es227⟩ := cadd_sp h
  refine gG_sub [1, 2, 3, 4, 5, 0] rfl (t_L_randomLinker_L301 (K := c227) (KS := s227) hF hn hd gFU (trip h227) (by omega) (by omega) (fun e227 adE227 ceE227 soE227 qE227 xE227 yE227 kE227 kS227 => ?_))
  subst qE227
  have X227 := gExt.tr X221 xE227
  have W227 := gad_call yE227 X221 W221
  have q_228 := xE227 _ _ q_222
  have q_229 := xE227 _ _ q_223
  have q_230 := xE227 _ _ q_224
  have q_231 := xE227 _ _ q_225
  refine g_aload_n hF 2 rfl rfl dL_randomLinker_499 ?_
  refine g_bipush (v := (8 : Int32)) hF rfl dL_randomLinker_500 ?_
  obtain ⟨x232, h232, h⟩ := gbnd h
  refine g_callV hF my_X12_below kw_636 kw_637 kw_638 gC_18.1 (by decide) q_230 (c_X12_below (d := d - 1) (by omega) q_230 h232) (by omega) (by omega) (by omega) rfl rfl (Nat.le_of_ble_eq_true rfl) dL_randomLinker_502 (g_sameS ?_)
  refine g_istore (ls' := [(7, .int x232.1), (0, .ref a0), (1, .ref a1), (2, .ref a2), (5, .ref x199.1), (6, .int x215.1)]) hF (by rw [hn]; decide) rfl dL_randomLinker_505 ?_
  obtain ⟨x233, h233, h⟩ := gbnd h
  obtain ⟨c233, s233, h, ec233, es233⟩ := cadd_sp h
  refine gG_sub [1, 2, 3, 4, 5, 0] rfl (t_L_randomLinker_L507 (K := c233) (KS := s233) hF hn hd gFU (trip h233) (by omega) (by omega) (fun e233 adE233 ceE233 soE233 qE233 xE233 yE233 kE233 kS233 => ?_))
  subst qE233
  have X233 := gExt.tr X227 xE233
  have W233 := gad_call yE233 X227 W227
  have q_234 := xE233 _ _ q_228
  have q_235 := xE233 _ _ q_229
  have q_236 := xE233 _ _ q_230
  have q_237 := xE233 _ _ q_231
  refine g_aload_n hF 2 rfl rfl dL_randomLinker_639 ?_
  refine g_iconst (v := (2 : Int32)) hF rfl dL_randomLinker_640 ?_
  obtain ⟨x238, h238, h⟩ := gbnd h
  refine g_callV hF my_X12_below kw_636 kw_637 kw_638 gC_18.1 (by decide) q_236 (c_X12_below (d := d - 1) (by omega) q_236 h238) (by omega) (by omega) (by omega) rfl rfl (Nat.le_of_ble_eq_true rfl) dL_randomLinker_641 (g_sameS ?_)
  refine g_if_ne (tgt := 682) hF dL_randomLinker_644 (by decide) (fun c239 => ?_) (fun c239 => ?_)
  · replace h := gif_t c239 h
    exact gG_sub [0, 1, 2, 3, 4] rfl (t_L_randomLinker_682 hF hn hd (by omega) (by omega) q_234 q_235 q_236 q_237 h (fun ad1 x1 y1 => hR ad1 (gExt.tr X233 x1) (gad_call y1 X233 W233)))
  · replace h := gif_n c239 h
    refine g_aload hF 3 rfl dL_randomLinker_647 ?_
    refine g_aload_n hF 2 rfl rfl dL_randomLinker_649 ?_
    refine g_bipush (v := (101 : Int32)) hF rfl dL_randomLinker_650 ?_
    obtain ⟨x240, h240, h⟩ := gbnd h
    refine g_callV hF my_X12_below kw_636 kw_637 kw_638 gC_18.1 (by decide) q_236 (c_X12_below (d := d - 1) (by omega) q_236 h240) (by omega) (by omega) (by omega) rfl rfl (Nat.le_of_ble_eq_true rfl) dL_randomLinker_652 (g_sameS ?_)
    refine g_put_i hF rfl rfl fl_RL_209 q_237 dL_randomLinker_655 ?_
    refine g_aload_n hF 0 rfl rfl dL_randomLinker_658 ?_
    refine g_aload_n hF 1 rfl rfl dL_randomLinker_659 ?_
    refine g_ldcS (tx := "share ") (a := gSB + 26) hF (by decide +kernel) (Nat.le_add_right _ _) dL_randomLinker_660 ?_
    obtain ⟨x241, h241, h⟩ := gbnd h
    refine g_callS hF my_L_write kw_1106 kw_1107 (c_L_write (d := d - 1) (by omega) q_234 q_235 (gStr_c (i := 26) (by decide)) h241) (by omega) (by omega) (by omega) rfl rfl (Nat.le_of_ble_eq_true rfl) dL_randomLinker_662 (g_sameN ?_)
    refine g_aload_n hF 0 rfl rfl dL_randomLinker_665 ?_
    refine g_aload_n hF 1 rfl rfl dL_randomLinker_666 ?_
    refine g_aload hF 3 rfl dL_randomLinker_667 ?_
    refine g_get_i hF fl_RL_209 q_237 dL_randomLinker_669 ?_
    obtain ⟨x242, h242, h⟩ := gbnd h
    refine g_callS hF my_L_writeNumber kw_1362 kw_1363 (c_L_writeNumber (d := d - 1) (by omega) q_234 q_235 h242) (by omega) (by omega) (by omega) rfl rfl (Nat.le_of_ble_eq_true rfl) dL_randomLinker_672 (g_sameN ?_)
    refine g_aload_n hF 0 rfl rfl dL_randomLinker_675 ?_
    refine g_aload_n hF 1 rfl rfl dL_randomLinker_676 ?_
    refine g_ldcS (tx := ";") (a := gSB + 17) hF (by decide +kernel) (Nat.le_add_right _ _) dL_randomLinker_677 ?_
    obtain ⟨x243, h243, h⟩ := gbnd h
    refine g_callS hF my_L_write kw_1106 kw_1107 (c_L_write (d := d - 1) (by omega) q_234 q_235 (gStr_c (i := 17) (by decide)) h243) (by omega) (by omega) (by omega) rfl rfl (Nat.le_of_ble_eq_true rfl) dL_randomLinker_679 (g_sameN ?_)
    exact gG_sub [0, 1, 2, 3, 4] rfl (t_L_randomLinker_682 hF hn hd (by omega) (by omega) q_234 q_235 q_236 q_237 h (fun ad1 x1 y1 => hR ad1 (gExt.tr X233 x1) (gad_call y1 X233 W233)))
theorem c_L_randomLinker {d : Nat} {T : gT} {M : gM} {c9 s9 : Nat} {m_a0 m_a1 m_a2 : Nat} {a0 : Nat} {a1 : Nat} {a2 : Nat} {i3 : Int32} {i4 : Int32} {o : Nat × gT × gM} (hd : 59 ≤ d) (q0 : T[a0]? = some (8, m_a0)) (q1 : T[a1]? = some (11, m_a1)) (q2 : T[a2]? = some (18, m_a2)) (h : f_L_randomLinker T M a0 a1 a2 i3 i4 = some (o, c9, s9)) : gRet d yL_randomLinker cL_randomLinker 11 (some (.object RX10)) c9 s9 [.ref a0, .ref a1, .ref a2, .int i3, .int i4] T M (gMade T (some (.ref o.1)) o.2.1 o.2.2) := by
  refine gRet_of (own := RL) (by decide) rfl (Nat.le_of_ble_eq_true rfl) (fun Z ad0 hn h0 hF => ?_)
  exact t_L_randomLinker (ce := 0) (so := 0) hF hn hd (by omega) (by omega) q0 q1 q2 h (fun ad1 x1 y1 => ⟨rfl, rfl, rfl, x1, y1⟩)
theorem t_L_agrees_182 {Z : gZ} {d mc ms : Nat} {Acc : Option Value → (Nat → Nat) → gT → gM → Prop} {AccX : Nat → (Nat → Nat) → gT → gM → Prop} {ad : Nat → Nat} {T : gT} {M : gM} {ce so c9 s9 K KS : Nat} {m_a0 m_a1 m_a3 : Nat} {a0 : Nat} {a1 : Nat} {a3 : Nat} {i4 : Int32} {i5 : Int32} {k0 : Int32} {o : (Int32 × gT × gM) ⊕ (Int32 × Int32 × gT × gM)} (hF : gFix Z cL_agrees RL "agrees" (some .boolean) d mc ms Acc AccX) (hn : Z.2.2.2.2.2.1 = 6) (hd : 14 ≤ d) (hk1 : ce + c9 + K ≤ mc) (hk2 : so + s9 + KS ≤ ms) (q0 : T[a0]? = some (8, m_a0)) (q1 : T[a1]? = some (16, m_a1)) (q3 : T[a3]? = some (15, m_a3)) (h : f_L_agrees_182 T M a0 a1 a3 i4 i5 k0 = some (o, c9, s9)) (hE : ∀ (e9 : Int32 × gT × gM) (ad1 : Nat → Nat) (ce1 so1 : Nat), o = .inl e9 → gExt T e9.2.1 → (∀ a : Nat, a < T.length → ad1 a = ad a) → ce1 + K ≤ mc → so1 + KS ≤ ms → gG Z ad1 e9.2.1 e9.2.2 ce1 so1 189 [(0, .ref a0), (1, .ref a1), (2, .int e9.1), (3, .ref a3), (4, .int i4)] []) (hN : ∀ (n9 : Int32 × Int32 × gT × gM) (ad1 : Nat → Nat) (ce1 so1 : Nat), o = .inr n9 → gExt T n9.2.2.1 → (∀ a : Nat, a < T.length → ad1 a = ad a) → ce1 + K ≤ mc → so1 + KS ≤ ms → gG Z ad1 n9.2.2.1 n9.2.2.2 ce1 so1 122 [(0, .ref a0), (1, .ref a1), (2, .int n9.1), (3, .ref a3), (4, .int i4), (5, .int n9.2.1)] []) : gG Z ad T M ce so 182 [(0, .ref a0), (1, .ref a1), (3, .ref a3), (4, .int i4), (5, .int i5)] [.int k0] := by
  unfold f_L_agrees_182 at h
  refine g_istore_n (ls' := [(2, .int k0), (0, .ref a0), (1, .ref a1), (3, .ref a3), (4, .int i4), (5, .int i5)]) hF rfl (by rw [hn]; decide) rfl dL_agrees_182 ?_
  refine g_iinc (n := 1) (v := (i5 + (1 : Int32))) (ls' := [(5, .int (i5 + (1 : Int32))), (2, .int k0), (0, .ref a0), (1, .ref a1), (3, .ref a3), (4, .int i4)]) hF 5 rfl rfl (by rw [hn]; decide) rfl dL_agrees_183 ?_
  refine g_goto (tgt := 122) hF dL_agrees_186 (by decide) ?_
  cases h
  exact gG_sub [2, 3, 1, 4, 5, 0] rfl (hN _ _ _ _ rfl gExt.rf (fun _ _ => rfl) (by omega) (by omega))
theorem t_L_agrees_181 {Z : gZ} {d mc ms : Nat} {Acc : Option Value → (Nat → Nat) → gT → gM → Prop} {AccX : Nat → (Nat → Nat) → gT → gM → Prop} {ad : Nat → Nat} {T : gT} {M : gM} {ce so c9 s9 K KS : Nat} {m_a0 m_a1 m_a3 : Nat} {a0 : Nat} {a1 : Nat} {a3 : Nat} {i4 : Int32} {i5 : Int32} {o : (Int32 × gT × gM) ⊕ (Int32 × Int32 × gT × gM)} (hF : gFix Z cL_agrees RL "agrees" (some .boolean) d mc ms Acc AccX) (hn : Z.2.2.2.2.2.1 = 6) (hd : 14 ≤ d) (hk1 : ce + c9 + K ≤ mc) (hk2 : so + s9 + KS ≤ ms) (q0 : T[a0]? = some (8, m_a0)) (q1 : T[a1]? = some (16, m_a1)) (q3 : T[a3]? = some (15, m_a3)) (h : f_L_agrees_181 T M a0 a1 a3 i4 i5 = some (o, c9, s9)) (hE : ∀ (e9 : Int32 × gT × gM) (ad1 : Nat → Nat) (ce1 so1 : Nat), o = .inl e9 → gExt T e9.2.1 → (∀ a : Nat, a < T.length → ad1 a = ad a) → ce1 + K ≤ mc → so1 + KS ≤ ms → gG Z ad1 e9.2.1 e9.2.2 ce1 so1 189 [(0, .ref a0), (1, .ref a1), (2, .int e9.1), (3, .ref a3), (4, .int i4)] []) (hN : ∀ (n9 : Int32 × Int32 × gT × gM) (ad1 : Nat → Nat) (ce1 so1 : Nat), o = .inr n9 → gExt T n9.2.2.1 → (∀ a : Nat, a < T.length → ad1 a = ad a) → ce1 + K ≤ mc → so1 + KS ≤ ms → gG Z ad1 n9.2.2.1 n9.2.2.2 ce1 so1 122 [(0, .ref a0), (1, .ref a1), (2, .int n9.1), (3, .ref a3), (4, .int i4), (5, .int n9.2.1)] []) : gG Z ad T M ce so 181 [(0, .ref a0), (1, .ref a1), (3, .ref a3), (4, .int i4), (5, .int i5)] [] := by
  unfold f_L_agrees_181 at h
  refine g_iconst (v := (0 : Int32)) hF rfl dL_agrees_181 ?_
  exact gG_sub [0, 1, 2, 3, 4] rfl (t_L_agrees_182 hF hn hd (by omega) (by omega) q0 q1 q3 h (fun v9 ad1 ce1 so1 q9 x1 y1 => hE v9 ad1 ce1 so1 q9 (gExt.tr gExt.rf x1) (gad_call y1 gExt.rf (fun _ _ => rfl))) (fun v9 ad1 ce1 so1 q9 x1 y1 => hN v9 ad1 ce1 so1 q9 (gExt.tr gExt.rf x1) (gad_call y1 gExt.rf (fun _ _ => rfl))))
theorem t_L_agrees_112 {Z : gZ} {d mc ms : Nat} {Acc : Option Value → (Nat → Nat) → gT → gM → Prop} {AccX : Nat → (Nat → Nat) → gT → gM → Prop} {ad : Nat → Nat} {T : gT} {M : gM} {ce so c9 s9 K KS : Nat} {m_a0 m_a1 m_a3 : Nat} {a0 : Nat} {a1 : Nat} {a3 : Nat} {i4 : Int32} {i5 : Int32} {k0 : Int32} {o : (Int32 × gT × gM) ⊕ (Int32 × Int32 × gT × gM)} (hF : gFix Z cL_agrees RL "agrees" (some .boolean) d mc ms Acc AccX) (hn : Z.2.2.2.2.2.1 = 6) (hd : 14 ≤ d) (hk1 : ce + c9 + K ≤ mc) (hk2 : so + s9 + KS ≤ ms) (q0 : T[a0]? = some (8, m_a0)) (q1 : T[a1]? = some (16, m_a1)) (q3 : T[a3]? = some (15, m_a3)) (h : f_L_agrees_112 T M a0 a1 a3 i4 i5 k0 = some (o, c9, s9)) (hE : ∀ (e9 : Int32 × gT × gM) (ad1 : Nat → Nat) (ce1 so1 : Nat), o = .inl e9 → gExt T e9.2.1 → (∀ a : Nat, a < T.length → ad1 a = ad a) → ce1 + K ≤ mc → so1 + KS ≤ ms → gG Z ad1 e9.2.1 e9.2.2 ce1 so1 119 [(0, .ref a0), (1, .ref a1), (2, .int e9.1), (3, .ref a3), (4, .int i4)] []) (hN : ∀ (n9 : Int32 × Int32 × gT × gM) (ad1 : Nat → Nat) (ce1 so1 : Nat), o = .inr n9 → gExt T n9.2.2.1 → (∀ a : Nat, a < T.length → ad1 a = ad a) → ce1 + K ≤ mc → so1 + KS ≤ ms → gG Z ad1 n9.2.2.1 n9.2.2.2 ce1 so1 77 [(0, .ref a0), (1, .ref a1), (2, .int n9.1), (3, .ref a3), (4, .int i4), (5, .int n9.2.1)] []) : gG Z ad T M ce so 112 [(0, .ref a0), (1, .ref a1), (3, .ref a3), (4, .int i4), (5, .int i5)] [.int k0] := by
  unfold f_L_agrees_112 at h
  refine g_istore_n (ls' := [(2, .int k0), (0, .ref a0), (1, .ref a1), (3, .ref a3), (4, .int i4), (5, .int i5)]) hF rfl (by rw [hn]; decide) rfl dL_agrees_112 ?_
  refine g_iinc (n := 1) (v := (i5 + (1 : Int32))) (ls' := [(5, .int (i5 + (1 : Int32))), (2, .int k0), (0, .ref a0), (1, .ref a1), (3, .ref a3), (4, .int i4)]) hF 5 rfl rfl (by rw [hn]; decide) rfl dL_agrees_113 ?_
  refine g_goto (tgt := 77) hF dL_agrees_116 (by decide) ?_
  cases h
  exact gG_sub [2, 3, 1, 4, 5, 0] rfl (hN _ _ _ _ rfl gExt.rf (fun _ _ => rfl) (by omega) (by omega))
theorem t_L_agrees_B122 {Z : gZ} {d mc ms : Nat} {Acc : Option Value → (Nat → Nat) → gT → gM → Prop} {AccX : Nat → (Nat → Nat) → gT → gM → Prop} {ad : Nat → Nat} {T : gT} {M : gM} {ce so c9 s9 K KS : Nat}  {a0 : Nat} {a1 : Nat} {i2 : Int32} {a3 : Nat} {i4 : Int32} {i5 : Int32} {o : (Int32 × gT × gM) ⊕ (Int32 × Int32 × gT × gM)} (hF : gFix Z cL_agrees RL "agrees" (some .boolean) d mc ms Acc AccX) (hn : Z.2.2.2.2.2.1 = 6) (hd : 14 ≤ d) (hk1 : ce + c9 + K ≤ mc) (hk2 : so + s9 + KS ≤ ms)  (h : f_L_agrees_B122 T M a0 a1 i2 a3 i4 i5 = some (o, c9, s9)) (hE : ∀ (e9 : Int32 × gT × gM) (ad1 : Nat → Nat) (ce1 so1 : Nat), o = .inl e9 → gExt T e9.2.1 → (∀ a : Nat, a < T.length → ad1 a = ad a) → ce1 + K ≤ mc → so1 + KS ≤ ms → gG Z ad1 e9.2.1 e9.2.2 ce1 so1 189 [(0, .ref a0), (1, .ref a1), (2, .int e9.1), (3, .ref a3), (4, .int i4)] []) (hN : ∀ (n9 : Int32 × Int32 × gT × gM) (ad1 : Nat → Nat) (ce1 so1 : Nat), o = .inr n9 → gExt T n9.2.2.1 → (∀ a : Nat, a < T.length → ad1 a = ad a) → ce1 + K ≤ mc → so1 + KS ≤ ms → gG Z ad1 n9.2.2.1 n9.2.2.2 ce1 so1 122 [(0, .ref a0), (1, .ref a1), (2, .int n9.1), (3, .ref a3), (4, .int i4), (5, .int n9.2.1)] []) : gG Z ad T M ce so 122 [(0, .ref a0), (1, .ref a1), (2, .int i2), (3, .ref a3), (4, .int i4), (5, .int i5)] [] := by
  unfold f_L_agrees_B122 at h
  obtain ⟨_, h1, h⟩ := gbnd h
  obtain ⟨l1, q_1⟩ := gkd_sp h1
  obtain ⟨_, h2, h⟩ := gbnd h
  obtain ⟨l2, q_2⟩ := gkd_sp h2
  obtain ⟨_, h4, h⟩ := gbnd h
  obtain ⟨l4, q_4⟩ := gkd_sp h4
  refine g_iload hF 5 rfl dL_agrees_122 ?_
  refine g_aload_n hF 1 rfl rfl dL_agrees_124 ?_
  refine g_get_i hF fl_RL_141 q_2 dL_agrees_125 ?_
  refine g_icmp_ge (tgt := 189) hF dL_agrees_128 (by decide) (fun c7 => ?_) (fun c7 => ?_)
  · replace h := gif_t c7 h
    cases h
    exact gG_sub [0, 1, 2, 3, 4] rfl (hE _ _ _ _ rfl gExt.rf (fun _ _ => rfl) (by omega) (by omega))
  · replace h := gif_f c7 h
    refine g_iload_n hF 2 rfl rfl dL_agrees_131 ?_
    refine g_if_eq (tgt := 189) hF dL_agrees_132 (by decide) (fun c8 => ?_) (fun c8 => ?_)
    · replace h := gif_t c8 h
      cases h
      exact gG_sub [0, 1, 2, 3, 4] rfl (hE _ _ _ _ rfl gExt.rf (fun _ _ => rfl) (by omega) (by omega))
    · replace h := gif_f c8 h
      refine g_aload_n hF 0 rfl rfl dL_agrees_135 ?_
      refine g_iload hF 4 rfl dL_agrees_136 ?_
      refine g_iload hF 5 rfl dL_agrees_138 ?_
      obtain ⟨x9, h9, h⟩ := gbnd h
      obtain ⟨c9, s9, h, ec9, es9⟩ := cadd_sp h
      refine g_callSW hF (n := 3) kw_1473 kw_64 rfl (by decide +kernel) (by decide +kernel) (by decide) kw_1471 kw_1472 (c_L_offer (d := d - 1) (by omega) q_1 h9) (by omega) (by omega) (by omega) rfl rfl (Nat.le_of_ble_eq_true rfl) dL_agrees_140 (g_sameS ?_)
      refine g_aload_n hF 1 rfl rfl dL_agrees_143 ?_
      obtain ⟨b10, h10, h⟩ := gbnd h
      obtain ⟨g10, l10, q_b10⟩ := ldr_sp h10
      refine g_get_r hF g10 fl_RL_161 q_2 dL_agrees_144 ?_
      refine g_iload hF 4 rfl dL_agrees_147 ?_
      obtain ⟨b11, h11, h⟩ := gbnd h
      obtain ⟨i11h, g11, l11, q_b11⟩ := aldr_sp q_b10 h11
      refine g_aald hF q_b10 (Or.inr (Or.inr (Or.inl ⟨rfl, rfl⟩))) i11h g11 dL_agrees_149 ?_
      obtain ⟨b12, h12, h⟩ := gbnd h
      obtain ⟨g12, l12, q_b12⟩ := ldr_sp h12
      refine g_get_r hF g12 fl_RL_172 q_b11 dL_agrees_150 ?_
      refine g_iload hF 5 rfl dL_agrees_153 ?_
      obtain ⟨v13, h13, h⟩ := gbnd h
      obtain ⟨i13h, e13v⟩ := ald_sp q_b12 h13
      refine g_iald hF q_b12 i13h dL_agrees_155 ?_
      rw [← e13v]
      refine g_icmp_ne (tgt := 181) hF dL_agrees_156 (by decide) (fun c14 => ?_) (fun c14 => ?_)
      · replace h := gif_t c14 h
        exact gG_sub [0, 1, 3, 4, 5] rfl (t_L_agrees_181 hF hn hd (by omega) (by omega) q_1 q_2 q_4 h (fun v9 ad1 ce1 so1 q9 x1 y1 => hE v9 ad1 ce1 so1 q9 (gExt.tr gExt.rf x1) (gad_call y1 gExt.rf (fun _ _ => rfl))) (fun v9 ad1 ce1 so1 q9 x1 y1 => hN v9 ad1 ce1 so1 q9 (gExt.tr gExt.rf x1) (gad_call y1 gExt.rf (fun _ _ => rfl))))
      · replace h := gif_n c14 h
        refine g_aload_n hF 0 rfl rfl dL_agrees_159 ?_
        refine g_iload hF 4 rfl dL_agrees_160 ?_
        refine g_iload hF 5 rfl dL_agrees_162 ?_
        obtain ⟨x15, h15, h⟩ := gbnd h
        obtain ⟨c15, s15, h, ec15, es15⟩ := cadd_sp h
        refine g_callSW hF (n := 3) kw_1477 kw_64 rfl (by decide +kernel) (by decide +kernel) (by decide) kw_1475 kw_1476 (c_L_binding (d := d - 1) (by omega) q_1 h15) (by omega) (by omega) (by omega) rfl rfl (Nat.le_of_ble_eq_true rfl) dL_agrees_164 (g_sameS ?_)
        refine g_aload_n hF 3 rfl rfl dL_agrees_167 ?_
        refine g_iload hF 4 rfl dL_agrees_168 ?_
        obtain ⟨b16, h16, h⟩ := gbnd h
        obtain ⟨i16h, g16, l16, q_b16⟩ := aldr_sp q_4 h16
        refine g_aald2 hF q_4 i16h g16 dL_agrees_170 ?_
        refine g_iload hF 5 rfl dL_agrees_171 ?_
        obtain ⟨v17, h17, h⟩ := gbnd h
        obtain ⟨i17h, e17v⟩ := ald_sp q_b16 h17
        refine g_iald hF q_b16 i17h dL_agrees_173 ?_
        rw [← e17v]
        refine g_icmp_ne (tgt := 181) hF dL_agrees_174 (by decide) (fun c18 => ?_) (fun c18 => ?_)
        · replace h := gif_t c18 h
          exact gG_sub [0, 1, 3, 4, 5] rfl (t_L_agrees_181 hF hn hd (by omega) (by omega) q_1 q_2 q_4 h (fun v9 ad1 ce1 so1 q9 x1 y1 => hE v9 ad1 ce1 so1 q9 (gExt.tr gExt.rf x1) (gad_call y1 gExt.rf (fun _ _ => rfl))) (fun v9 ad1 ce1 so1 q9 x1 y1 => hN v9 ad1 ce1 so1 q9 (gExt.tr gExt.rf x1) (gad_call y1 gExt.rf (fun _ _ => rfl))))
        · replace h := gif_n c18 h
          refine g_iconst (v := (1 : Int32)) hF rfl dL_agrees_177 ?_
          refine g_goto (tgt := 182) hF dL_agrees_178 (by decide) ?_
          exact gG_sub [0, 1, 3, 4, 5] rfl (t_L_agrees_182 hF hn hd (by omega) (by omega) q_1 q_2 q_4 h (fun v9 ad1 ce1 so1 q9 x1 y1 => hE v9 ad1 ce1 so1 q9 (gExt.tr gExt.rf x1) (gad_call y1 gExt.rf (fun _ _ => rfl))) (fun v9 ad1 ce1 so1 q9 x1 y1 => hN v9 ad1 ce1 so1 q9 (gExt.tr gExt.rf x1) (gad_call y1 gExt.rf (fun _ _ => rfl))))
theorem t_L_agrees_L122 {Z : gZ} {d mc ms : Nat} {Acc : Option Value → (Nat → Nat) → gT → gM → Prop} {AccX : Nat → (Nat → Nat) → gT → gM → Prop} {K KS : Nat} {a0 : Nat} {a1 : Nat} {a3 : Nat} {i4 : Int32} (hF : gFix Z cL_agrees RL "agrees" (some .boolean) d mc ms Acc AccX) (hn : Z.2.2.2.2.2.1 = 6) (hd : 14 ≤ d) : ∀ (n9 : Nat) {ad : Nat → Nat} {x0 : Int32 × Int32 × gT × gM} {e0 : Int32 × gT × gM} {ce so c9 s9 : Nat}, gloopc (fun x : Int32 × Int32 × gT × gM => f_L_agrees_B122 x.2.2.1 x.2.2.2 a0 a1 x.1 a3 i4 x.2.1) n9 x0 = some (e0, c9, s9) → ce + c9 + K ≤ mc → so + s9 + KS ≤ ms → ∀ (hE : ∀ (e9 : Int32 × gT × gM) (ad1 : Nat → Nat) (ce1 so1 : Nat), e0 = e9 → gExt x0.2.2.1 e9.2.1 → (∀ a : Nat, a < x0.2.2.1.length → ad1 a = ad a) → ce1 + K ≤ mc → so1 + KS ≤ ms → gG Z ad1 e9.2.1 e9.2.2 ce1 so1 189 [(0, .ref a0), (1, .ref a1), (2, .int e9.1), (3, .ref a3), (4, .int i4)] []), gG Z ad x0.2.2.1 x0.2.2.2 ce so 122 [(0, .ref a0), (1, .ref a1), (2, .int x0.1), (3, .ref a3), (4, .int i4), (5, .int x0.2.1)] []
  | 0 => fun h => nomatch h
  | n9 + 1 => fun h hk1 hk2 hE => by
    rcases gloopc_sp h with hB | ⟨a9, c1, s1, c2, s2, hB, h2, e1, e2⟩
    · exact t_L_agrees_B122 (K := K) (KS := KS) hF hn hd hk1 hk2 hB (fun e9 ad1 ce1 so1 q9 => hE e9 ad1 ce1 so1 (Sum.inl.inj q9)) (fun n8 ad1 ce1 so1 q9 => nomatch q9)
    · exact t_L_agrees_B122 (K := c2 + K) (KS := s2 + KS) hF hn hd (by omega) (by omega) hB (fun e9 ad1 ce1 so1 q9 => nomatch q9) (fun n8 ad1 ce1 so1 q9 x9 y9 k1 k2 => by rw [← Sum.inr.inj q9] at x9 ⊢; exact t_L_agrees_L122 (K := K) (KS := KS) hF hn hd n9 h2 (by omega) (by omega) (fun e9 ad2 ce2 so2 q8 x2 y2 => hE e9 ad2 ce2 so2 q8 (gExt.tr x9 x2) (gad_call y2 x9 y9)))
theorem t_L_agrees_B77 {Z : gZ} {d mc ms : Nat} {Acc : Option Value → (Nat → Nat) → gT → gM → Prop} {AccX : Nat → (Nat → Nat) → gT → gM → Prop} {ad : Nat → Nat} {T : gT} {M : gM} {ce so c9 s9 K KS : Nat}  {a0 : Nat} {a1 : Nat} {i2 : Int32} {a3 : Nat} {i4 : Int32} {i5 : Int32} {o : (Int32 × gT × gM) ⊕ (Int32 × Int32 × gT × gM)} (hF : gFix Z cL_agrees RL "agrees" (some .boolean) d mc ms Acc AccX) (hn : Z.2.2.2.2.2.1 = 6) (hd : 14 ≤ d) (hk1 : ce + c9 + K ≤ mc) (hk2 : so + s9 + KS ≤ ms)  (h : f_L_agrees_B77 T M a0 a1 i2 a3 i4 i5 = some (o, c9, s9)) (hE : ∀ (e9 : Int32 × gT × gM) (ad1 : Nat → Nat) (ce1 so1 : Nat), o = .inl e9 → gExt T e9.2.1 → (∀ a : Nat, a < T.length → ad1 a = ad a) → ce1 + K ≤ mc → so1 + KS ≤ ms → gG Z ad1 e9.2.1 e9.2.2 ce1 so1 119 [(0, .ref a0), (1, .ref a1), (2, .int e9.1), (3, .ref a3), (4, .int i4)] []) (hN : ∀ (n9 : Int32 × Int32 × gT × gM) (ad1 : Nat → Nat) (ce1 so1 : Nat), o = .inr n9 → gExt T n9.2.2.1 → (∀ a : Nat, a < T.length → ad1 a = ad a) → ce1 + K ≤ mc → so1 + KS ≤ ms → gG Z ad1 n9.2.2.1 n9.2.2.2 ce1 so1 77 [(0, .ref a0), (1, .ref a1), (2, .int n9.1), (3, .ref a3), (4, .int i4), (5, .int n9.2.1)] []) : gG Z ad T M ce so 77 [(0, .ref a0), (1, .ref a1), (2, .int i2), (3, .ref a3), (4, .int i4), (5, .int i5)] [] := by
  unfold f_L_agrees_B77 at h
  obtain ⟨_, h19, h⟩ := gbnd h
  obtain ⟨l19, q_19⟩ := gkd_sp h19
  obtain ⟨_, h20, h⟩ := gbnd h
  obtain ⟨l20, q_20⟩ := gkd_sp h20
  obtain ⟨_, h22, h⟩ := gbnd h
  obtain ⟨l22, q_22⟩ := gkd_sp h22
  refine g_iload hF 5 rfl dL_agrees_77 ?_
  refine g_bipush (v := (6 : Int32)) hF rfl dL_agrees_79 ?_
  refine g_icmp_ge (tgt := 119) hF dL_agrees_81 (by decide) (fun c25 => ?_) (fun c25 => ?_)
  · replace h := gif_t c25 h
    cases h
    exact gG_sub [0, 1, 2, 3, 4] rfl (hE _ _ _ _ rfl gExt.rf (fun _ _ => rfl) (by omega) (by omega))
  · replace h := gif_f c25 h
    refine g_iload_n hF 2 rfl rfl dL_agrees_84 ?_
    refine g_if_eq (tgt := 119) hF dL_agrees_85 (by decide) (fun c26 => ?_) (fun c26 => ?_)
    · replace h := gif_t c26 h
      cases h
      exact gG_sub [0, 1, 2, 3, 4] rfl (hE _ _ _ _ rfl gExt.rf (fun _ _ => rfl) (by omega) (by omega))
    · replace h := gif_f c26 h
      refine g_aload_n hF 0 rfl rfl dL_agrees_88 ?_
      refine g_iload hF 4 rfl dL_agrees_89 ?_
      refine g_iload hF 5 rfl dL_agrees_91 ?_
      obtain ⟨x27, h27, h⟩ := gbnd h
      obtain ⟨c27, s27, h, ec27, es27⟩ := cadd_sp h
      refine g_callSW hF (n := 3) kw_1468 kw_64 rfl (by decide +kernel) (by decide +kernel) (by decide) kw_1466 kw_1467 (c_L_library (d := d - 1) (by omega) q_19 h27) (by omega) (by omega) (by omega) rfl rfl (Nat.le_of_ble_eq_true rfl) dL_agrees_93 (g_sameS ?_)
      refine g_aload_n hF 1 rfl rfl dL_agrees_96 ?_
      refine g_iload hF 4 rfl dL_agrees_97 ?_
      refine g_iload hF 5 rfl dL_agrees_99 ?_
      obtain ⟨x28, h28, h⟩ := gbnd h
      obtain ⟨c28, s28, h, ec28, es28⟩ := cadd_sp h
      refine g_callV hF my_X10_told kw_1470 kw_1458 kw_1459 gC_16.1 (by decide) q_20 (c_X10_told (d := d - 1) (by omega) q_20 (trip h28)) (by omega) (by omega) (by omega) rfl rfl (Nat.le_of_ble_eq_true rfl) dL_agrees_101 (g_madeS (gOld_r (gT_lt q_19) (gOld_r (gT_lt q_20) (gOld_i (gOld_r (gT_lt q_22) (gOld_i (gOld_i gOld_0)))))) (gOld_i gOld_0) (fun ad28 e28 y28 => ?_))
      have X28 := gExt.tr gExt.rf e28
      have W28 := gad_call y28 gExt.rf (fun _ _ => rfl)
      have q_29 := e28 _ _ q_19
      have q_30 := e28 _ _ q_20
      have q_31 := e28 _ _ q_22
      refine g_icmp_ne (tgt := 111) hF dL_agrees_104 (by decide) (fun c32 => ?_) (fun c32 => ?_)
      · replace h := gif_t c32 h
        refine g_iconst (v := (0 : Int32)) hF rfl dL_agrees_111 ?_
        exact gG_sub [0, 1, 3, 4, 5] rfl (t_L_agrees_112 hF hn hd (by omega) (by omega) q_29 q_30 q_31 h (fun v9 ad1 ce1 so1 q9 x1 y1 => hE v9 ad1 ce1 so1 q9 (gExt.tr X28 x1) (gad_call y1 X28 W28)) (fun v9 ad1 ce1 so1 q9 x1 y1 => hN v9 ad1 ce1 so1 q9 (gExt.tr X28 x1) (gad_call y1 X28 W28)))
      · replace h := gif_n c32 h
        refine g_iconst (v := (1 : Int32)) hF rfl dL_agrees_107 ?_
        refine g_goto (tgt := 112) hF dL_agrees_108 (by decide) ?_
        exact gG_sub [0, 1, 3, 4, 5] rfl (t_L_agrees_112 hF hn hd (by omega) (by omega) q_29 q_30 q_31 h (fun v9 ad1 ce1 so1 q9 x1 y1 => hE v9 ad1 ce1 so1 q9 (gExt.tr X28 x1) (gad_call y1 X28 W28)) (fun v9 ad1 ce1 so1 q9 x1 y1 => hN v9 ad1 ce1 so1 q9 (gExt.tr X28 x1) (gad_call y1 X28 W28)))
theorem t_L_agrees_L77 {Z : gZ} {d mc ms : Nat} {Acc : Option Value → (Nat → Nat) → gT → gM → Prop} {AccX : Nat → (Nat → Nat) → gT → gM → Prop} {K KS : Nat} {a0 : Nat} {a1 : Nat} {a3 : Nat} {i4 : Int32} (hF : gFix Z cL_agrees RL "agrees" (some .boolean) d mc ms Acc AccX) (hn : Z.2.2.2.2.2.1 = 6) (hd : 14 ≤ d) : ∀ (n9 : Nat) {ad : Nat → Nat} {x0 : Int32 × Int32 × gT × gM} {e0 : Int32 × gT × gM} {ce so c9 s9 : Nat}, gloopc (fun x : Int32 × Int32 × gT × gM => f_L_agrees_B77 x.2.2.1 x.2.2.2 a0 a1 x.1 a3 i4 x.2.1) n9 x0 = some (e0, c9, s9) → ce + c9 + K ≤ mc → so + s9 + KS ≤ ms → ∀ (hE : ∀ (e9 : Int32 × gT × gM) (ad1 : Nat → Nat) (ce1 so1 : Nat), e0 = e9 → gExt x0.2.2.1 e9.2.1 → (∀ a : Nat, a < x0.2.2.1.length → ad1 a = ad a) → ce1 + K ≤ mc → so1 + KS ≤ ms → gG Z ad1 e9.2.1 e9.2.2 ce1 so1 119 [(0, .ref a0), (1, .ref a1), (2, .int e9.1), (3, .ref a3), (4, .int i4)] []), gG Z ad x0.2.2.1 x0.2.2.2 ce so 77 [(0, .ref a0), (1, .ref a1), (2, .int x0.1), (3, .ref a3), (4, .int i4), (5, .int x0.2.1)] []
  | 0 => fun h => nomatch h
  | n9 + 1 => fun h hk1 hk2 hE => by
    rcases gloopc_sp h with hB | ⟨a9, c1, s1, c2, s2, hB, h2, e1, e2⟩
    · exact t_L_agrees_B77 (K := K) (KS := KS) hF hn hd hk1 hk2 hB (fun e9 ad1 ce1 so1 q9 => hE e9 ad1 ce1 so1 (Sum.inl.inj q9)) (fun n8 ad1 ce1 so1 q9 => nomatch q9)
    · exact t_L_agrees_B77 (K := c2 + K) (KS := s2 + KS) hF hn hd (by omega) (by omega) hB (fun e9 ad1 ce1 so1 q9 => nomatch q9) (fun n8 ad1 ce1 so1 q9 x9 y9 k1 k2 => by rw [← Sum.inr.inj q9] at x9 ⊢; exact t_L_agrees_L77 (K := K) (KS := KS) hF hn hd n9 h2 (by omega) (by omega) (fun e9 ad2 ce2 so2 q8 x2 y2 => hE e9 ad2 ce2 so2 q8 (gExt.tr x9 x2) (gad_call y2 x9 y9)))
theorem t_L_agrees_B60 {Z : gZ} {d mc ms : Nat} {Acc : Option Value → (Nat → Nat) → gT → gM → Prop} {AccX : Nat → (Nat → Nat) → gT → gM → Prop} {ad : Nat → Nat} {T : gT} {M : gM} {ce so c9 s9 K KS : Nat}  {a0 : Nat} {a1 : Nat} {i2 : Int32} {a3 : Nat} {i4 : Int32} {o : (Int32 × gT × gM) ⊕ (Int32 × Int32 × gT × gM)} (hF : gFix Z cL_agrees RL "agrees" (some .boolean) d mc ms Acc AccX) (hn : Z.2.2.2.2.2.1 = 6) (hd : 14 ≤ d) (hk1 : ce + c9 + K ≤ mc) (hk2 : so + s9 + KS ≤ ms)  (h : f_L_agrees_B60 T M a0 a1 i2 a3 i4 = some (o, c9, s9)) (hE : ∀ (e9 : Int32 × gT × gM) (ad1 : Nat → Nat) (ce1 so1 : Nat), o = .inl e9 → gExt T e9.2.1 → (∀ a : Nat, a < T.length → ad1 a = ad a) → ce1 + K ≤ mc → so1 + KS ≤ ms → gG Z ad1 e9.2.1 e9.2.2 ce1 so1 195 [(0, .ref a0), (1, .ref a1), (2, .int e9.1)] []) (hN : ∀ (n9 : Int32 × Int32 × gT × gM) (ad1 : Nat → Nat) (ce1 so1 : Nat), o = .inr n9 → gExt T n9.2.2.1 → (∀ a : Nat, a < T.length → ad1 a = ad a) → ce1 + K ≤ mc → so1 + KS ≤ ms → gG Z ad1 n9.2.2.1 n9.2.2.2 ce1 so1 60 [(0, .ref a0), (1, .ref a1), (2, .int n9.1), (3, .ref a3), (4, .int n9.2.1)] []) : gG Z ad T M ce so 60 [(0, .ref a0), (1, .ref a1), (2, .int i2), (3, .ref a3), (4, .int i4)] [] := by
  unfold f_L_agrees_B60 at h
  obtain ⟨_, h33, h⟩ := gbnd h
  obtain ⟨l33, q_33⟩ := gkd_sp h33
  obtain ⟨_, h34, h⟩ := gbnd h
  obtain ⟨l34, q_34⟩ := gkd_sp h34
  obtain ⟨_, h36, h⟩ := gbnd h
  obtain ⟨l36, q_36⟩ := gkd_sp h36
  refine g_iload hF 4 rfl dL_agrees_60 ?_
  refine g_aload_n hF 1 rfl rfl dL_agrees_62 ?_
  obtain ⟨b38, h38, h⟩ := gbnd h
  obtain ⟨g38, l38, q_b38⟩ := ldr_sp h38
  refine g_get_r hF g38 fl_RL_161 q_34 dL_agrees_63 ?_
  refine g_alenA hF q_b38 (by decide) dL_agrees_66 ?_
  refine g_icmp_ge (tgt := 195) hF dL_agrees_67 (by decide) (fun c39 => ?_) (fun c39 => ?_)
  · replace h := gif_t c39 h
    cases h
    exact gG_sub [0, 1, 2] rfl (hE _ _ _ _ rfl gExt.rf (fun _ _ => rfl) (by omega) (by omega))
  · replace h := gif_f c39 h
    refine g_iload_n hF 2 rfl rfl dL_agrees_70 ?_
    refine g_if_eq (tgt := 195) hF dL_agrees_71 (by decide) (fun c40 => ?_) (fun c40 => ?_)
    · replace h := gif_t c40 h
      cases h
      exact gG_sub [0, 1, 2] rfl (hE _ _ _ _ rfl gExt.rf (fun _ _ => rfl) (by omega) (by omega))
    · replace h := gif_f c40 h
      refine g_iconst (v := (0 : Int32)) hF rfl dL_agrees_74 ?_
      refine g_istore (ls' := [(5, .int (0 : Int32)), (0, .ref a0), (1, .ref a1), (2, .int i2), (3, .ref a3), (4, .int i4)]) hF (by rw [hn]; decide) rfl dL_agrees_75 ?_
      obtain ⟨x41, h41, h⟩ := gbnd h
      obtain ⟨c41, s41, h, ec41, es41⟩ := cadd_sp h
      refine gG_sub [1, 2, 3, 4, 5, 0] rfl (t_L_agrees_L77 (K := c41 + K) (KS := s41 + KS) hF hn hd gFU (trip h41) (by omega) (by omega) (fun e41 adE41 ceE41 soE41 qE41 xE41 yE41 kE41 kS41 => ?_))
      subst qE41
      have X41 := gExt.tr gExt.rf xE41
      have W41 := gad_call yE41 gExt.rf (fun _ _ => rfl)
      have q_42 := xE41 _ _ q_33
      have q_43 := xE41 _ _ q_34
      have q_44 := xE41 _ _ q_36
      refine g_iconst (v := (0 : Int32)) hF rfl dL_agrees_119 ?_
      refine g_istore (ls' := [(5, .int (0 : Int32)), (0, .ref a0), (1, .ref a1), (2, .int x41.1.1), (3, .ref a3), (4, .int i4)]) hF (by rw [hn]; decide) rfl dL_agrees_120 ?_
      obtain ⟨x45, h45, h⟩ := gbnd h
      obtain ⟨c45, s45, h, ec45, es45⟩ := cadd_sp h
      refine gG_sub [1, 2, 3, 4, 5, 0] rfl (t_L_agrees_L122 (K := c45 + K) (KS := s45 + KS) hF hn hd gFU (trip h45) (by omega) (by omega) (fun e45 adE45 ceE45 soE45 qE45 xE45 yE45 kE45 kS45 => ?_))
      subst qE45
      have X45 := gExt.tr X41 xE45
      have W45 := gad_call yE45 X41 W41
      have q_46 := xE45 _ _ q_42
      have q_47 := xE45 _ _ q_43
      have q_48 := xE45 _ _ q_44
      refine g_iinc (n := 1) (v := (i4 + (1 : Int32))) (ls' := [(4, .int (i4 + (1 : Int32))), (0, .ref a0), (1, .ref a1), (2, .int x45.1.1), (3, .ref a3)]) hF 4 rfl rfl (by rw [hn]; decide) rfl dL_agrees_189 ?_
      refine g_goto (tgt := 60) hF dL_agrees_192 (by decide) ?_
      cases h
      exact gG_sub [1, 2, 3, 4, 0] rfl (hN _ _ _ _ rfl X45 W45 (by omega) (by omega))
theorem t_L_agrees_L60 {Z : gZ} {d mc ms : Nat} {Acc : Option Value → (Nat → Nat) → gT → gM → Prop} {AccX : Nat → (Nat → Nat) → gT → gM → Prop} {K KS : Nat} {a0 : Nat} {a1 : Nat} {a3 : Nat} (hF : gFix Z cL_agrees RL "agrees" (some .boolean) d mc ms Acc AccX) (hn : Z.2.2.2.2.2.1 = 6) (hd : 14 ≤ d) : ∀ (n9 : Nat) {ad : Nat → Nat} {x0 : Int32 × Int32 × gT × gM} {e0 : Int32 × gT × gM} {ce so c9 s9 : Nat}, gloopc (fun x : Int32 × Int32 × gT × gM => f_L_agrees_B60 x.2.2.1 x.2.2.2 a0 a1 x.1 a3 x.2.1) n9 x0 = some (e0, c9, s9) → ce + c9 + K ≤ mc → so + s9 + KS ≤ ms → ∀ (hE : ∀ (e9 : Int32 × gT × gM) (ad1 : Nat → Nat) (ce1 so1 : Nat), e0 = e9 → gExt x0.2.2.1 e9.2.1 → (∀ a : Nat, a < x0.2.2.1.length → ad1 a = ad a) → ce1 + K ≤ mc → so1 + KS ≤ ms → gG Z ad1 e9.2.1 e9.2.2 ce1 so1 195 [(0, .ref a0), (1, .ref a1), (2, .int e9.1)] []), gG Z ad x0.2.2.1 x0.2.2.2 ce so 60 [(0, .ref a0), (1, .ref a1), (2, .int x0.1), (3, .ref a3), (4, .int x0.2.1)] []
  | 0 => fun h => nomatch h
  | n9 + 1 => fun h hk1 hk2 hE => by
    rcases gloopc_sp h with hB | ⟨a9, c1, s1, c2, s2, hB, h2, e1, e2⟩
    · exact t_L_agrees_B60 (K := K) (KS := KS) hF hn hd hk1 hk2 hB (fun e9 ad1 ce1 so1 q9 => hE e9 ad1 ce1 so1 (Sum.inl.inj q9)) (fun n8 ad1 ce1 so1 q9 => nomatch q9)
    · exact t_L_agrees_B60 (K := c2 + K) (KS := s2 + KS) hF hn hd (by omega) (by omega) hB (fun e9 ad1 ce1 so1 q9 => nomatch q9) (fun n8 ad1 ce1 so1 q9 x9 y9 k1 k2 => by rw [← Sum.inr.inj q9] at x9 ⊢; exact t_L_agrees_L60 (K := K) (KS := KS) hF hn hd n9 h2 (by omega) (by omega) (fun e9 ad2 ce2 so2 q8 x2 y2 => hE e9 ad2 ce2 so2 q8 (gExt.tr x9 x2) (gad_call y2 x9 y9)))
