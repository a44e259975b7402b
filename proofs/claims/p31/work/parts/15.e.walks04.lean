theorem c_X9_offered {d : Nat} {T : gT} {M : gM} {m_a0 : Nat} {a0 : Nat} {o : Int32} (hd : 1 ≤ d) (q0 : T[a0]? = some (9, m_a0)) (h : f_X9_offered T M a0 = some o) : gRet d yX9_offered cX9_offered 6 (some .int) 0 0 [.ref a0] T M (gSame T (some (.int o)) M) := by
  refine gRet_of (own := RX9) (by decide) rfl (Nat.le_of_ble_eq_true rfl) (fun Z ad0 hn h0 hF => ?_)
  exact t_X9_offered (ce := 0) (so := 0) hF hn hd (Nat.le_refl _) (Nat.le_refl _) q0 h ⟨rfl, rfl, rfl, rfl⟩
theorem t_X10_init {Z : gZ} {d mc ms : Nat} {Acc : Option Value → (Nat → Nat) → gT → gM → Prop} {AccX : Nat → (Nat → Nat) → gT → gM → Prop} {ad : Nat → Nat} {T : gT} {M : gM} {ce so c9 s9 : Nat} {m_a0 : Nat} {a0 : Nat} {o : gT × gM} (hF : gFix Z cX10_init RX10 "<init>" none d mc ms Acc AccX) (hn : Z.2.2.2.2.2.1 = 1) (hd : 1 ≤ d) (hk1 : ce + c9 ≤ mc) (hk2 : so + s9 ≤ ms) (q0 : T[a0]? = some (16, m_a0)) (h : f_X10_init T M a0 = some (o, c9, s9)) (hR : ∀ ad1 : Nat → Nat, gExt T o.1 → (∀ a : Nat, a < T.length → ad1 a = ad a) → Acc (none) ad1 o.1 o.2) : gG Z ad T M ce so 0 [(0, .ref a0)] [] := by
  unfold f_X10_init at h
  refine g_aload_n hF 0 rfl rfl dX10_init_0 ?_
  refine g_obj hF kw_499 kw_102 kw_103 (by omega) (Nat.le_of_ble_eq_true rfl) dX10_init_1 ?_
  refine g_aload_n hF 0 rfl rfl dX10_init_4 ?_
  refine g_bipush (v := (50 : Int32)) hF rfl dX10_init_5 ?_
  refine g_put_i hF rfl rfl fl_RX10_7 q0 dX10_init_7 ?_
  refine g_aload_n hF 0 rfl rfl dX10_init_10 ?_
  refine g_iconst (v := (0 : Int32)) hF rfl dX10_init_11 ?_
  obtain ⟨x2, h2, h⟩ := gbnd h
  obtain ⟨c2, s2, h, ec2, es2⟩ := cadd_sp h
  have g2 : gnew T (si M a0 1 (50 : Int32)) (21, 0) = some (x2.1, x2.2.1, x2.2.2) := h2
  refine g_newq_LawLibrary (N := 0) hF (by decide) (by decide) (by decide) kw_500 g2 (gnew_lt g2) (gFr_r (gT_ne q0) gFr_0) (gFr_r (gT_ne q0) gFr_0) (by omega) (by omega) dX10_init_12 (fun ad2 z2 => ?_)
  have y2 : ∀ b : Nat, b < T.length → ad2 b = ad b := fun b hb => z2 b (by rw [(gnew_sp g2).1]; omega)
  have X2 := gExt.tr gExt.rf (gnew_ext g2)
  have W2 := gad_call y2 gExt.rf (fun _ _ => rfl)
  have q_3 := (gnew_ext g2) _ _ q0
  have q_y2 := gnew_at g2
  refine g_put_r hF (fun _ => rfl) (fun _ => rfl) (gT_lt q_y2) fl_RX10_15 q_3 dX10_init_15 ?_
  refine g_aload_n hF 0 rfl rfl dX10_init_18 ?_
  refine g_iconst (v := (0 : Int32)) hF rfl dX10_init_19 ?_
  obtain ⟨x4, h4, h⟩ := gbnd h
  obtain ⟨c4, s4, h, ec4, es4⟩ := cadd_sp h
  have g4 : gnew x2.2.1 (sr x2.2.2 a0 2 (some x2.1)) (11, 0) = some (x4.1, x4.2.1, x4.2.2) := h4
  refine g_newa_int (N := 0) hF (by decide) (by decide) (by decide) kw_167 g4 (gnew_lt g4) (gFr_r (gT_ne q_3) gFr_0) (gFr_r (gT_ne q_3) gFr_0) (by omega) (by omega) dX10_init_20 (fun ad4 z4 => ?_)
  have y4 : ∀ b : Nat, b < x2.2.1.length → ad4 b = ad2 b := fun b hb => z4 b (by rw [(gnew_sp g4).1]; omega)
  have X4 := gExt.tr X2 (gnew_ext g4)
  have W4 := gad_call y4 X2 W2
  have q_5 := (gnew_ext g4) _ _ q_3
  have q_y4 := gnew_at g4
  refine g_put_r hF (fun _ => rfl) (fun _ => rfl) (gT_lt q_y4) fl_RX10_19 q_5 dX10_init_22 ?_
  cases h
  exact g_ret_v hF rfl dX10_init_25 (hR ad4 X4 W4) (by omega) (by omega)
theorem c_X10_init {d : Nat} {T : gT} {M : gM} {c9 s9 : Nat} {m_a0 : Nat} {a0 : Nat} {o : gT × gM} (hd : 1 ≤ d) (q0 : T[a0]? = some (16, m_a0)) (h : f_X10_init T M a0 = some (o, c9, s9)) : gRet d yX10_init cX10_init 1 none c9 s9 [.ref a0] T M (gMade T (none) o.1 o.2) := by
  refine gRet_of (own := RX10) (by decide) rfl (Nat.le_of_ble_eq_true rfl) (fun Z ad0 hn h0 hF => ?_)
  exact t_X10_init (ce := 0) (so := 0) hF hn hd (by omega) (by omega) q0 h (fun ad1 x1 y1 => ⟨rfl, rfl, rfl, x1, y1⟩)
theorem t_X10_copy_B38 {Z : gZ} {d mc ms : Nat} {Acc : Option Value → (Nat → Nat) → gT → gM → Prop} {AccX : Nat → (Nat → Nat) → gT → gM → Prop} {ad : Nat → Nat} {T : gT} {M : gM} {ce so c9 s9 K KS : Nat}  {a0 : Nat} {a1 : Nat} {i2 : Int32} {o : (gT × gM) ⊕ (Int32 × gT × gM)} (hF : gFix Z cX10_copy RX10 "copy" (some (.object RX10)) d mc ms Acc AccX) (hn : Z.2.2.2.2.2.1 = 3) (hd : 3 ≤ d) (hk1 : ce + c9 + K ≤ mc) (hk2 : so + s9 + KS ≤ ms)  (h : f_X10_copy_B38 T M a0 a1 i2 = some (o, c9, s9)) (hE : ∀ (e9 : gT × gM) (ad1 : Nat → Nat) (ce1 so1 : Nat), o = .inl e9 → gExt T e9.1 → (∀ a : Nat, a < T.length → ad1 a = ad a) → ce1 + K ≤ mc → so1 + KS ≤ ms → gG Z ad1 e9.1 e9.2 ce1 so1 68 [(0, .ref a0), (1, .ref a1)] []) (hN : ∀ (n9 : Int32 × gT × gM) (ad1 : Nat → Nat) (ce1 so1 : Nat), o = .inr n9 → gExt T n9.2.1 → (∀ a : Nat, a < T.length → ad1 a = ad a) → ce1 + K ≤ mc → so1 + KS ≤ ms → gG Z ad1 n9.2.1 n9.2.2 ce1 so1 38 [(0, .ref a0), (1, .ref a1), (2, .int n9.1)] []) : gG Z ad T M ce so 38 [(0, .ref a0), (1, .ref a1), (2, .int i2)] [] := by
  unfold f_X10_copy_B38 at h
  obtain ⟨_, h1, h⟩ := gbnd h
  obtain ⟨l1, q_1⟩ := gkd_sp h1
  obtain ⟨_, h2, h⟩ := gbnd h
  obtain ⟨l2, q_2⟩ := gkd_sp h2
  refine g_iload_n hF 2 rfl rfl dX10_copy_38 ?_
  refine g_aload_n hF 0 rfl rfl dX10_copy_39 ?_
  obtain ⟨b4, h4, h⟩ := gbnd h
  obtain ⟨g4, l4, q_b4⟩ := ldr_sp h4
  refine g_get_r hF g4 fl_RX10_15 q_1 dX10_copy_40 ?_
  refine g_alenA hF q_b4 (by decide) dX10_copy_43 ?_
  refine g_icmp_ge (tgt := 68) hF dX10_copy_44 (by decide) (fun c5 => ?_) (fun c5 => ?_)
  · replace h := gif_t c5 h
    cases h
    exact gG_sub [0, 1] rfl (hE _ _ _ _ rfl gExt.rf (fun _ _ => rfl) (by omega) (by omega))
  · replace h := gif_f c5 h
    refine g_aload_n hF 1 rfl rfl dX10_copy_47 ?_
    obtain ⟨b6, h6, h⟩ := gbnd h
    obtain ⟨g6, l6, q_b6⟩ := ldr_sp h6
    refine g_get_r hF g6 fl_RX10_15 q_2 dX10_copy_48 ?_
    refine g_iload_n hF 2 rfl rfl dX10_copy_51 ?_
    refine g_aload_n hF 0 rfl rfl dX10_copy_52 ?_
    obtain ⟨b7, h7, h⟩ := gbnd h
    obtain ⟨g7, l7, q_b7⟩ := ldr_sp h7
    refine g_get_r hF g7 fl_RX10_15 q_1 dX10_copy_53 ?_
    refine g_iload_n hF 2 rfl rfl dX10_copy_56 ?_
    obtain ⟨b8, h8, h⟩ := gbnd h
    obtain ⟨i8h, g8, l8, q_b8⟩ := aldr_sp q_b7 h8
    refine g_aald hF q_b7 (Or.inr (Or.inr (Or.inl ⟨rfl, rfl⟩))) i8h g8 dX10_copy_57 ?_
    obtain ⟨x9, h9, h⟩ := gbnd h
    obtain ⟨c9, s9, h, ec9, es9⟩ := cadd_sp h
    refine g_callV hF my_X9_copy kw_529 kw_530 kw_531 gC_9.1 (by decide) q_b8 (c_X9_copy (d := d - 1) (by omega) q_b8 (trip h9)) (by omega) (by omega) (by omega) rfl rfl (Nat.le_of_ble_eq_true rfl) dX10_copy_58 (g_madeS (gOld_r (gT_lt q_1) (gOld_r (gT_lt q_2) (gOld_i gOld_0))) (gOld_i (gOld_r (gT_lt q_b6) gOld_0)) (fun ad9 e9 y9 => ?_))
    have X9 := gExt.tr gExt.rf e9
    have W9 := gad_call y9 gExt.rf (fun _ _ => rfl)
    have q_10 := e9 _ _ q_1
    have q_11 := e9 _ _ q_2
    have q_12 := e9 _ _ q_b6
    obtain ⟨_, h13, h⟩ := gbnd h
    obtain ⟨l13, q_13⟩ := gkd_sp h13
    obtain ⟨M14, h14, h⟩ := gbnd h
    obtain ⟨i14h, e14v⟩ := astr_sp q_12 h14
    refine g_aast (r := (RX0, TX0, 5)) hF q_12 (Or.inr (Or.inr (Or.inl ⟨rfl, rfl⟩))) q_13 i14h dX10_copy_61 ?_
    rw [← e14v]
    refine g_iinc (n := 1) (v := (i2 + (1 : Int32))) (ls' := [(2, .int (i2 + (1 : Int32))), (0, .ref a0), (1, .ref a1)]) hF 2 rfl rfl (by rw [hn]; decide) rfl dX10_copy_62 ?_
    refine g_goto (tgt := 38) hF dX10_copy_65 (by decide) ?_
    cases h
    exact gG_sub [1, 2, 0] rfl (hN _ _ _ _ rfl X9 W9 (by omega) (by omega))
theorem t_X10_copy_L38 {Z : gZ} {d mc ms : Nat} {Acc : Option Value → (Nat → Nat) → gT → gM → Prop} {AccX : Nat → (Nat → Nat) → gT → gM → Prop} {K KS : Nat} {a0 : Nat} {a1 : Nat} (hF : gFix Z cX10_copy RX10 "copy" (some (.object RX10)) d mc ms Acc AccX) (hn : Z.2.2.2.2.2.1 = 3) (hd : 3 ≤ d) : ∀ (n9 : Nat) {ad : Nat → Nat} {x0 : Int32 × gT × gM} {e0 : gT × gM} {ce so c9 s9 : Nat}, gloopc (fun x : Int32 × gT × gM => f_X10_copy_B38 x.2.1 x.2.2 a0 a1 x.1) n9 x0 = some (e0, c9, s9) → ce + c9 + K ≤ mc → so + s9 + KS ≤ ms → ∀ (hE : ∀ (e9 : gT × gM) (ad1 : Nat → Nat) (ce1 so1 : Nat), e0 = e9 → gExt x0.2.1 e9.1 → (∀ a : Nat, a < x0.2.1.length → ad1 a = ad a) → ce1 + K ≤ mc → so1 + KS ≤ ms → gG Z ad1 e9.1 e9.2 ce1 so1 68 [(0, .ref a0), (1, .ref a1)] []), gG Z ad x0.2.1 x0.2.2 ce so 38 [(0, .ref a0), (1, .ref a1), (2, .int x0.1)] []
  | 0 => fun h => nomatch h
  | n9 + 1 => fun h hk1 hk2 hE => by
    rcases gloopc_sp h with hB | ⟨a9, c1, s1, c2, s2, hB, h2, e1, e2⟩
    · exact t_X10_copy_B38 (K := K) (KS := KS) hF hn hd hk1 hk2 hB (fun e9 ad1 ce1 so1 q9 => hE e9 ad1 ce1 so1 (Sum.inl.inj q9)) (fun n8 ad1 ce1 so1 q9 => nomatch q9)
    · exact t_X10_copy_B38 (K := c2 + K) (KS := s2 + KS) hF hn hd (by omega) (by omega) hB (fun e9 ad1 ce1 so1 q9 => nomatch q9) (fun n8 ad1 ce1 so1 q9 x9 y9 k1 k2 => by rw [← Sum.inr.inj q9] at x9 ⊢; exact t_X10_copy_L38 (K := K) (KS := KS) hF hn hd n9 h2 (by omega) (by omega) (fun e9 ad2 ce2 so2 q8 x2 y2 => hE e9 ad2 ce2 so2 q8 (gExt.tr x9 x2) (gad_call y2 x9 y9)))
theorem t_X10_copy {Z : gZ} {d mc ms : Nat} {Acc : Option Value → (Nat → Nat) → gT → gM → Prop} {AccX : Nat → (Nat → Nat) → gT → gM → Prop} {ad : Nat → Nat} {T : gT} {M : gM} {ce so c9 s9 : Nat} {m_a0 : Nat} {a0 : Nat} {o : Nat × gT × gM} (hF : gFix Z cX10_copy RX10 "copy" (some (.object RX10)) d mc ms Acc AccX) (hn : Z.2.2.2.2.2.1 = 3) (hd : 3 ≤ d) (hk1 : ce + c9 ≤ mc) (hk2 : so + s9 ≤ ms) (q0 : T[a0]? = some (16, m_a0)) (h : f_X10_copy T M a0 = some (o, c9, s9)) (hR : ∀ ad1 : Nat → Nat, gExt T o.2.1 → (∀ a : Nat, a < T.length → ad1 a = ad a) → Acc (some (.ref o.1)) ad1 o.2.1 o.2.2) : gG Z ad T M ce so 0 [(0, .ref a0)] [] := by
  unfold f_X10_copy at h
  obtain ⟨x15, h15, h⟩ := gbnd h
  obtain ⟨c15, s15, h, ec15, es15⟩ := cadd_sp h
  have g15 : gnew T M (16, 0) = some (x15.1, x15.2.1, x15.2.2) := h15
  refine g_new hF gC_16 gDf_16 kw_527 kw_495 kw_75 g15 (gnew_lt g15) (gFr_r (gT_ne q0) gFr_0) gFr_0 (by omega) (by omega) dX10_copy_0 (fun ad15 z15 => ?_)
  have y15 : ∀ b : Nat, b < T.length → ad15 b = ad b := fun b hb => z15 b (by rw [(gnew_sp g15).1]; omega)
  have X15 := gExt.tr gExt.rf (gnew_ext g15)
  have W15 := gad_call y15 gExt.rf (fun _ _ => rfl)
  have q_16 := (gnew_ext g15) _ _ q0
  have q_y15 := gnew_at g15
  refine g_dup hF rfl dX10_copy_3 ?_
  obtain ⟨x17, h17, h⟩ := gbnd h
  obtain ⟨c17, s17, h, ec17, es17⟩ := cadd_sp h
  refine g_callI hF my_X10_init kw_528 kw_497 rfl gC_16.1 (by decide) q_y15 (c_X10_init (d := d - 1) (by omega) q_y15 (trip h17)) (by omega) (by omega) (by omega) rfl rfl (Nat.le_of_ble_eq_true rfl) dX10_copy_4 (g_madeN (gOld_r (gT_lt q_16) gOld_0) (gOld_r (gT_lt q_y15) gOld_0) (fun ad17 e17 y17 => ?_))
  have X17 := gExt.tr X15 e17
  have W17 := gad_call y17 X15 W15
  have q_18 := e17 _ _ q_16
  have q_19 := e17 _ _ q_y15
  refine g_astore_n (ls' := [(1, .ref x15.1), (0, .ref a0)]) hF rfl (by rw [hn]; decide) rfl dX10_copy_7 ?_
  refine g_aload_n hF 0 rfl rfl dX10_copy_8 ?_
  refine g_aload_n hF 1 rfl rfl dX10_copy_9 ?_
  refine g_get_i hF fl_RX10_24 q_18 dX10_copy_10 ?_
  refine g_put_i hF rfl rfl fl_RX10_24 q_19 dX10_copy_13 ?_
  refine g_aload_n hF 0 rfl rfl dX10_copy_16 ?_
  refine g_aload_n hF 1 rfl rfl dX10_copy_17 ?_
  refine g_get_i hF fl_RX10_7 q_18 dX10_copy_18 ?_
  refine g_put_i hF rfl rfl fl_RX10_7 q_19 dX10_copy_21 ?_
  refine g_aload_n hF 0 rfl rfl dX10_copy_24 ?_
  refine g_aload_n hF 1 rfl rfl dX10_copy_25 ?_
  obtain ⟨b20, h20, h⟩ := gbnd h
  obtain ⟨g20, l20, q_b20⟩ := ldr_sp h20
  refine g_get_r hF g20 fl_RX10_15 q_18 dX10_copy_26 ?_
  refine g_alenA hF q_b20 (by decide) dX10_copy_29 ?_
  obtain ⟨x21, h21, h⟩ := gbnd h
  obtain ⟨c21, s21, h, ec21, es21⟩ := cadd_sp h
  obtain ⟨n210, n211, n21h⟩ := gnewa_sp h21
  refine g_newq_LawLibrary hF n210 rfl n211 kw_500 n21h (gnew_lt n21h) (gFr_r (gT_ne q_19) (gFr_r (gT_ne q_18) gFr_0)) (gFr_r (gT_ne q_19) gFr_0) (by omega) (by omega) dX10_copy_30 (fun ad21 z21 => ?_)
  have y21 : ∀ b : Nat, b < x17.1.1.length → ad21 b = ad17 b := fun b hb => z21 b (by rw [(gnew_sp n21h).1]; omega)
  have X21 := gExt.tr X17 (gnew_ext n21h)
  have W21 := gad_call y21 X17 W17
  have q_22 := (gnew_ext n21h) _ _ q_19
  have q_23 := (gnew_ext n21h) _ _ q_18
  have q_y21 := gnew_at n21h
  refine g_put_r hF (fun _ => rfl) (fun _ => rfl) (gT_lt q_y21) fl_RX10_15 q_22 dX10_copy_33 ?_
  refine g_iconst (v := (0 : Int32)) hF rfl dX10_copy_36 ?_
  refine g_istore_n (ls' := [(2, .int (0 : Int32)), (1, .ref x15.1), (0, .ref a0)]) hF rfl (by rw [hn]; decide) rfl dX10_copy_37 ?_
  obtain ⟨x24, h24, h⟩ := gbnd h
  obtain ⟨c24, s24, h, ec24, es24⟩ := cadd_sp h
  refine gG_sub [2, 1, 0] rfl (t_X10_copy_L38 (K := c24) (KS := s24) hF hn hd gFU (trip h24) (by omega) (by omega) (fun e24 adE24 ceE24 soE24 qE24 xE24 yE24 kE24 kS24 => ?_))
  subst qE24
  have X24 := gExt.tr X21 xE24
  have W24 := gad_call yE24 X21 W21
  have q_25 := xE24 _ _ q_22
  have q_26 := xE24 _ _ q_23
  refine g_aload_n hF 1 rfl rfl dX10_copy_68 ?_
  refine g_aload_n hF 0 rfl rfl dX10_copy_69 ?_
  obtain ⟨b27, h27, h⟩ := gbnd h
  obtain ⟨g27, l27, q_b27⟩ := ldr_sp h27
  refine g_get_r hF g27 fl_RX10_19 q_26 dX10_copy_70 ?_
  refine g_put_r hF (fun _ => rfl) (fun _ => rfl) (gT_lt q_b27) fl_RX10_19 q_25 dX10_copy_73 ?_
  refine g_aload_n hF 1 rfl rfl dX10_copy_76 ?_
  refine g_aload_n hF 0 rfl rfl dX10_copy_77 ?_
  obtain ⟨_, h28, h⟩ := gbnd h
  have q_28 := gko_sp h28
  refine g_get_o hF fl_RX10_31 q_26 dX10_copy_78 ?_
  refine g_put_o hF (fun q => by cases q <;> rfl) (fun q => by cases q <;> rfl) q_28 fl_RX10_31 q_25 dX10_copy_81 ?_
  refine g_aload_n hF 1 rfl rfl dX10_copy_84 ?_
  cases h
  exact g_ret_a hF rfl (Or.inl ⟨_, rfl⟩) dX10_copy_85 (hR adE24 X24 W24) (by omega) (by omega)
theorem c_X10_copy {d : Nat} {T : gT} {M : gM} {c9 s9 : Nat} {m_a0 : Nat} {a0 : Nat} {o : Nat × gT × gM} (hd : 3 ≤ d) (q0 : T[a0]? = some (16, m_a0)) (h : f_X10_copy T M a0 = some (o, c9, s9)) : gRet d yX10_copy cX10_copy 3 (some (.object RX10)) c9 s9 [.ref a0] T M (gMade T (some (.ref o.1)) o.2.1 o.2.2) := by
  refine gRet_of (own := RX10) (by decide) rfl (Nat.le_of_ble_eq_true rfl) (fun Z ad0 hn h0 hF => ?_)
  exact t_X10_copy (ce := 0) (so := 0) hF hn hd (by omega) (by omega) q0 h (fun ad1 x1 y1 => ⟨rfl, rfl, rfl, x1, y1⟩)
theorem t_X10_rank_B2 {Z : gZ} {d mc ms : Nat} {Acc : Option Value → (Nat → Nat) → gT → gM → Prop} {AccX : Nat → (Nat → Nat) → gT → gM → Prop} {ad : Nat → Nat} {T : gT} {M : gM} {ce so : Nat} {m_a0 : Nat} {a0 : Nat} {i1 : Int32} {i2 : Int32} {o : (Int32) ⊕ (Int32)} (hF : gFix Z cX10_rank RX10 "rank" (some .int) d mc ms Acc AccX) (hn : Z.2.2.2.2.2.1 = 3) (hd : 1 ≤ d) (hk1 : ce ≤ mc) (hk2 : so ≤ ms) (q0 : T[a0]? = some (16, m_a0)) (h : f_X10_rank_B2 T M a0 i1 i2 = some o) (hR : ∀ r9, o = .inl r9 → Acc (some (.int r9)) ad T M) (hN : ∀ n9, o = .inr n9 → gG Z ad T M ce so 2 [(0, .ref a0), (1, .int i1), (2, .int n9)] []) : gG Z ad T M ce so 2 [(0, .ref a0), (1, .int i1), (2, .int i2)] [] := by
  unfold f_X10_rank_B2 at h
  refine g_iload_n hF 2 rfl rfl dX10_rank_2 ?_
  refine g_aload_n hF 0 rfl rfl dX10_rank_3 ?_
  obtain ⟨b1, h1, h⟩ := gbnd h
  obtain ⟨g1, l1, q_b1⟩ := ldr_sp h1
  refine g_get_r hF g1 fl_RX10_19 q0 dX10_rank_4 ?_
  refine g_alenA hF q_b1 (by decide) dX10_rank_7 ?_
  refine g_icmp_ge (tgt := 29) hF dX10_rank_8 (by decide) (fun c2 => ?_) (fun c2 => ?_)
  · replace h := gif_t c2 h
    refine g_iconst (v := (-1 : Int32)) hF rfl dX10_rank_29 ?_
    obtain rfl := Option.some.inj h
    exact g_ret_i hF rfl rfl dX10_rank_30 (hR _ rfl) (by omega) (by omega)
  · replace h := gif_f c2 h
    refine g_aload_n hF 0 rfl rfl dX10_rank_11 ?_
    obtain ⟨b3, h3, h⟩ := gbnd h
    obtain ⟨g3, l3, q_b3⟩ := ldr_sp h3
    refine g_get_r hF g3 fl_RX10_19 q0 dX10_rank_12 ?_
    refine g_iload_n hF 2 rfl rfl dX10_rank_15 ?_
    obtain ⟨v4, h4, h⟩ := gbnd h
    obtain ⟨i4h, e4v⟩ := ald_sp q_b3 h4
    refine g_iald hF q_b3 i4h dX10_rank_16 ?_
    rw [← e4v]
    refine g_iload_n hF 1 rfl rfl dX10_rank_17 ?_
    refine g_icmp_ne (tgt := 23) hF dX10_rank_18 (by decide) (fun c5 => ?_) (fun c5 => ?_)
    · replace h := gif_t c5 h
      refine g_iinc (n := 1) (v := (i2 + (1 : Int32))) (ls' := [(2, .int (i2 + (1 : Int32))), (0, .ref a0), (1, .int i1)]) hF 2 rfl rfl (by rw [hn]; decide) rfl dX10_rank_23 ?_
      refine g_goto (tgt := 2) hF dX10_rank_26 (by decide) ?_
      exact gG_sub [1, 2, 0] rfl (hN _ (Option.some.inj h).symm)
    · replace h := gif_n c5 h
      refine g_iload_n hF 2 rfl rfl dX10_rank_21 ?_
      obtain rfl := Option.some.inj h
      exact g_ret_i hF rfl rfl dX10_rank_22 (hR _ rfl) (by omega) (by omega)
theorem t_X10_rank_L2 {Z : gZ} {d mc ms : Nat} {Acc : Option Value → (Nat → Nat) → gT → gM → Prop} {AccX : Nat → (Nat → Nat) → gT → gM → Prop} {ad : Nat → Nat} {T : gT} {M : gM} {ce so : Nat} {m_a0 : Nat} {a0 : Nat} {i1 : Int32} {i2 : Int32} {o : Int32} (hF : gFix Z cX10_rank RX10 "rank" (some .int) d mc ms Acc AccX) (hn : Z.2.2.2.2.2.1 = 3) (hd : 1 ≤ d) (hk1 : ce ≤ mc) (hk2 : so ≤ ms) (q0 : T[a0]? = some (16, m_a0)) (h : gloop (fun x => f_X10_rank_B2 T M a0 i1 x) gFU i2 = some o) (hR : Acc (some (.int o)) ad T M) : gG Z ad T M ce so 2 [(0, .ref a0), (1, .int i1), (2, .int i2)] [] := by
  refine gloop_ind (P := fun x0 : Int32 => gG Z ad T M ce so 2 [(0, .ref a0), (1, .int i1), (2, .int x0)] []) (e := o) (fun x0 y hy hl hr => ?_) gFU i2 h
  exact t_X10_rank_B2 hF hn hd hk1 hk2 q0 hy (fun r9 q9 => by rw [hl _ q9]; exact hR) (fun n9 q9 => hr n9 q9)
theorem t_X10_rank {Z : gZ} {d mc ms : Nat} {Acc : Option Value → (Nat → Nat) → gT → gM → Prop} {AccX : Nat → (Nat → Nat) → gT → gM → Prop} {ad : Nat → Nat} {T : gT} {M : gM} {ce so : Nat} {m_a0 : Nat} {a0 : Nat} {i1 : Int32} {o : Int32} (hF : gFix Z cX10_rank RX10 "rank" (some .int) d mc ms Acc AccX) (hn : Z.2.2.2.2.2.1 = 3) (hd : 1 ≤ d) (hk1 : ce ≤ mc) (hk2 : so ≤ ms) (q0 : T[a0]? = some (16, m_a0)) (h : f_X10_rank T M a0 i1 = some o) (hR : Acc (some (.int o)) ad T M) : gG Z ad T M ce so 0 [(0, .ref a0), (1, .int i1)] [] := by
  unfold f_X10_rank at h
  refine g_iconst (v := (0 : Int32)) hF rfl dX10_rank_0 ?_
  refine g_istore_n (ls' := [(2, .int (0 : Int32)), (0, .ref a0), (1, .int i1)]) hF rfl (by rw [hn]; decide) rfl dX10_rank_1 ?_
  obtain ⟨x6, h6, h⟩ := gbnd h
  cases h
  exact gG_sub [1, 2, 0] rfl (t_X10_rank_L2 hF hn hd (by omega) (by omega) q0 h6 hR)
theorem c_X10_rank {d : Nat} {T : gT} {M : gM} {m_a0 : Nat} {a0 : Nat} {i1 : Int32} {o : Int32} (hd : 1 ≤ d) (q0 : T[a0]? = some (16, m_a0)) (h : f_X10_rank T M a0 i1 = some o) : gRet d yX10_rank cX10_rank 3 (some .int) 0 0 [.ref a0, .int i1] T M (gSame T (some (.int o)) M) := by
  refine gRet_of (own := RX10) (by decide) rfl (Nat.le_of_ble_eq_true rfl) (fun Z ad0 hn h0 hF => ?_)
  exact t_X10_rank (ce := 0) (so := 0) hF hn hd (Nat.le_refl _) (Nat.le_refl _) q0 h ⟨rfl, rfl, rfl, rfl⟩
theorem t_L_has_36 {Z : gZ} {d mc ms : Nat} {Acc : Option Value → (Nat → Nat) → gT → gM → Prop} {AccX : Nat → (Nat → Nat) → gT → gM → Prop} {ad : Nat → Nat} {T : gT} {M : gM} {ce so : Nat} {m_a3 : Nat} {i1 : Int32} {a3 : Nat} {i4 : Int32} {i5 : Int32} {k0 : Int32} {k1 : Int32} {o : (Int32) ⊕ (Int32 × Int32)} (hF : gFix Z cL_has RL "has" (some .boolean) d mc ms Acc AccX) (hn : Z.2.2.2.2.2.1 = 7) (hd : 1 ≤ d) (hk1 : ce ≤ mc) (hk2 : so ≤ ms) (q3 : T[a3]? = some (11, m_a3)) (h : f_L_has_36 T M i1 a3 i4 i5 k0 k1 = some o) (hE : ∀ e9, o = .inl e9 → gG Z ad T M ce so 44 [(2, .int e9)] []) (hN : ∀ n9, o = .inr n9 → gG Z ad T M ce so 11 [(1, .int i1), (2, .int n9.1), (3, .ref a3), (4, .int i4), (5, .int n9.2)] []) : gG Z ad T M ce so 36 [(1, .int i1), (3, .ref a3), (4, .int i4), (5, .int i5)] [.int k1, .int k0] := by
  unfold f_L_has_36 at h
  refine g_ior hF dL_has_36 ?_
  refine g_istore_n (ls' := [(2, .int (k0 ||| k1)), (1, .int i1), (3, .ref a3), (4, .int i4), (5, .int i5)]) hF rfl (by rw [hn]; decide) rfl dL_has_37 ?_
  refine g_iinc (n := 1) (v := (i5 + (1 : Int32))) (ls' := [(5, .int (i5 + (1 : Int32))), (2, .int (k0 ||| k1)), (1, .int i1), (3, .ref a3), (4, .int i4)]) hF 4 rfl rfl (by rw [hn]; decide) rfl dL_has_38 ?_
  refine g_goto (tgt := 11) hF dL_has_41 (by decide) ?_
  exact gG_sub [2, 1, 3, 4, 0] rfl (hN _ (Option.some.inj h).symm)
theorem t_L_has_B11 {Z : gZ} {d mc ms : Nat} {Acc : Option Value → (Nat → Nat) → gT → gM → Prop} {AccX : Nat → (Nat → Nat) → gT → gM → Prop} {ad : Nat → Nat} {T : gT} {M : gM} {ce so : Nat} {m_a3 : Nat} {i1 : Int32} {i2 : Int32} {a3 : Nat} {i4 : Int32} {i5 : Int32} {o : (Int32) ⊕ (Int32 × Int32)} (hF : gFix Z cL_has RL "has" (some .boolean) d mc ms Acc AccX) (hn : Z.2.2.2.2.2.1 = 7) (hd : 1 ≤ d) (hk1 : ce ≤ mc) (hk2 : so ≤ ms) (q3 : T[a3]? = some (11, m_a3)) (h : f_L_has_B11 T M i1 i2 a3 i4 i5 = some o) (hE : ∀ e9, o = .inl e9 → gG Z ad T M ce so 44 [(2, .int e9)] []) (hN : ∀ n9, o = .inr n9 → gG Z ad T M ce so 11 [(1, .int i1), (2, .int n9.1), (3, .ref a3), (4, .int i4), (5, .int n9.2)] []) : gG Z ad T M ce so 11 [(1, .int i1), (2, .int i2), (3, .ref a3), (4, .int i4), (5, .int i5)] [] := by
  unfold f_L_has_B11 at h
  refine g_iload hF 4 rfl dL_has_11 ?_
  refine g_iload hF 3 rfl dL_has_13 ?_
  refine g_icmp_ge (tgt := 44) hF dL_has_15 (by decide) (fun c1 => ?_) (fun c1 => ?_)
  · replace h := gif_t c1 h
    exact gG_sub [1] rfl (hE _ (Option.some.inj h).symm)
  · replace h := gif_f c1 h
    refine g_aload_n hF 2 rfl rfl dL_has_18 ?_
    refine g_iload hF 4 rfl dL_has_19 ?_
    obtain ⟨v2, h2, h⟩ := gbnd h
    obtain ⟨i2h, e2v⟩ := ald_sp q3 h2
    refine g_iald hF q3 i2h dL_has_21 ?_
    rw [← e2v]
    refine g_istore (ls' := [(6, .int v2), (1, .int i1), (2, .int i2), (3, .ref a3), (4, .int i4), (5, .int i5)]) hF (by rw [hn]; decide) rfl dL_has_22 ?_
    refine g_iload_n hF 2 rfl rfl dL_has_24 ?_
    refine g_iload hF 0 rfl dL_has_25 ?_
    refine g_iload_n hF 1 rfl rfl dL_has_27 ?_
    refine g_icmp_ne (tgt := 35) hF dL_has_28 (by decide) (fun c3 => ?_) (fun c3 => ?_)
    · replace h := gif_t c3 h
      refine g_iconst (v := (0 : Int32)) hF rfl dL_has_35 ?_
      exact gG_sub [1, 3, 4, 5] rfl (t_L_has_36 hF hn hd (by omega) (by omega) q3 h hE hN)
    · replace h := gif_n c3 h
      refine g_iconst (v := (1 : Int32)) hF rfl dL_has_31 ?_
      refine g_goto (tgt := 36) hF dL_has_32 (by decide) ?_
      exact gG_sub [1, 3, 4, 5] rfl (t_L_has_36 hF hn hd (by omega) (by omega) q3 h hE hN)
theorem t_L_has_L11 {Z : gZ} {d mc ms : Nat} {Acc : Option Value → (Nat → Nat) → gT → gM → Prop} {AccX : Nat → (Nat → Nat) → gT → gM → Prop} {ad : Nat → Nat} {T : gT} {M : gM} {ce so : Nat} {m_a3 : Nat} {i1 : Int32} {i2 : Int32} {a3 : Nat} {i4 : Int32} {i5 : Int32} {o : Int32} (hF : gFix Z cL_has RL "has" (some .boolean) d mc ms Acc AccX) (hn : Z.2.2.2.2.2.1 = 7) (hd : 1 ≤ d) (hk1 : ce ≤ mc) (hk2 : so ≤ ms) (q3 : T[a3]? = some (11, m_a3)) (h : gloop (fun x => f_L_has_B11 T M i1 x.1 a3 i4 x.2) gFU (i2, i5) = some o) (hE : gG Z ad T M ce so 44 [(2, .int o)] []) : gG Z ad T M ce so 11 [(1, .int i1), (2, .int i2), (3, .ref a3), (4, .int i4), (5, .int i5)] [] := by
  refine gloop_ind (P := fun x0 : Int32 × Int32 => gG Z ad T M ce so 11 [(1, .int i1), (2, .int x0.1), (3, .ref a3), (4, .int i4), (5, .int x0.2)] []) (e := o) (fun x0 y hy hl hr => ?_) gFU (i2, i5) h
  exact t_L_has_B11 hF hn hd hk1 hk2 q3 hy (fun e9 q9 => by rw [hl _ q9]; exact hE) (fun n9 q9 => hr n9 q9)
theorem t_L_has {Z : gZ} {d mc ms : Nat} {Acc : Option Value → (Nat → Nat) → gT → gM → Prop} {AccX : Nat → (Nat → Nat) → gT → gM → Prop} {ad : Nat → Nat} {T : gT} {M : gM} {ce so : Nat} {m_a0 : Nat} {a0 : Nat} {i1 : Int32} {o : Int32} (hF : gFix Z cL_has RL "has" (some .boolean) d mc ms Acc AccX) (hn : Z.2.2.2.2.2.1 = 7) (hd : 1 ≤ d) (hk1 : ce ≤ mc) (hk2 : so ≤ ms) (q0 : T[a0]? = some (11, m_a0)) (h : f_L_has T M a0 i1 = some o) (hR : Acc (some (.int o)) ad T M) : gG Z ad T M ce so 0 [(0, .ref a0), (1, .int i1)] [] := by
  unfold f_L_has at h
  refine g_iconst (v := (0 : Int32)) hF rfl dL_has_0 ?_
  refine g_istore_n (ls' := [(2, .int (0 : Int32)), (0, .ref a0), (1, .int i1)]) hF rfl (by rw [hn]; decide) rfl dL_has_1 ?_
  refine g_aload_n hF 1 rfl rfl dL_has_2 ?_
  refine g_astore_n (ls' := [(3, .ref a0), (2, .int (0 : Int32)), (0, .ref a0), (1, .int i1)]) hF rfl (by rw [hn]; decide) rfl dL_has_3 ?_
  refine g_aload_n hF 0 rfl rfl dL_has_4 ?_
  refine g_alenA hF q0 (by decide) dL_has_5 ?_
  refine g_istore (ls' := [(4, .int (Int32.ofNat (alen T a0))), (3, .ref a0), (2, .int (0 : Int32)), (0, .ref a0), (1, .int i1)]) hF (by rw [hn]; decide) rfl dL_has_6 ?_
  refine g_iconst (v := (0 : Int32)) hF rfl dL_has_8 ?_
  refine g_istore (ls' := [(5, .int (0 : Int32)), (4, .int (Int32.ofNat (alen T a0))), (3, .ref a0), (2, .int (0 : Int32)), (0, .ref a0), (1, .int i1)]) hF (by rw [hn]; decide) rfl dL_has_9 ?_
  obtain ⟨x4, h4, h⟩ := gbnd h
  refine gG_sub [5, 3, 2, 1, 0] rfl (t_L_has_L11 hF hn hd (by omega) (by omega) q0 h4 ?_)
  refine g_iload_n hF 0 rfl rfl dL_has_44 ?_
  obtain ⟨_, h5, h⟩ := gbnd h
  obtain rfl := Option.some.inj h
  exact g_ret_i hF rfl (gbool (chk_sp h5)) dL_has_45 hR (by omega) (by omega)
theorem c_L_has {d : Nat} {T : gT} {M : gM} {m_a0 : Nat} {a0 : Nat} {i1 : Int32} {o : Int32} (hd : 1 ≤ d) (q0 : T[a0]? = some (11, m_a0)) (h : f_L_has T M a0 i1 = some o) : gRet d yL_has cL_has 7 (some .boolean) 0 0 [.ref a0, .int i1] T M (gSame T (some (.int o)) M) := by
  refine gRet_of (own := RL) (by decide) rfl (Nat.le_of_ble_eq_true rfl) (fun Z ad0 hn h0 hF => ?_)
  exact t_L_has (ce := 0) (so := 0) hF hn hd (Nat.le_refl _) (Nat.le_refl _) q0 h ⟨rfl, rfl, rfl, rfl⟩
def gRecOk_X11_value (dr : Nat) (rec : gRecT_X11_value) : Prop := ∀ {d : Nat} {T : gT} {M : gM} {m_a0 m_a1 : Nat} {a0 : Nat} {a1 : Nat} {o : Int64}, dr ≤ d → ∀ (q0 : T[a0]? = some (17, m_a0)), ∀ (q1 : T[a1]? = some (12, m_a1)), rec T M a0 a1 = some o → gRet d yX11_value cX11_value 8 (some .long) 0 0 [.ref a0, .ref a1] T M (gSame T (some (.long o)) M)
theorem t_X11_value_109 {Z : gZ} {d mc ms : Nat} {Acc : Option Value → (Nat → Nat) → gT → gM → Prop} {AccX : Nat → (Nat → Nat) → gT → gM → Prop} {ad : Nat → Nat} {T : gT} {M : gM} {ce so : Nat} {rec : gRecT_X11_value} {dr : Nat}  {w0 : Int64} {o : Int64} (hF : gFix Z cX11_value RX11 "value" (some .long) d mc ms Acc AccX) (hn : Z.2.2.2.2.2.1 = 8) (hd : 1 ≤ d) (hrec : gRecOk_X11_value dr rec) (hdr : dr + 1 ≤ d) (hk1 : ce ≤ mc) (hk2 : so ≤ ms)  (h : f_X11_value_109 rec T M w0 = some o) (hR : Acc (some (.long o)) ad T M) : gG Z ad T M ce so 109 [] [.long w0] := by
  unfold f_X11_value_109 at h
  refine g_lstore (ls' := [(6, .long w0)]) hF (by rw [hn]; decide) rfl dX11_value_109 ?_
  refine g_ldc2 (v := (-1000000 : Int64)) hF kw_604 dX11_value_111 ?_
  refine g_ldc2 (v := (1000000 : Int64)) hF kw_605 dX11_value_114 ?_
  refine g_lload hF 0 rfl dX11_value_117 ?_
  refine g_minl hF kw_606 (by omega) (by omega) (by omega) (Nat.le_of_ble_eq_true rfl) dX11_value_119 ?_
  refine g_maxl hF kw_607 (by omega) (by omega) (by omega) (Nat.le_of_ble_eq_true rfl) dX11_value_122 ?_
  obtain rfl := Option.some.inj h
  exact g_ret_l hF rfl dX11_value_125 hR (by omega) (by omega)
theorem t_X11_value_29 {Z : gZ} {d mc ms : Nat} {Acc : Option Value → (Nat → Nat) → gT → gM → Prop} {AccX : Nat → (Nat → Nat) → gT → gM → Prop} {ad : Nat → Nat} {T : gT} {M : gM} {ce so : Nat} {rec : gRecT_X11_value} {dr : Nat}  {w0 : Int64} {o : Int64} (hF : gFix Z cX11_value RX11 "value" (some .long) d mc ms Acc AccX) (hn : Z.2.2.2.2.2.1 = 8) (hd : 1 ≤ d) (hrec : gRecOk_X11_value dr rec) (hdr : dr + 1 ≤ d) (hk1 : ce ≤ mc) (hk2 : so ≤ ms)  (h : f_X11_value_29 rec T M w0 = some o) (hR : Acc (some (.long o)) ad T M) : gG Z ad T M ce so 29 [] [.long w0] := by
  unfold f_X11_value_29 at h
  obtain rfl := Option.some.inj h
  exact g_ret_l hF rfl dX11_value_29 hR (by omega) (by omega)
theorem t_X11_value {Z : gZ} {d mc ms : Nat} {Acc : Option Value → (Nat → Nat) → gT → gM → Prop} {AccX : Nat → (Nat → Nat) → gT → gM → Prop} {ad : Nat → Nat} {T : gT} {M : gM} {ce so : Nat} {rec : gRecT_X11_value} {dr : Nat} {m_a0 m_a1 : Nat} {a0 : Nat} {a1 : Nat} {o : Int64} (hF : gFix Z cX11_value RX11 "value" (some .long) d mc ms Acc AccX) (hn : Z.2.2.2.2.2.1 = 8) (hd : 1 ≤ d) (hrec : gRecOk_X11_value dr rec) (hdr : dr + 1 ≤ d) (hk1 : ce ≤ mc) (hk2 : so ≤ ms) (q0 : T[a0]? = some (17, m_a0)) (q1 : T[a1]? = some (12, m_a1)) (h : f_X11_value rec T M a0 a1 = some o) (hR : Acc (some (.long o)) ad T M) : gG Z ad T M ce so 0 [(0, .ref a0), (1, .ref a1)] [] := by
  unfold f_X11_value at h
  refine g_aload_n hF 0 rfl rfl dX11_value_0 ?_
  refine g_get_i hF fl_RX11_16 q0 dX11_value_1 ?_
  refine g_iconst (v := (2 : Int32)) hF rfl dX11_value_4 ?_
  refine g_icmp_ge (tgt := 30) hF dX11_value_5 (by decide) (fun c3 => ?_) (fun c3 => ?_)
  · replace h := gif_t c3 h
    refine g_aload_n hF 0 rfl rfl dX11_value_30 ?_
    obtain ⟨b4, h4, h⟩ := gbnd h
    obtain ⟨g4, l4, q_b4⟩ := ldr_sp h4
    refine g_get_r hF g4 fl_RX11_27 q0 dX11_value_31 ?_
    refine g_aload_n hF 1 rfl rfl dX11_value_34 ?_
    obtain ⟨x5, h5, h⟩ := gbnd h
    refine g_callV hF my_X11_value kw_603 kw_600 kw_601 gC_17.1 (by decide) q_b4 (hrec (d := d - 1) (by omega) q_b4 q1 h5) (by omega) (by omega) (by omega) rfl rfl (Nat.le_of_ble_eq_true rfl) dX11_value_35 (g_sameS ?_)
    refine g_lstore_n (ls' := [(2, .long x5), (0, .ref a0), (1, .ref a1)]) hF rfl (by rw [hn]; decide) rfl dX11_value_38 ?_
    refine g_aload_n hF 1 rfl rfl dX11_value_39 ?_
    obtain ⟨b6, h6, h⟩ := gbnd h
    obtain ⟨g6, l6, q_b6⟩ := ldr_sp h6
    refine g_get_r hF g6 fl_RX11_31 q0 dX11_value_40 ?_
    refine g_aload_n hF 2 rfl rfl dX11_value_43 ?_
    obtain ⟨x7, h7, h⟩ := gbnd h
    refine g_callV hF my_X11_value kw_603 kw_600 kw_601 gC_17.1 (by decide) q_b6 (hrec (d := d - 1) (by omega) q_b6 q1 h7) (by omega) (by omega) (by omega) rfl rfl (Nat.le_of_ble_eq_true rfl) dX11_value_44 (g_sameS ?_)
    refine g_lstore (ls' := [(4, .long x7), (2, .long x5), (0, .ref a0), (1, .ref a1)]) hF (by rw [hn]; decide) rfl dX11_value_47 ?_
    refine g_aload_n hF 2 rfl rfl dX11_value_49 ?_
    refine g_get_i hF fl_RX11_16 q0 dX11_value_50 ?_
    refine g_iconst (v := (2 : Int32)) hF rfl dX11_value_53 ?_
    refine g_icmp_ne (tgt := 64) hF dX11_value_54 (by decide) (fun c8 => ?_) (fun c8 => ?_)
    · replace h := gif_t c8 h
      refine g_aload_n hF 2 rfl rfl dX11_value_64 ?_
      refine g_get_i hF fl_RX11_16 q0 dX11_value_65 ?_
      refine g_iconst (v := (3 : Int32)) hF rfl dX11_value_68 ?_
      refine g_icmp_ne (tgt := 79) hF dX11_value_69 (by decide) (fun c9 => ?_) (fun c9 => ?_)
      · replace h := gif_t c9 h
        refine g_aload_n hF 2 rfl rfl dX11_value_79 ?_
        refine g_get_i hF fl_RX11_16 q0 dX11_value_80 ?_
        refine g_iconst (v := (4 : Int32)) hF rfl dX11_value_83 ?_
        refine g_icmp_ne (tgt := 94) hF dX11_value_84 (by decide) (fun c10 => ?_) (fun c10 => ?_)
        · replace h := gif_t c10 h
          refine g_lload hF 0 rfl dX11_value_94 ?_
          refine g_lconst (v := (0 : Int64)) hF rfl dX11_value_96 ?_
          refine g_lcmp hF dX11_value_97 ?_
          refine g_if_ne (tgt := 105) hF dX11_value_98 (by decide) (fun c11 => ?_) (fun c11 => ?_)
          · replace h := gif_t c11 h
            refine g_lload_n hF 1 rfl rfl dX11_value_105 ?_
            refine g_lload hF 0 rfl dX11_value_106 ?_
            obtain ⟨_, h12, h⟩ := gbnd h
            refine g_ldiv hF (chk_sp h12) dX11_value_108 ?_
            exact gG_sub [] rfl (t_X11_value_109 hF hn hd hrec hdr (by omega) (by omega)  h hR)
          · replace h := gif_n c11 h
            refine g_lconst (v := (0 : Int64)) hF rfl dX11_value_101 ?_
            refine g_goto (tgt := 109) hF dX11_value_102 (by decide) ?_
            exact gG_sub [] rfl (t_X11_value_109 hF hn hd hrec hdr (by omega) (by omega)  h hR)
        · replace h := gif_n c10 h
          refine g_lload_n hF 1 rfl rfl dX11_value_87 ?_
          refine g_lload hF 0 rfl dX11_value_88 ?_
          refine g_lmul hF dX11_value_90 ?_
          refine g_goto (tgt := 109) hF dX11_value_91 (by decide) ?_
          exact gG_sub [] rfl (t_X11_value_109 hF hn hd hrec hdr (by omega) (by omega)  h hR)
      · replace h := gif_n c9 h
        refine g_lload_n hF 1 rfl rfl dX11_value_72 ?_
        refine g_lload hF 0 rfl dX11_value_73 ?_
        refine g_lsub hF dX11_value_75 ?_
        refine g_goto (tgt := 109) hF dX11_value_76 (by decide) ?_
        exact gG_sub [] rfl (t_X11_value_109 hF hn hd hrec hdr (by omega) (by omega)  h hR)
    · replace h := gif_n c8 h
      refine g_lload_n hF 1 rfl rfl dX11_value_57 ?_
      refine g_lload hF 0 rfl dX11_value_58 ?_
      refine g_ladd hF dX11_value_60 ?_
      refine g_goto (tgt := 109) hF dX11_value_61 (by decide) ?_
      exact gG_sub [] rfl (t_X11_value_109 hF hn hd hrec hdr (by omega) (by omega)  h hR)
  · replace h := gif_f c3 h
    refine g_aload_n hF 0 rfl rfl dX11_value_8 ?_
    refine g_get_i hF fl_RX11_16 q0 dX11_value_9 ?_
    refine g_if_ne (tgt := 23) hF dX11_value_12 (by decide) (fun c13 => ?_) (fun c13 => ?_)
    · replace h := gif_t c13 h
      refine g_aload_n hF 1 rfl rfl dX11_value_23 ?_
      refine g_aload_n hF 0 rfl rfl dX11_value_24 ?_
      refine g_get_i hF fl_RX11_20 q0 dX11_value_25 ?_
      obtain ⟨v14, h14, h⟩ := gbnd h
      obtain ⟨i14h, e14v⟩ := aldl_sp q1 h14
      refine g_lald hF q1 i14h dX11_value_28 ?_
      rw [← e14v]
      exact gG_sub [] rfl (t_X11_value_29 hF hn hd hrec hdr (by omega) (by omega)  h hR)
    · replace h := gif_n c13 h
      refine g_aload_n hF 0 rfl rfl dX11_value_15 ?_
      refine g_get_i hF fl_RX11_20 q0 dX11_value_16 ?_
      refine g_i2l hF dX11_value_19 ?_
      refine g_goto (tgt := 29) hF dX11_value_20 (by decide) ?_
      exact gG_sub [] rfl (t_X11_value_29 hF hn hd hrec hdr (by omega) (by omega)  h hR)
theorem c_X11_value {d : Nat} {T : gT} {M : gM} {rec : gRecT_X11_value} {dr : Nat} {m_a0 m_a1 : Nat} {a0 : Nat} {a1 : Nat} {o : Int64} (hd : 1 ≤ d) (hrec : gRecOk_X11_value dr rec) (hdr : dr + 1 ≤ d) (q0 : T[a0]? = some (17, m_a0)) (q1 : T[a1]? = some (12, m_a1)) (h : f_X11_value rec T M a0 a1 = some o) : gRet d yX11_value cX11_value 8 (some .long) 0 0 [.ref a0, .ref a1] T M (gSame T (some (.long o)) M) := by
  refine gRet_of (own := RX11) (by decide) rfl (Nat.le_of_ble_eq_true rfl) (fun Z ad0 hn h0 hF => ?_)
  exact t_X11_value (ce := 0) (so := 0) hF hn hd hrec hdr (Nat.le_refl _) (Nat.le_refl _) q0 q1 h ⟨rfl, rfl, rfl, rfl⟩
theorem gRecAll_X11_value : ∀ n : Nat, gRecOk_X11_value (1 + n) (g_X11_value n)
  | 0 => fun _ _ _ h => nomatch h
  | n + 1 => fun hd q0 q1 h => c_X11_value (by omega) (gRecAll_X11_value n) (by omega) q0 q1 h
theorem c_X11_value_c {d : Nat} {T : gT} {M : gM} {m_a0 m_a1 : Nat} {a0 : Nat} {a1 : Nat} {o : Int64} (hd : 7 ≤ d) (q0 : T[a0]? = some (17, m_a0)) (q1 : T[a1]? = some (12, m_a1)) (h : f_X11_value_c T M a0 a1 = some o) : gRet d yX11_value cX11_value 8 (some .long) 0 0 [.ref a0, .ref a1] T M (gSame T (some (.long o)) M) := gRecAll_X11_value 6 (by omega) q0 q1 h
theorem t_X10_weight_57 {Z : gZ} {d mc ms : Nat} {Acc : Option Value → (Nat → Nat) → gT → gM → Prop} {AccX : Nat → (Nat → Nat) → gT → gM → Prop} {ad : Nat → Nat} {T : gT} {M : gM} {ce so : Nat} {m_a0 m_a3 : Nat} {a0 : Nat} {i1 : Int32} {i2 : Int32} {a3 : Nat} {i4 : Int32} {i5 : Int32} {o : (Int32) ⊕ (Int32 × Int32)} (hF : gFix Z cX10_weight RX10 "weight" (some .int) d mc ms Acc AccX) (hn : Z.2.2.2.2.2.1 = 7) (hd : 8 ≤ d) (hk1 : ce ≤ mc) (hk2 : so ≤ ms) (q0 : T[a0]? = some (16, m_a0)) (q3 : T[a3]? = some (11, m_a3)) (h : f_X10_weight_57 T M a0 i1 i2 a3 i4 i5 = some o) (hE : ∀ e9, o = .inl e9 → gG Z ad T M ce so 63 [(0, .ref a0), (1, .int i1), (2, .int e9)] []) (hN : ∀ n9, o = .inr n9 → gG Z ad T M ce so 24 [(0, .ref a0), (1, .int i1), (2, .int n9.1), (3, .ref a3), (4, .int i4), (5, .int n9.2)] []) : gG Z ad T M ce so 57 [(0, .ref a0), (1, .int i1), (2, .int i2), (3, .ref a3), (4, .int i4), (5, .int i5)] [] := by
  unfold f_X10_weight_57 at h
  refine g_iinc (n := 1) (v := (i5 + (1 : Int32))) (ls' := [(5, .int (i5 + (1 : Int32))), (0, .ref a0), (1, .int i1), (2, .int i2), (3, .ref a3), (4, .int i4)]) hF 5 rfl rfl (by rw [hn]; decide) rfl dX10_weight_57 ?_
  refine g_goto (tgt := 24) hF dX10_weight_60 (by decide) ?_
  exact gG_sub [1, 2, 3, 4, 5, 0] rfl (hN _ (Option.some.inj h).symm)
theorem t_X10_weight_B24 {Z : gZ} {d mc ms : Nat} {Acc : Option Value → (Nat → Nat) → gT → gM → Prop} {AccX : Nat → (Nat → Nat) → gT → gM → Prop} {ad : Nat → Nat} {T : gT} {M : gM} {ce so : Nat} {m_a0 m_a3 : Nat} {a0 : Nat} {i1 : Int32} {i2 : Int32} {a3 : Nat} {i4 : Int32} {i5 : Int32} {o : (Int32) ⊕ (Int32 × Int32)} (hF : gFix Z cX10_weight RX10 "weight" (some .int) d mc ms Acc AccX) (hn : Z.2.2.2.2.2.1 = 7) (hd : 8 ≤ d) (hk1 : ce ≤ mc) (hk2 : so ≤ ms) (q0 : T[a0]? = some (16, m_a0)) (q3 : T[a3]? = some (11, m_a3)) (h : f_X10_weight_B24 T M a0 i1 i2 a3 i4 i5 = some o) (hE : ∀ e9, o = .inl e9 → gG Z ad T M ce so 63 [(0, .ref a0), (1, .int i1), (2, .int e9)] []) (hN : ∀ n9, o = .inr n9 → gG Z ad T M ce so 24 [(0, .ref a0), (1, .int i1), (2, .int n9.1), (3, .ref a3), (4, .int i4), (5, .int n9.2)] []) : gG Z ad T M ce so 24 [(0, .ref a0), (1, .int i1), (2, .int i2), (3, .ref a3), (4, .int i4), (5, .int i5)] [] := by
  unfold f_X10_weight_B24 at h
  refine g_iload hF 5 rfl dX10_weight_24 ?_
  refine g_iload hF 4 rfl dX10_weight_26 ?_
  refine g_icmp_ge (tgt := 63) hF dX10_weight_28 (by decide) (fun c1 => ?_) (fun c1 => ?_)
  · replace h := gif_t c1 h
    exact gG_sub [0, 1, 2] rfl (hE _ (Option.some.inj h).symm)
  · replace h := gif_f c1 h
    refine g_aload_n hF 3 rfl rfl dX10_weight_31 ?_
    refine g_iload hF 5 rfl dX10_weight_32 ?_
    obtain ⟨v2, h2, h⟩ := gbnd h
    obtain ⟨i2h, e2v⟩ := ald_sp q3 h2
    refine g_iald hF q3 i2h dX10_weight_34 ?_
    rw [← e2v]
    refine g_istore (ls' := [(6, .int v2), (0, .ref a0), (1, .int i1), (2, .int i2), (3, .ref a3), (4, .int i4), (5, .int i5)]) hF (by rw [hn]; decide) rfl dX10_weight_35 ?_
    refine g_aload_n hF 1 rfl rfl dX10_weight_37 ?_
    obtain ⟨b3, h3, h⟩ := gbnd h
    obtain ⟨g3, l3, q_b3⟩ := ldr_sp h3
    refine g_get_r hF g3 fl_RX10_15 q0 dX10_weight_38 ?_
    refine g_iload hF 0 rfl dX10_weight_41 ?_
    obtain ⟨b4, h4, h⟩ := gbnd h
    obtain ⟨i4h, g4, l4, q_b4⟩ := aldr_sp q_b3 h4
    refine g_aald hF q_b3 (Or.inr (Or.inr (Or.inl ⟨rfl, rfl⟩))) i4h g4 dX10_weight_43 ?_
    obtain ⟨b5, h5, h⟩ := gbnd h
    obtain ⟨g5, l5, q_b5⟩ := ldr_sp h5
    refine g_get_r hF g5 fl_RX10_39 q_b4 dX10_weight_44 ?_
    refine g_iload_n hF 2 rfl rfl dX10_weight_47 ?_
    obtain ⟨x6, h6, h⟩ := gbnd h
    refine g_callSN hF my_L_has kn_592 kw_593 (c_L_has (d := d - 1) (by omega) q_b5 h6) (by omega) (by omega) (by omega) rfl rfl (Nat.le_of_ble_eq_true rfl) dX10_weight_48 (g_sameS ?_)
    refine g_if_eq (tgt := 57) hF dX10_weight_51 (by decide) (fun c7 => ?_) (fun c7 => ?_)
    · replace h := gif_t c7 h
      exact gG_sub [1, 2, 3, 4, 5, 6] rfl (t_X10_weight_57 hF hn hd (by omega) (by omega) q0 q3 h hE hN)
    · replace h := gif_f c7 h
      refine g_iinc (n := 1) (v := (i2 + (1 : Int32))) (ls' := [(2, .int (i2 + (1 : Int32))), (6, .int v2), (0, .ref a0), (1, .int i1), (3, .ref a3), (4, .int i4), (5, .int i5)]) hF 3 rfl rfl (by rw [hn]; decide) rfl dX10_weight_54 ?_
      exact gG_sub [2, 3, 0, 4, 5, 6] rfl (t_X10_weight_57 hF hn hd (by omega) (by omega) q0 q3 h hE hN)
theorem t_X10_weight_L24 {Z : gZ} {d mc ms : Nat} {Acc : Option Value → (Nat → Nat) → gT → gM → Prop} {AccX : Nat → (Nat → Nat) → gT → gM → Prop} {ad : Nat → Nat} {T : gT} {M : gM} {ce so : Nat} {m_a0 m_a3 : Nat} {a0 : Nat} {i1 : Int32} {i2 : Int32} {a3 : Nat} {i4 : Int32} {i5 : Int32} {o : Int32} (hF : gFix Z cX10_weight RX10 "weight" (some .int) d mc ms Acc AccX) (hn : Z.2.2.2.2.2.1 = 7) (hd : 8 ≤ d) (hk1 : ce ≤ mc) (hk2 : so ≤ ms) (q0 : T[a0]? = some (16, m_a0)) (q3 : T[a3]? = some (11, m_a3)) (h : gloop (fun x => f_X10_weight_B24 T M a0 i1 x.1 a3 i4 x.2) gFU (i2, i5) = some o) (hE : gG Z ad T M ce so 63 [(0, .ref a0), (1, .int i1), (2, .int o)] []) : gG Z ad T M ce so 24 [(0, .ref a0), (1, .int i1), (2, .int i2), (3, .ref a3), (4, .int i4), (5, .int i5)] [] := by
  refine gloop_ind (P := fun x0 : Int32 × Int32 => gG Z ad T M ce so 24 [(0, .ref a0), (1, .int i1), (2, .int x0.1), (3, .ref a3), (4, .int i4), (5, .int x0.2)] []) (e := o) (fun x0 y hy hl hr => ?_) gFU (i2, i5) h
  exact t_X10_weight_B24 hF hn hd hk1 hk2 q0 q3 hy (fun e9 q9 => by rw [hl _ q9]; exact hE) (fun n9 q9 => hr n9 q9)
theorem t_X10_weight_125 {Z : gZ} {d mc ms : Nat} {Acc : Option Value → (Nat → Nat) → gT → gM → Prop} {AccX : Nat → (Nat → Nat) → gT → gM → Prop} {ad : Nat → Nat} {T : gT} {M : gM} {ce so c9 s9 : Nat}  {w0 : Int64} {o : Int32 × gT × gM} (hF : gFix Z cX10_weight RX10 "weight" (some .int) d mc ms Acc AccX) (hn : Z.2.2.2.2.2.1 = 7) (hd : 8 ≤ d) (hk1 : ce + c9 ≤ mc) (hk2 : so + s9 ≤ ms)  (h : f_X10_weight_125 T M w0 = some (o, c9, s9)) (hR : ∀ ad1 : Nat → Nat, gExt T o.2.1 → (∀ a : Nat, a < T.length → ad1 a = ad a) → Acc (some (.int o.1)) ad1 o.2.1 o.2.2) : gG Z ad T M ce so 125 [] [.long w0] := by
  unfold f_X10_weight_125 at h
  refine g_lstore (ls' := [(4, .long w0)]) hF (by rw [hn]; decide) rfl dX10_weight_125 ?_
  refine g_lconst (v := (0 : Int64)) hF rfl dX10_weight_127 ?_
  refine g_ldc2 (v := (9999 : Int64)) hF kw_608 dX10_weight_128 ?_
  refine g_lload hF 0 rfl dX10_weight_131 ?_
  refine g_minl hF kw_609 (by omega) (by omega) (by omega) (Nat.le_of_ble_eq_true rfl) dX10_weight_133 ?_
  refine g_maxl hF kw_610 (by omega) (by omega) (by omega) (Nat.le_of_ble_eq_true rfl) dX10_weight_136 ?_
  refine g_l2i hF dX10_weight_139 ?_
  cases h
  exact g_ret_i hF rfl rfl dX10_weight_140 (hR _ gExt.rf (fun _ _ => rfl)) (by omega) (by omega)
theorem t_X10_weight {Z : gZ} {d mc ms : Nat} {Acc : Option Value → (Nat → Nat) → gT → gM → Prop} {AccX : Nat → (Nat → Nat) → gT → gM → Prop} {ad : Nat → Nat} {T : gT} {M : gM} {ce so c9 s9 : Nat} {m_a0 : Nat} {a0 : Nat} {i1 : Int32} {o : Int32 × gT × gM} (hF : gFix Z cX10_weight RX10 "weight" (some .int) d mc ms Acc AccX) (hn : Z.2.2.2.2.2.1 = 7) (hd : 8 ≤ d) (hk1 : ce + c9 ≤ mc) (hk2 : so + s9 ≤ ms) (q0 : T[a0]? = some (16, m_a0)) (h : f_X10_weight T M a0 i1 = some (o, c9, s9)) (hR : ∀ ad1 : Nat → Nat, gExt T o.2.1 → (∀ a : Nat, a < T.length → ad1 a = ad a) → Acc (some (.int o.1)) ad1 o.2.1 o.2.2) : gG Z ad T M ce so 0 [(0, .ref a0), (1, .int i1)] [] := by
  unfold f_X10_weight at h
  refine g_aload_n hF 0 rfl rfl dX10_weight_0 ?_
  refine g_iload_n hF 1 rfl rfl dX10_weight_1 ?_
  obtain ⟨x10, h10, h⟩ := gbnd h
  refine g_callV hF my_X10_rank kw_579 kw_568 kw_569 gC_16.1 (by decide) q0 (c_X10_rank (d := d - 1) (by omega) q0 h10) (by omega) (by omega) (by omega) rfl rfl (Nat.le_of_ble_eq_true rfl) dX10_weight_2 (g_sameS ?_)
  refine g_if_ge (tgt := 10) hF dX10_weight_5 (by decide) (fun c11 => ?_) (fun c11 => ?_)
  · replace h := gif_t c11 h
    refine g_iconst (v := (0 : Int32)) hF rfl dX10_weight_10 ?_
    refine g_istore_n (ls' := [(2, .int (0 : Int32)), (0, .ref a0), (1, .int i1)]) hF rfl (by rw [hn]; decide) rfl dX10_weight_11 ?_
    refine g_aload_n hF 1 rfl rfl dX10_weight_12 ?_
    obtain ⟨b12, h12, h⟩ := gbnd h
    obtain ⟨g12, l12, q_b12⟩ := ldr_sp h12
    refine g_get_r hF g12 fl_RX10_19 q0 dX10_weight_13 ?_
    refine g_astore_n (ls' := [(3, .ref b12), (2, .int (0 : Int32)), (0, .ref a0), (1, .int i1)]) hF rfl (by rw [hn]; decide) rfl dX10_weight_16 ?_
    refine g_aload_n hF 0 rfl rfl dX10_weight_17 ?_
    refine g_alenA hF q_b12 (by decide) dX10_weight_18 ?_
    refine g_istore (ls' := [(4, .int (Int32.ofNat (alen T b12))), (3, .ref b12), (2, .int (0 : Int32)), (0, .ref a0), (1, .int i1)]) hF (by rw [hn]; decide) rfl dX10_weight_19 ?_
    refine g_iconst (v := (0 : Int32)) hF rfl dX10_weight_21 ?_
    refine g_istore (ls' := [(5, .int (0 : Int32)), (4, .int (Int32.ofNat (alen T b12))), (3, .ref b12), (2, .int (0 : Int32)), (0, .ref a0), (1, .int i1)]) hF (by rw [hn]; decide) rfl dX10_weight_22 ?_
    obtain ⟨x13, h13, h⟩ := gbnd h
    refine gG_sub [4, 5, 3, 2, 1, 0] rfl (t_X10_weight_L24 hF hn hd (by omega) (by omega) q0 q_b12 h13 ?_)
    refine g_aload_n hF 0 rfl rfl dX10_weight_63 ?_
    obtain ⟨b14, h14, h⟩ := gbnd h
    obtain ⟨g14, l14, q_b14⟩ := ldr_sp h14
    refine g_get_r hF g14 fl_RX10_15 q0 dX10_weight_64 ?_
    refine g_iload_n hF 1 rfl rfl dX10_weight_67 ?_
    obtain ⟨b15, h15, h⟩ := gbnd h
    obtain ⟨i15h, g15, l15, q_b15⟩ := aldr_sp q_b14 h15
    refine g_aald hF q_b14 (Or.inr (Or.inr (Or.inl ⟨rfl, rfl⟩))) i15h g15 dX10_weight_68 ?_
    refine g_astore_n (ls' := [(3, .ref b15), (0, .ref a0), (1, .int i1), (2, .int x13)]) hF rfl (by rw [hn]; decide) rfl dX10_weight_69 ?_
    refine g_aload_n hF 1 rfl rfl dX10_weight_70 ?_
    obtain ⟨_, h16, h⟩ := gbnd h
    have q_16 := gko_sp h16
    refine g_get_o hF fl_RX10_31 q0 dX10_weight_71 ?_
    refine g_ifnonnull (tgt := 85) hF dX10_weight_74 (by decide) (fun c17 => ?_) (fun b17 c17 => ?_)
    · replace h := gif_t c17 h
      refine g_aload_n hF 0 rfl rfl dX10_weight_77 ?_
      refine g_get_i hF fl_RX10_48 q_b15 dX10_weight_78 ?_
      refine g_i2l hF dX10_weight_81 ?_
      refine g_goto (tgt := 125) hF dX10_weight_82 (by decide) ?_
      exact gG_sub [] rfl (t_X10_weight_125 hF hn hd (by omega) (by omega)  h (fun ad1 x1 y1 => hR ad1 (gExt.tr gExt.rf x1) (gad_call y1 gExt.rf (fun _ _ => rfl))))
    · replace h := gif_f (by rw [c17]; exact fun q => nomatch q) h
      refine g_aload_n hF 1 rfl rfl dX10_weight_85 ?_
      obtain ⟨_, h18, h⟩ := gbnd h
      have q_18 := gko_sp h18
      refine g_get_o hF fl_RX10_31 q0 dX10_weight_86 ?_
      refine g_iconst (v := (4 : Int32)) hF rfl dX10_weight_89 ?_
      obtain ⟨x19, h19, h⟩ := gbnd h
      obtain ⟨c19, s19, h, ec19, es19⟩ := cadd_sp h
      have g19 : gnew T M (12, 4) = some (x19.1, x19.2.1, x19.2.2) := h19
      refine g_newa_long (N := 4) hF (by decide) (by decide) (by decide) kw_273 g19 (gnew_lt g19) (gFr_r (gT_ne q_b15) (gFr_r (gT_ne q0) (gFr_i (gFr_i gFr_0)))) (gFr_o q_18 rfl gFr_0) (by omega) (by omega) dX10_weight_90 (fun ad19 z19 => ?_)
      have y19 : ∀ b : Nat, b < T.length → ad19 b = ad b := fun b hb => z19 b (by rw [(gnew_sp g19).1]; omega)
      have X19 := gExt.tr gExt.rf (gnew_ext g19)
      have W19 := gad_call y19 gExt.rf (fun _ _ => rfl)
      have q_20 := (gnew_ext g19) _ _ q_b15
      have q_21 := (gnew_ext g19) _ _ q0
      have q_22 := q_18.ext (gnew_ext g19)
      have q_y19 := gnew_at g19
      refine g_dup hF rfl dX10_weight_92 ?_
      refine g_iconst (v := (0 : Int32)) hF rfl dX10_weight_93 ?_
      refine g_aload_n hF 0 rfl rfl dX10_weight_94 ?_
      refine g_get_i hF fl_RX10_48 q_20 dX10_weight_95 ?_
      refine g_i2l hF dX10_weight_98 ?_
      obtain ⟨M23, h23, h⟩ := gbnd h
      obtain ⟨i23h, e23v⟩ := astl_sp q_y19 h23
      refine g_last hF q_y19 i23h dX10_weight_99 ?_
      rw [← e23v]
      refine g_dup hF rfl dX10_weight_100 ?_
      refine g_iconst (v := (1 : Int32)) hF rfl dX10_weight_101 ?_
      refine g_aload_n hF 1 rfl rfl dX10_weight_102 ?_
      refine g_iload_n hF 2 rfl rfl dX10_weight_103 ?_
      obtain ⟨x24, h24, h⟩ := gbnd h
      refine g_callV hF my_X10_rank kw_579 kw_568 kw_569 gC_16.1 (by decide) q_21 (c_X10_rank (d := d - 1) (by omega) q_21 h24) (by omega) (by omega) (by omega) rfl rfl (by cases (gr M a0 4) <;> exact Nat.le_of_ble_eq_true rfl) dX10_weight_104 (g_sameS ?_)
      refine g_i2l hF dX10_weight_107 ?_
      obtain ⟨M25, h25, h⟩ := gbnd h
      obtain ⟨i25h, e25v⟩ := astl_sp q_y19 h25
      refine g_last hF q_y19 i25h dX10_weight_108 ?_
      rw [← e25v]
      refine g_dup hF rfl dX10_weight_109 ?_
      refine g_iconst (v := (2 : Int32)) hF rfl dX10_weight_110 ?_
      refine g_aload_n hF 0 rfl rfl dX10_weight_111 ?_
      obtain ⟨x26, h26, h⟩ := gbnd h
      refine g_callV hF my_X9_offered kw_595 kw_596 kw_597 gC_9.1 (by decide) q_20 (c_X9_offered (d := d - 1) (by omega) q_20 h26) (by omega) (by omega) (by omega) rfl rfl (by cases (gr M a0 4) <;> exact Nat.le_of_ble_eq_true rfl) dX10_weight_112 (g_sameS ?_)
      refine g_i2l hF dX10_weight_115 ?_
      obtain ⟨M27, h27, h⟩ := gbnd h
      obtain ⟨i27h, e27v⟩ := astl_sp q_y19 h27
      refine g_last hF q_y19 i27h dX10_weight_116 ?_
      rw [← e27v]
      refine g_dup hF rfl dX10_weight_117 ?_
      refine g_iconst (v := (3 : Int32)) hF rfl dX10_weight_118 ?_
      refine g_iload_n hF 3 rfl rfl dX10_weight_119 ?_
      refine g_i2l hF dX10_weight_120 ?_
      obtain ⟨M28, h28, h⟩ := gbnd h
      obtain ⟨i28h, e28v⟩ := astl_sp q_y19 h28
      refine g_last hF q_y19 i28h dX10_weight_121 ?_
      rw [← e28v]
      obtain ⟨b30, h30, h⟩ := gbnd h
      obtain ⟨g30, l30, q_b30⟩ := gsm_sp h30
      refine gG_st (st' := [.ref x19.1, .ref b30]) (by first | (rw [g30]; rfl) | rw [g30]) ?_
      obtain ⟨x29, h29, h⟩ := gbnd h
      refine g_callV hF my_X11_value kw_599 kw_600 kw_601 gC_17.1 (by decide) q_b30 (c_X11_value_c (d := d - 1) (by omega) q_b30 q_y19 h29) (by omega) (by omega) (by omega) rfl rfl (Nat.le_of_ble_eq_true rfl) dX10_weight_122 (g_sameS ?_)
      exact gG_sub [] rfl (t_X10_weight_125 hF hn hd (by omega) (by omega)  h (fun ad1 x1 y1 => hR ad1 (gExt.tr X19 x1) (gad_call y1 X19 W19)))
  · replace h := gif_f c11 h
    refine g_iconst (v := (-1 : Int32)) hF rfl dX10_weight_8 ?_
    cases h
    exact g_ret_i hF rfl rfl dX10_weight_9 (hR _ gExt.rf (fun _ _ => rfl)) (by omega) (by omega)
