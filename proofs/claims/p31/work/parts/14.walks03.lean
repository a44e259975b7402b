theorem t_X1_init {Z : gZ} {d mc ms : Nat} {Acc : Option Value → (Nat → Nat) → gT → gM → Prop} {AccX : Nat → (Nat → Nat) → gT → gM → Prop} {ad : Nat → Nat} {T : gT} {M : gM} {m_a0 : Nat} {a0 : Nat} {o : gT × gM} (hF : gFix Z cX1_init RX1 "<init>" none d mc ms Acc AccX) (hn : Z.2.2.2.2.2.1 = 1) (hd : 1 ≤ d) (hmc : 7 ≤ mc) (hms : 332 ≤ ms) (q0 : T[a0]? = some (1, m_a0)) (h : f_X1_init T M a0 = some o) (hR : ∀ ad1 : Nat → Nat, gExt T o.1 → (∀ a : Nat, a < T.length → ad1 a = ad a) → Acc none ad1 o.1 o.2) : gG Z ad T M 0 0 0 [(0, .ref a0)] [] := by
  unfold f_X1_init at h
  refine g_aload_n hF 0 rfl rfl dX1_init_0 ?_
  refine g_obj hF kw_281 kw_102 kw_103 (by omega) (Nat.le_of_ble_eq_true rfl) dX1_init_1 ?_
  refine g_aload_n hF 0 rfl rfl dX1_init_4 ?_
  refine g_bipush (v := (8 : Int32)) hF rfl dX1_init_5 ?_
  obtain ⟨x2, h2, h⟩ := gbnd h
  have g2 : gnew T M (11, 8) = some (x2.1, x2.2.1, x2.2.2) := h2
  refine g_newa_int (N := 8) hF (by decide) (by decide) (by decide) kw_167 g2 (gnew_lt g2) (gFr_r (gT_ne q0) gFr_0) (gFr_r (gT_ne q0) gFr_0) (by omega) (by omega) dX1_init_7 (fun ad2 z2 => ?_)
  have X2 := gExt.tr gExt.rf (gnew_ext g2)
  have W2 := gad_new g2 z2 gExt.rf (fun _ _ => rfl)
  have q_3 := gnew_ext g2 _ _ q0
  have q_y2 := gnew_at g2
  refine g_putF_r hF (fun _ => rfl) (fun _ => rfl) (gT_lt q_y2) rfl (fun R9 T9 N9 t9 q9 => by rw [g_own1 q9]; rfl) fl_RX1_9 q_3 dX1_init_9 ?_
  refine g_aload_n hF 0 rfl rfl dX1_init_12 ?_
  refine g_bipush (v := (12 : Int32)) hF rfl dX1_init_13 ?_
  obtain ⟨x4, h4, h⟩ := gbnd h
  have g4 : gnew x2.2.1 (sr x2.2.2 a0 0 (some x2.1)) (11, 12) = some (x4.1, x4.2.1, x4.2.2) := h4
  refine g_newa_int (N := 12) hF (by decide) (by decide) (by decide) kw_167 g4 (gnew_lt g4) (gFr_r (gT_ne q_3) gFr_0) (gFr_r (gT_ne q_3) gFr_0) (by omega) (by omega) dX1_init_15 (fun ad4 z4 => ?_)
  have X4 := gExt.tr X2 (gnew_ext g4)
  have W4 := gad_new g4 z4 X2 W2
  have q_5 := gnew_ext g4 _ _ q_3
  have q_y4 := gnew_at g4
  refine g_putF_r hF (fun _ => rfl) (fun _ => rfl) (gT_lt q_y4) rfl (fun R9 T9 N9 t9 q9 => by rw [g_own1 q9]; rfl) fl_RX1_15 q_5 dX1_init_17 ?_
  refine g_aload_n hF 0 rfl rfl dX1_init_20 ?_
  refine g_bipush (v := (12 : Int32)) hF rfl dX1_init_21 ?_
  obtain ⟨x6, h6, h⟩ := gbnd h
  have g6 : gnew x4.2.1 (sr x4.2.2 a0 1 (some x4.1)) (11, 12) = some (x6.1, x6.2.1, x6.2.2) := h6
  refine g_newa_int (N := 12) hF (by decide) (by decide) (by decide) kw_167 g6 (gnew_lt g6) (gFr_r (gT_ne q_5) gFr_0) (gFr_r (gT_ne q_5) gFr_0) (by omega) (by omega) dX1_init_23 (fun ad6 z6 => ?_)
  have X6 := gExt.tr X4 (gnew_ext g6)
  have W6 := gad_new g6 z6 X4 W4
  have q_7 := gnew_ext g6 _ _ q_5
  have q_y6 := gnew_at g6
  refine g_putF_r hF (fun _ => rfl) (fun _ => rfl) (gT_lt q_y6) rfl (fun R9 T9 N9 t9 q9 => by rw [g_own1 q9]; rfl) fl_RX1_18 q_7 dX1_init_25 ?_
  refine g_aload_n hF 0 rfl rfl dX1_init_28 ?_
  refine g_bipush (v := (12 : Int32)) hF rfl dX1_init_29 ?_
  obtain ⟨x8, h8, h⟩ := gbnd h
  have g8 : gnew x6.2.1 (sr x6.2.2 a0 2 (some x6.1)) (11, 12) = some (x8.1, x8.2.1, x8.2.2) := h8
  refine g_newa_int (N := 12) hF (by decide) (by decide) (by decide) kw_167 g8 (gnew_lt g8) (gFr_r (gT_ne q_7) gFr_0) (gFr_r (gT_ne q_7) gFr_0) (by omega) (by omega) dX1_init_31 (fun ad8 z8 => ?_)
  have X8 := gExt.tr X6 (gnew_ext g8)
  have W8 := gad_new g8 z8 X6 W6
  have q_9 := gnew_ext g8 _ _ q_7
  have q_y8 := gnew_at g8
  refine g_putF_r hF (fun _ => rfl) (fun _ => rfl) (gT_lt q_y8) rfl (fun R9 T9 N9 t9 q9 => by rw [g_own1 q9]; rfl) fl_RX1_21 q_9 dX1_init_33 ?_
  refine g_aload_n hF 0 rfl rfl dX1_init_36 ?_
  refine g_bipush (v := (96 : Int32)) hF rfl dX1_init_37 ?_
  obtain ⟨x10, h10, h⟩ := gbnd h
  have g10 : gnew x8.2.1 (sr x8.2.2 a0 3 (some x8.1)) (11, 96) = some (x10.1, x10.2.1, x10.2.2) := h10
  refine g_newa_int (N := 96) hF (by decide) (by decide) (by decide) kw_167 g10 (gnew_lt g10) (gFr_r (gT_ne q_9) gFr_0) (gFr_r (gT_ne q_9) gFr_0) (by omega) (by omega) dX1_init_39 (fun ad10 z10 => ?_)
  have X10 := gExt.tr X8 (gnew_ext g10)
  have W10 := gad_new g10 z10 X8 W8
  have q_11 := gnew_ext g10 _ _ q_9
  have q_y10 := gnew_at g10
  refine g_putF_r hF (fun _ => rfl) (fun _ => rfl) (gT_lt q_y10) rfl (fun R9 T9 N9 t9 q9 => by rw [g_own1 q9]; rfl) fl_RX1_24 q_11 dX1_init_41 ?_
  refine g_aload_n hF 0 rfl rfl dX1_init_44 ?_
  refine g_bipush (v := (96 : Int32)) hF rfl dX1_init_45 ?_
  obtain ⟨x12, h12, h⟩ := gbnd h
  have g12 : gnew x10.2.1 (sr x10.2.2 a0 4 (some x10.1)) (11, 96) = some (x12.1, x12.2.1, x12.2.2) := h12
  refine g_newa_int (N := 96) hF (by decide) (by decide) (by decide) kw_167 g12 (gnew_lt g12) (gFr_r (gT_ne q_11) gFr_0) (gFr_r (gT_ne q_11) gFr_0) (by omega) (by omega) dX1_init_47 (fun ad12 z12 => ?_)
  have X12 := gExt.tr X10 (gnew_ext g12)
  have W12 := gad_new g12 z12 X10 W10
  have q_13 := gnew_ext g12 _ _ q_11
  have q_y12 := gnew_at g12
  refine g_putF_r hF (fun _ => rfl) (fun _ => rfl) (gT_lt q_y12) rfl (fun R9 T9 N9 t9 q9 => by rw [g_own1 q9]; rfl) fl_RX1_27 q_13 dX1_init_49 ?_
  refine g_aload_n hF 0 rfl rfl dX1_init_52 ?_
  refine g_bipush (v := (96 : Int32)) hF rfl dX1_init_53 ?_
  obtain ⟨x14, h14, h⟩ := gbnd h
  have g14 : gnew x12.2.1 (sr x12.2.2 a0 5 (some x12.1)) (11, 96) = some (x14.1, x14.2.1, x14.2.2) := h14
  refine g_newa_int (N := 96) hF (by decide) (by decide) (by decide) kw_167 g14 (gnew_lt g14) (gFr_r (gT_ne q_13) gFr_0) (gFr_r (gT_ne q_13) gFr_0) (by omega) (by omega) dX1_init_55 (fun ad14 z14 => ?_)
  have X14 := gExt.tr X12 (gnew_ext g14)
  have W14 := gad_new g14 z14 X12 W12
  have q_15 := gnew_ext g14 _ _ q_13
  have q_y14 := gnew_at g14
  refine g_putF_r hF (fun _ => rfl) (fun _ => rfl) (gT_lt q_y14) rfl (fun R9 T9 N9 t9 q9 => by rw [g_own1 q9]; rfl) fl_RX1_30 q_15 dX1_init_57 ?_
  cases h
  exact g_ret_v hF rfl dX1_init_60 (hR ad14 X14 W14) (by omega) (by omega)
theorem c_X1_init {d : Nat} {T : gT} {M : gM} {m_a0 : Nat} {a0 : Nat} {r : gT × gM} (hd : 1 ≤ d) (q0 : T[a0]? = some (1, m_a0)) (h : f_X1_init T M a0 = some (r)) : gRet d yX1_init cX1_init 1 none 7 332 [.ref a0] T M (gMade T none r.1 r.2) := by
  refine gRet_of (own := RX1) (by decide) rfl (Nat.le_of_ble_eq_true rfl) (fun Z ad0 hn h0 hF => ?_)
  exact t_X1_init hF hn hd (Nat.le_refl _) (Nat.le_refl _) q0 h (fun ad1 x1 y1 => ⟨rfl, rfl, rfl, x1, y1⟩)
theorem t_X8_cellOf {Z : gZ} {d mc ms : Nat} {Acc : Option Value → (Nat → Nat) → gT → gM → Prop} {AccX : Nat → (Nat → Nat) → gT → gM → Prop} {ad : Nat → Nat} {T : gT} {M : gM} {i0 : Int32} {i1 : Int32} {o : Int32} (hF : gFix Z cX8_cellOf RX8 "cellOf" (some .int) d mc ms Acc AccX) (hn : Z.2.2.2.2.2.1 = 2) (hd : 1 ≤ d)  (h : f_X8_cellOf T M i0 i1 = some o) (hR : Acc (some (.int o)) ad T M) : gG Z ad T M 0 0 0 [(0, .int i0), (1, .int i1)] [] := by
  unfold f_X8_cellOf at h
  refine g_iload_n hF 0 rfl rfl dX8_cellOf_0 ?_
  refine g_bipush (v := (12 : Int32)) hF rfl dX8_cellOf_1 ?_
  refine g_imul hF dX8_cellOf_3 ?_
  refine g_iload_n hF 1 rfl rfl dX8_cellOf_4 ?_
  refine g_iadd hF dX8_cellOf_5 ?_
  cases h
  exact g_ret_i hF rfl rfl dX8_cellOf_6 hR (Nat.zero_le _) (Nat.zero_le _)
theorem c_X8_cellOf {d : Nat} {T : gT} {M : gM} {i0 : Int32} {i1 : Int32} {r : Int32} (hd : 1 ≤ d)  (h : f_X8_cellOf T M i0 i1 = some (r)) : gRet d yX8_cellOf cX8_cellOf 2 (some .int) 0 0 [.int i0, .int i1] T M (gSame T (some (.int r)) M) := by
  refine gRet_of (own := RX8) (by decide) rfl (Nat.le_of_ble_eq_true rfl) (fun Z ad0 hn h0 hF => ?_)
  exact t_X8_cellOf hF hn hd  h ⟨rfl, rfl, rfl, rfl⟩
theorem t_X1_countCandidates_60 {Z : gZ} {d mc ms : Nat} {Acc : Option Value → (Nat → Nat) → gT → gM → Prop} {AccX : Nat → (Nat → Nat) → gT → gM → Prop} {ad : Nat → Nat} {T : gT} {M : gM} {m_a0 m_a1 : Nat} {a0 : Nat} {a1 : Nat} {i2 : Int32} {i3 : Int32} {o : (gM) ⊕ (Int32 × gM)} (hF : gFix Z cX1_countCandidates RX1 "countCandidates" none d mc ms Acc AccX) (hn : Z.2.2.2.2.2.1 = 5) (hd : 3 ≤ d) (q0 : T[a0]? = some (1, m_a0)) (q1 : T[a1]? = some (0, m_a1)) (h : f_X1_countCandidates_60 T M a0 a1 i2 i3 = some o) (hE : ∀ e9, o = .inl e9 → gG Z ad T e9 0 0 66 [] []) (hN : ∀ n9, o = .inr n9 → gG Z ad T n9.2 0 0 9 [(0, .ref a0), (1, .ref a1), (2, .int i2), (3, .int n9.1)] []) : gG Z ad T M 0 0 60 [(0, .ref a0), (1, .ref a1), (2, .int i2), (3, .int i3)] [] := by
  unfold f_X1_countCandidates_60 at h
  refine g_iinc (n := 1) (v := (i3 + (1 : Int32))) (ls' := [(3, .int (i3 + (1 : Int32))), (0, .ref a0), (1, .ref a1), (2, .int i2)]) hF 3 rfl rfl (by rw [hn]; decide) rfl dX1_countCandidates_60 ?_
  refine g_goto (tgt := 9) hF dX1_countCandidates_63 (by decide) ?_
  exact gG_sub [1, 2, 3, 0] rfl (hN _ (Option.some.inj h).symm)
theorem t_X1_countCandidates_44 {Z : gZ} {d mc ms : Nat} {Acc : Option Value → (Nat → Nat) → gT → gM → Prop} {AccX : Nat → (Nat → Nat) → gT → gM → Prop} {ad : Nat → Nat} {T : gT} {M : gM} {m_a0 m_a1 m_b0 : Nat} {a0 : Nat} {a1 : Nat} {i2 : Int32} {i3 : Int32} {i4 : Int32} {b0 : Nat} {k1 : Int32} {k2 : Int32} {o : (gM) ⊕ (Int32 × gM)} (hF : gFix Z cX1_countCandidates RX1 "countCandidates" none d mc ms Acc AccX) (hn : Z.2.2.2.2.2.1 = 5) (hd : 3 ≤ d) (q0 : T[a0]? = some (1, m_a0)) (q1 : T[a1]? = some (0, m_a1)) (p0 : T[b0]? = some (11, m_b0)) (h : f_X1_countCandidates_44 T M a0 a1 i2 i3 i4 b0 k1 k2 = some o) (hE : ∀ e9, o = .inl e9 → gG Z ad T e9 0 0 66 [] []) (hN : ∀ n9, o = .inr n9 → gG Z ad T n9.2 0 0 9 [(0, .ref a0), (1, .ref a1), (2, .int i2), (3, .int n9.1)] []) : gG Z ad T M 0 0 44 [(0, .ref a0), (1, .ref a1), (2, .int i2), (3, .int i3), (4, .int i4)] [.int k2, .int k1, .ref b0] := by
  unfold f_X1_countCandidates_44 at h
  obtain ⟨M1, h1, h⟩ := gbnd h
  obtain ⟨i1h, e1v⟩ := ast_sp p0 h1
  refine g_iast hF p0 i1h dX1_countCandidates_44 ?_
  rw [← e1v]
  refine g_iload hF 4 rfl dX1_countCandidates_45 ?_
  refine g_if_eq (tgt := 60) hF dX1_countCandidates_47 (by decide) (fun c2 => ?_) (fun c2 => ?_)
  · replace h := gif_t c2 h
    exact gG_sub [0, 1, 2, 3] rfl (t_X1_countCandidates_60 hF hn hd q0 q1 h hE hN)
  · replace h := gif_f c2 h
    refine g_aload_n hF 0 rfl rfl dX1_countCandidates_50 ?_
    obtain ⟨b3, h3, h⟩ := gbnd h
    obtain ⟨g3, l3, q_b3⟩ := ldr_sp h3
    refine g_get_r hF g3 fl_RX1_15 q0 dX1_countCandidates_51 ?_
    refine g_iload_n hF 2 rfl rfl dX1_countCandidates_54 ?_
    refine g_dup2 hF rfl rfl dX1_countCandidates_55 ?_
    obtain ⟨v4, h4, h⟩ := gbnd h
    obtain ⟨i4h, e4v⟩ := ald_sp q_b3 h4
    refine g_iald hF q_b3 i4h dX1_countCandidates_56 ?_
    rw [← e4v]
    refine g_iconst (v := (1 : Int32)) hF rfl dX1_countCandidates_57 ?_
    refine g_iadd hF dX1_countCandidates_58 ?_
    obtain ⟨M5, h5, h⟩ := gbnd h
    obtain ⟨i5h, e5v⟩ := ast_sp q_b3 h5
    refine g_iast hF q_b3 i5h dX1_countCandidates_59 ?_
    rw [← e5v]
    exact gG_sub [0, 1, 2, 3] rfl (t_X1_countCandidates_60 hF hn hd q0 q1 h hE hN)
theorem t_X1_countCandidates_B9 {Z : gZ} {d mc ms : Nat} {Acc : Option Value → (Nat → Nat) → gT → gM → Prop} {AccX : Nat → (Nat → Nat) → gT → gM → Prop} {ad : Nat → Nat} {T : gT} {M : gM} {m_a0 m_a1 : Nat} {a0 : Nat} {a1 : Nat} {i2 : Int32} {i3 : Int32} {o : (gM) ⊕ (Int32 × gM)} (hF : gFix Z cX1_countCandidates RX1 "countCandidates" none d mc ms Acc AccX) (hn : Z.2.2.2.2.2.1 = 5) (hd : 3 ≤ d) (q0 : T[a0]? = some (1, m_a0)) (q1 : T[a1]? = some (0, m_a1)) (h : f_X1_countCandidates_B9 T M a0 a1 i2 i3 = some o) (hE : ∀ e9, o = .inl e9 → gG Z ad T e9 0 0 66 [] []) (hN : ∀ n9, o = .inr n9 → gG Z ad T n9.2 0 0 9 [(0, .ref a0), (1, .ref a1), (2, .int i2), (3, .int n9.1)] []) : gG Z ad T M 0 0 9 [(0, .ref a0), (1, .ref a1), (2, .int i2), (3, .int i3)] [] := by
  unfold f_X1_countCandidates_B9 at h
  refine g_iload_n hF 3 rfl rfl dX1_countCandidates_9 ?_
  refine g_aload_n hF 1 rfl rfl dX1_countCandidates_10 ?_
  refine g_get_iN hF fn_RX1_33 q1 dX1_countCandidates_11 ?_
  refine g_icmp_ge (tgt := 66) hF dX1_countCandidates_14 (by decide) (fun c6 => ?_) (fun c6 => ?_)
  · replace h := gif_t c6 h
    exact gG_sub [] rfl (hE _ (Option.some.inj h).symm)
  · replace h := gif_f c6 h
    refine g_aload_n hF 1 rfl rfl dX1_countCandidates_17 ?_
    refine g_iload_n hF 3 rfl rfl dX1_countCandidates_18 ?_
    refine g_iload_n hF 2 rfl rfl dX1_countCandidates_19 ?_
    obtain ⟨x7, h7, h⟩ := gbnd h
    refine g_callVN hF my_X0_isCandidate kn_455 kw_457 kw_12 gC_0.1 (by decide) q1 (c_X0_isCandidate (d := d - 1) (by omega) q1 h7) (by omega) (Nat.zero_le _) (Nat.zero_le _) rfl rfl (Nat.le_of_ble_eq_true rfl) dX1_countCandidates_20 (g_sameS ?_)
    refine g_istore (ls' := [(4, .int x7), (0, .ref a0), (1, .ref a1), (2, .int i2), (3, .int i3)]) hF (by rw [hn]; decide) rfl dX1_countCandidates_23 ?_
    refine g_aload_n hF 1 rfl rfl dX1_countCandidates_25 ?_
    obtain ⟨b8, h8, h⟩ := gbnd h
    obtain ⟨g8, l8, q_b8⟩ := ldr_sp h8
    refine g_get_r hF g8 fl_RX1_27 q0 dX1_countCandidates_26 ?_
    refine g_iload_n hF 4 rfl rfl dX1_countCandidates_29 ?_
    refine g_iload_n hF 3 rfl rfl dX1_countCandidates_30 ?_
    obtain ⟨x9, h9, h⟩ := gbnd h
    refine g_callSN hF my_X8_cellOf kn_460 kw_461 (c_X8_cellOf (d := d - 1) (by omega)  h9) (by omega) (Nat.zero_le _) (Nat.zero_le _) rfl rfl (Nat.le_of_ble_eq_true rfl) dX1_countCandidates_31 (g_sameS ?_)
    refine g_iload hF 0 rfl dX1_countCandidates_34 ?_
    refine g_if_eq (tgt := 43) hF dX1_countCandidates_36 (by decide) (fun c10 => ?_) (fun c10 => ?_)
    · replace h := gif_t c10 h
      refine g_iconst (v := (-1 : Int32)) hF rfl dX1_countCandidates_43 ?_
      exact gG_sub [1, 2, 3, 4, 0] rfl (t_X1_countCandidates_44 hF hn hd q0 q1 q_b8 h hE hN)
    · replace h := gif_f c10 h
      refine g_iconst (v := (0 : Int32)) hF rfl dX1_countCandidates_39 ?_
      refine g_goto (tgt := 44) hF dX1_countCandidates_40 (by decide) ?_
      exact gG_sub [1, 2, 3, 4, 0] rfl (t_X1_countCandidates_44 hF hn hd q0 q1 q_b8 h hE hN)
theorem t_X1_countCandidates_L9 {Z : gZ} {d mc ms : Nat} {Acc : Option Value → (Nat → Nat) → gT → gM → Prop} {AccX : Nat → (Nat → Nat) → gT → gM → Prop} {ad : Nat → Nat} {T : gT} {M : gM} {m_a0 m_a1 : Nat} {a0 : Nat} {a1 : Nat} {i2 : Int32} {i3 : Int32} {o : gM} (hF : gFix Z cX1_countCandidates RX1 "countCandidates" none d mc ms Acc AccX) (hn : Z.2.2.2.2.2.1 = 5) (hd : 3 ≤ d) (q0 : T[a0]? = some (1, m_a0)) (q1 : T[a1]? = some (0, m_a1)) (h : gloop (fun x => f_X1_countCandidates_B9 T x.2 a0 a1 i2 x.1) gFU (i3, M) = some o) (hE : gG Z ad T o 0 0 66 [] []) : gG Z ad T M 0 0 9 [(0, .ref a0), (1, .ref a1), (2, .int i2), (3, .int i3)] [] := by
  refine gloop_ind (P := fun x0 : Int32 × gM => gG Z ad T x0.2 0 0 9 [(0, .ref a0), (1, .ref a1), (2, .int i2), (3, .int x0.1)] []) (e := o) (fun x0 y hy hl hr => ?_) gFU (i3, M) h
  exact t_X1_countCandidates_B9 hF hn hd q0 q1 hy (fun e9 q9 => by rw [hl _ q9]; exact hE) (fun n9 q9 => hr n9 q9)
theorem t_X1_countCandidates {Z : gZ} {d mc ms : Nat} {Acc : Option Value → (Nat → Nat) → gT → gM → Prop} {AccX : Nat → (Nat → Nat) → gT → gM → Prop} {ad : Nat → Nat} {T : gT} {M : gM} {m_a0 m_a1 : Nat} {a0 : Nat} {a1 : Nat} {i2 : Int32} {o : gM} (hF : gFix Z cX1_countCandidates RX1 "countCandidates" none d mc ms Acc AccX) (hn : Z.2.2.2.2.2.1 = 5) (hd : 3 ≤ d) (q0 : T[a0]? = some (1, m_a0)) (q1 : T[a1]? = some (0, m_a1)) (h : f_X1_countCandidates T M a0 a1 i2 = some o) (hR : Acc none ad T o) : gG Z ad T M 0 0 0 [(0, .ref a0), (1, .ref a1), (2, .int i2)] [] := by
  unfold f_X1_countCandidates at h
  refine g_aload_n hF 0 rfl rfl dX1_countCandidates_0 ?_
  obtain ⟨b11, h11, h⟩ := gbnd h
  obtain ⟨g11, l11, q_b11⟩ := ldr_sp h11
  refine g_get_r hF g11 fl_RX1_15 q0 dX1_countCandidates_1 ?_
  refine g_iload_n hF 2 rfl rfl dX1_countCandidates_4 ?_
  refine g_iconst (v := (0 : Int32)) hF rfl dX1_countCandidates_5 ?_
  obtain ⟨M12, h12, h⟩ := gbnd h
  obtain ⟨i12h, e12v⟩ := ast_sp q_b11 h12
  refine g_iast hF q_b11 i12h dX1_countCandidates_6 ?_
  rw [← e12v]
  refine g_iconst (v := (0 : Int32)) hF rfl dX1_countCandidates_7 ?_
  refine g_istore_n (ls' := [(3, .int (0 : Int32)), (0, .ref a0), (1, .ref a1), (2, .int i2)]) hF rfl (by rw [hn]; decide) rfl dX1_countCandidates_8 ?_
  obtain ⟨x13, h13, h⟩ := gbnd h
  refine gG_sub [1, 2, 3, 0] rfl (t_X1_countCandidates_L9 hF hn hd q0 q1 h13 ?_)
  cases h
  exact g_ret_v hF rfl dX1_countCandidates_66 hR (Nat.zero_le _) (Nat.zero_le _)
theorem c_X1_countCandidates {d : Nat} {T : gT} {M : gM} {m_a0 m_a1 : Nat} {a0 : Nat} {a1 : Nat} {i2 : Int32} {r : gM} (hd : 3 ≤ d) (q0 : T[a0]? = some (1, m_a0)) (q1 : T[a1]? = some (0, m_a1)) (h : f_X1_countCandidates T M a0 a1 i2 = some (r)) : gRet d yX1_countCandidates cX1_countCandidates 5 none 0 0 [.ref a0, .ref a1, .int i2] T M (gSame T none r) := by
  refine gRet_of (own := RX1) (by decide) rfl (Nat.le_of_ble_eq_true rfl) (fun Z ad0 hn h0 hF => ?_)
  exact t_X1_countCandidates hF hn hd q0 q1 h ⟨rfl, rfl, rfl, rfl⟩
theorem t_X1_choiceOf_B29 {Z : gZ} {d mc ms : Nat} {Acc : Option Value → (Nat → Nat) → gT → gM → Prop} {AccX : Nat → (Nat → Nat) → gT → gM → Prop} {ad : Nat → Nat} {T : gT} {M : gM} {m_a0 m_a3 : Nat} {a0 : Nat} {i2 : Int32} {a3 : Nat} {i4 : Int32} {o : ((Int32) ⊕ (Int32)) ⊕ (Int32)} (hF : gFix Z cX1_choiceOf RX1 "choiceOf" (some .int) d mc ms Acc AccX) (hn : Z.2.2.2.2.2.1 = 5) (hd : 3 ≤ d) (q0 : T[a0]? = some (0, m_a0)) (q3 : T[a3]? = some (3, m_a3)) (h : f_X1_choiceOf_B29 T M a0 i2 a3 i4 = some o) (hR : ∀ r9, o = .inl (.inl r9) → Acc (some (.int r9)) ad T M) (hE : ∀ e9, o = .inl (.inr e9) → gG Z ad T M 0 0 53 [(3, .ref a3), (4, .int e9)] []) (hN : ∀ n9, o = .inr n9 → gG Z ad T M 0 0 29 [(0, .ref a0), (2, .int i2), (3, .ref a3), (4, .int n9)] []) : gG Z ad T M 0 0 29 [(0, .ref a0), (2, .int i2), (3, .ref a3), (4, .int i4)] [] := by
  unfold f_X1_choiceOf_B29 at h
  refine g_iload hF 3 rfl dX1_choiceOf_29 ?_
  refine g_aload_n hF 2 rfl rfl dX1_choiceOf_31 ?_
  refine g_get_iN hF fn_RX1_88 q3 dX1_choiceOf_32 ?_
  refine g_icmp_ge (tgt := 67) hF dX1_choiceOf_35 (by decide) (fun c1 => ?_) (fun c1 => ?_)
  · replace h := gif_t c1 h
    refine g_iconst (v := (-1 : Int32)) hF rfl dX1_choiceOf_67 ?_
    cases h
    exact g_ret_i hF rfl rfl dX1_choiceOf_68 (hR _ rfl) (Nat.zero_le _) (Nat.zero_le _)
  · replace h := gif_f c1 h
    refine g_aload_n hF 0 rfl rfl dX1_choiceOf_38 ?_
    refine g_aload_n hF 2 rfl rfl dX1_choiceOf_39 ?_
    obtain ⟨b2, h2, h⟩ := gbnd h
    obtain ⟨g2, l2, q_b2⟩ := ldr_sp h2
    refine g_get_rN hF g2 fn_RX1_91 q3 dX1_choiceOf_40 ?_
    refine g_iload hF 3 rfl dX1_choiceOf_43 ?_
    obtain ⟨v3, h3, h⟩ := gbnd h
    obtain ⟨i3h, e3v⟩ := ald_sp q_b2 h3
    refine g_iald hF q_b2 i3h dX1_choiceOf_45 ?_
    rw [← e3v]
    refine g_iload_n hF 1 rfl rfl dX1_choiceOf_46 ?_
    obtain ⟨x4, h4, h⟩ := gbnd h
    refine g_callVN hF my_X0_isCandidate kn_455 kw_457 kw_12 gC_0.1 (by decide) q0 (c_X0_isCandidate (d := d - 1) (by omega) q0 h4) (by omega) (Nat.zero_le _) (Nat.zero_le _) rfl rfl (Nat.le_of_ble_eq_true rfl) dX1_choiceOf_47 (g_sameS ?_)
    refine g_if_eq (tgt := 61) hF dX1_choiceOf_50 (by decide) (fun c5 => ?_) (fun c5 => ?_)
    · replace h := gif_t c5 h
      refine g_iinc (n := 1) (v := (i4 + (1 : Int32))) (ls' := [(4, .int (i4 + (1 : Int32))), (0, .ref a0), (2, .int i2), (3, .ref a3)]) hF 3 rfl rfl (by rw [hn]; decide) rfl dX1_choiceOf_61 ?_
      refine g_goto (tgt := 29) hF dX1_choiceOf_64 (by decide) ?_
      exact gG_sub [1, 2, 3, 0] rfl (hN _ (Option.some.inj h).symm)
    · replace h := gif_f c5 h
      exact gG_sub [2, 3] rfl (hE _ (Option.some.inj h).symm)
theorem t_X1_choiceOf_L29 {Z : gZ} {d mc ms : Nat} {Acc : Option Value → (Nat → Nat) → gT → gM → Prop} {AccX : Nat → (Nat → Nat) → gT → gM → Prop} {ad : Nat → Nat} {T : gT} {M : gM} {m_a0 m_a3 : Nat} {a0 : Nat} {i2 : Int32} {a3 : Nat} {i4 : Int32} {o : (Int32) ⊕ (Int32)} (hF : gFix Z cX1_choiceOf RX1 "choiceOf" (some .int) d mc ms Acc AccX) (hn : Z.2.2.2.2.2.1 = 5) (hd : 3 ≤ d) (q0 : T[a0]? = some (0, m_a0)) (q3 : T[a3]? = some (3, m_a3)) (h : gloop (fun x => f_X1_choiceOf_B29 T M a0 i2 a3 x) gFU i4 = some o) (hR : ∀ r9, o = .inl r9 → Acc (some (.int r9)) ad T M) (hE : ∀ e9, o = .inr e9 → gG Z ad T M 0 0 53 [(3, .ref a3), (4, .int e9)] []) : gG Z ad T M 0 0 29 [(0, .ref a0), (2, .int i2), (3, .ref a3), (4, .int i4)] [] := by
  refine gloop_ind (P := fun x0 : Int32 => gG Z ad T M 0 0 29 [(0, .ref a0), (2, .int i2), (3, .ref a3), (4, .int x0)] []) (e := o) (fun x0 y hy hl hr => ?_) gFU i4 h
  exact t_X1_choiceOf_B29 hF hn hd q0 q3 hy (fun r9 q9 => hR r9 (hl _ q9).symm) (fun e9 q9 => hE e9 (hl _ q9).symm) (fun n9 q9 => hr n9 q9)
theorem t_X1_choiceOf {Z : gZ} {d mc ms : Nat} {Acc : Option Value → (Nat → Nat) → gT → gM → Prop} {AccX : Nat → (Nat → Nat) → gT → gM → Prop} {ad : Nat → Nat} {T : gT} {M : gM} {m_a0 : Nat} {a0 : Nat} {i1 : Int32} {i2 : Int32} {o : Int32} (hF : gFix Z cX1_choiceOf RX1 "choiceOf" (some .int) d mc ms Acc AccX) (hn : Z.2.2.2.2.2.1 = 5) (hd : 3 ≤ d) (q0 : T[a0]? = some (0, m_a0)) (h : f_X1_choiceOf T M a0 i1 i2 = some o) (hR : Acc (some (.int o)) ad T M) : gG Z ad T M 0 0 0 [(0, .ref a0), (1, .int i1), (2, .int i2)] [] := by
  unfold f_X1_choiceOf at h
  refine g_aload_n hF 0 rfl rfl dX1_choiceOf_0 ?_
  obtain ⟨b6, h6, h⟩ := gbnd h
  obtain ⟨g6, l6, q_b6⟩ := ldr_sp h6
  refine g_get_rN hF g6 fn_RX1_39 q0 dX1_choiceOf_1 ?_
  refine g_iload_n hF 1 rfl rfl dX1_choiceOf_4 ?_
  obtain ⟨b7, h7, h⟩ := gbnd h
  obtain ⟨i7h, g7, l7, q_b7⟩ := aldr_sp q_b6 h7
  refine g_aald hF q_b6 (Or.inr (Or.inl ⟨rfl, rfl⟩)) i7h g7 dX1_choiceOf_5 ?_
  refine g_astore_n (ls' := [(3, .ref b7), (0, .ref a0), (1, .int i1), (2, .int i2)]) hF rfl (by rw [hn]; decide) rfl dX1_choiceOf_6 ?_
  refine g_aload_n hF 0 rfl rfl dX1_choiceOf_7 ?_
  obtain ⟨x8, h8, h⟩ := gbnd h
  refine g_callVN hF my_X3_isLoaded kn_405 kw_407 kw_4 gC_3.1 (by decide) q_b7 (c_X3_isLoaded (d := d - 1) (by omega) q_b7 h8) (by omega) (Nat.zero_le _) (Nat.zero_le _) rfl rfl (Nat.le_of_ble_eq_true rfl) dX1_choiceOf_8 (g_sameS ?_)
  refine g_if_ne (tgt := 16) hF dX1_choiceOf_11 (by decide) (fun c9 => ?_) (fun c9 => ?_)
  · replace h := gif_t c9 h
    refine g_aload_n hF 0 rfl rfl dX1_choiceOf_16 ?_
    refine g_iload_n hF 3 rfl rfl dX1_choiceOf_17 ?_
    obtain ⟨x10, h10, h⟩ := gbnd h
    refine g_callVN hF my_X3_hasOffer kn_470 kw_419 kw_7 gC_3.1 (by decide) q_b7 (c_X3_hasOffer (d := d - 1) (by omega) q_b7 h10) (by omega) (Nat.zero_le _) (Nat.zero_le _) rfl rfl (Nat.le_of_ble_eq_true rfl) dX1_choiceOf_18 (g_sameS ?_)
    refine g_if_eq (tgt := 26) hF dX1_choiceOf_21 (by decide) (fun c11 => ?_) (fun c11 => ?_)
    · replace h := gif_t c11 h
      refine g_iconst (v := (0 : Int32)) hF rfl dX1_choiceOf_26 ?_
      refine g_istore (ls' := [(4, .int (0 : Int32)), (3, .ref b7), (0, .ref a0), (1, .int i1), (2, .int i2)]) hF (by rw [hn]; decide) rfl dX1_choiceOf_27 ?_
      obtain ⟨x12, h12, h⟩ := gbnd h
      refine gG_sub [2, 4, 1, 0] rfl (t_X1_choiceOf_L29 hF hn hd q0 q_b7 h12 (fun r12 q12r => ?_) (fun e12 q12e => ?_))
      · subst q12r
        replace h := gcase_l h
        cases h
        exact hR
      · subst q12e
        replace h := gcase_r h
        refine g_aload_n hF 0 rfl rfl dX1_choiceOf_53 ?_
        obtain ⟨b13, h13, h⟩ := gbnd h
        obtain ⟨g13, l13, q_b13⟩ := ldr_sp h13
        refine g_get_rN hF g13 fn_RX1_91 q_b7 dX1_choiceOf_54 ?_
        refine g_iload hF 1 rfl dX1_choiceOf_57 ?_
        obtain ⟨v14, h14, h⟩ := gbnd h
        obtain ⟨i14h, e14v⟩ := ald_sp q_b13 h14
        refine g_iald hF q_b13 i14h dX1_choiceOf_59 ?_
        rw [← e14v]
        cases h
        exact g_ret_i hF rfl rfl dX1_choiceOf_60 hR (Nat.zero_le _) (Nat.zero_le _)
    · replace h := gif_f c11 h
      refine g_iload_n hF 2 rfl rfl dX1_choiceOf_24 ?_
      cases h
      exact g_ret_i hF rfl rfl dX1_choiceOf_25 hR (Nat.zero_le _) (Nat.zero_le _)
  · replace h := gif_n c9 h
    refine g_iconst (v := (-1 : Int32)) hF rfl dX1_choiceOf_14 ?_
    cases h
    exact g_ret_i hF rfl rfl dX1_choiceOf_15 hR (Nat.zero_le _) (Nat.zero_le _)
theorem c_X1_choiceOf {d : Nat} {T : gT} {M : gM} {m_a0 : Nat} {a0 : Nat} {i1 : Int32} {i2 : Int32} {r : Int32} (hd : 3 ≤ d) (q0 : T[a0]? = some (0, m_a0)) (h : f_X1_choiceOf T M a0 i1 i2 = some (r)) : gRet d yX1_choiceOf cX1_choiceOf 5 (some .int) 0 0 [.ref a0, .int i1, .int i2] T M (gSame T (some (.int r)) M) := by
  refine gRet_of (own := RX1) (by decide) rfl (Nat.le_of_ble_eq_true rfl) (fun Z ad0 hn h0 hF => ?_)
  exact t_X1_choiceOf hF hn hd q0 h ⟨rfl, rfl, rfl, rfl⟩
theorem t_X1_countVotes_56 {Z : gZ} {d mc ms : Nat} {Acc : Option Value → (Nat → Nat) → gT → gM → Prop} {AccX : Nat → (Nat → Nat) → gT → gM → Prop} {ad : Nat → Nat} {T : gT} {M : gM} {m_a0 m_a1 : Nat} {a0 : Nat} {a1 : Nat} {i2 : Int32} {i3 : Int32} {o : (gM) ⊕ (Int32 × gM)} (hF : gFix Z cX1_countVotes RX1 "countVotes" none d mc ms Acc AccX) (hn : Z.2.2.2.2.2.1 = 5) (hd : 4 ≤ d) (q0 : T[a0]? = some (1, m_a0)) (q1 : T[a1]? = some (0, m_a1)) (h : f_X1_countVotes_56 T M a0 a1 i2 i3 = some o) (hE : ∀ e9, o = .inl e9 → gG Z ad T e9 0 0 62 [] []) (hN : ∀ n9, o = .inr n9 → gG Z ad T n9.2 0 0 2 [(0, .ref a0), (1, .ref a1), (2, .int i2), (3, .int n9.1)] []) : gG Z ad T M 0 0 56 [(0, .ref a0), (1, .ref a1), (2, .int i2), (3, .int i3)] [] := by
  unfold f_X1_countVotes_56 at h
  refine g_iinc (n := 1) (v := (i3 + (1 : Int32))) (ls' := [(3, .int (i3 + (1 : Int32))), (0, .ref a0), (1, .ref a1), (2, .int i2)]) hF 3 rfl rfl (by rw [hn]; decide) rfl dX1_countVotes_56 ?_
  refine g_goto (tgt := 2) hF dX1_countVotes_59 (by decide) ?_
  exact gG_sub [1, 2, 3, 0] rfl (hN _ (Option.some.inj h).symm)
theorem t_X1_countVotes_B2 {Z : gZ} {d mc ms : Nat} {Acc : Option Value → (Nat → Nat) → gT → gM → Prop} {AccX : Nat → (Nat → Nat) → gT → gM → Prop} {ad : Nat → Nat} {T : gT} {M : gM} {m_a0 m_a1 : Nat} {a0 : Nat} {a1 : Nat} {i2 : Int32} {i3 : Int32} {o : (gM) ⊕ (Int32 × gM)} (hF : gFix Z cX1_countVotes RX1 "countVotes" none d mc ms Acc AccX) (hn : Z.2.2.2.2.2.1 = 5) (hd : 4 ≤ d) (q0 : T[a0]? = some (1, m_a0)) (q1 : T[a1]? = some (0, m_a1)) (h : f_X1_countVotes_B2 T M a0 a1 i2 i3 = some o) (hE : ∀ e9, o = .inl e9 → gG Z ad T e9 0 0 62 [] []) (hN : ∀ n9, o = .inr n9 → gG Z ad T n9.2 0 0 2 [(0, .ref a0), (1, .ref a1), (2, .int i2), (3, .int n9.1)] []) : gG Z ad T M 0 0 2 [(0, .ref a0), (1, .ref a1), (2, .int i2), (3, .int i3)] [] := by
  unfold f_X1_countVotes_B2 at h
  refine g_iload_n hF 3 rfl rfl dX1_countVotes_2 ?_
  refine g_aload_n hF 1 rfl rfl dX1_countVotes_3 ?_
  refine g_get_iN hF fn_RX1_33 q1 dX1_countVotes_4 ?_
  refine g_icmp_ge (tgt := 62) hF dX1_countVotes_7 (by decide) (fun c1 => ?_) (fun c1 => ?_)
  · replace h := gif_t c1 h
    exact gG_sub [] rfl (hE _ (Option.some.inj h).symm)
  · replace h := gif_f c1 h
    refine g_aload_n hF 1 rfl rfl dX1_countVotes_10 ?_
    refine g_iload_n hF 3 rfl rfl dX1_countVotes_11 ?_
    refine g_iload_n hF 2 rfl rfl dX1_countVotes_12 ?_
    obtain ⟨x2, h2, h⟩ := gbnd h
    refine g_callS hF my_X1_choiceOf kw_467 kw_468 (c_X1_choiceOf (d := d - 1) (by omega) q1 h2) (by omega) (Nat.zero_le _) (Nat.zero_le _) rfl rfl (Nat.le_of_ble_eq_true rfl) dX1_countVotes_13 (g_sameS ?_)
    refine g_istore (ls' := [(4, .int x2), (0, .ref a0), (1, .ref a1), (2, .int i2), (3, .int i3)]) hF (by rw [hn]; decide) rfl dX1_countVotes_16 ?_
    refine g_aload_n hF 1 rfl rfl dX1_countVotes_18 ?_
    obtain ⟨b3, h3, h⟩ := gbnd h
    obtain ⟨g3, l3, q_b3⟩ := ldr_sp h3
    refine g_get_r hF g3 fl_RX1_24 q0 dX1_countVotes_19 ?_
    refine g_iload_n hF 4 rfl rfl dX1_countVotes_22 ?_
    refine g_iload_n hF 3 rfl rfl dX1_countVotes_23 ?_
    obtain ⟨x4, h4, h⟩ := gbnd h
    refine g_callSN hF my_X8_cellOf kn_460 kw_461 (c_X8_cellOf (d := d - 1) (by omega)  h4) (by omega) (Nat.zero_le _) (Nat.zero_le _) rfl rfl (Nat.le_of_ble_eq_true rfl) dX1_countVotes_24 (g_sameS ?_)
    refine g_iload hF 0 rfl dX1_countVotes_27 ?_
    obtain ⟨M5, h5, h⟩ := gbnd h
    obtain ⟨i5h, e5v⟩ := ast_sp q_b3 h5
    refine g_iast hF q_b3 i5h dX1_countVotes_29 ?_
    rw [← e5v]
    refine g_iload hF 0 rfl dX1_countVotes_30 ?_
    refine g_iconst (v := (-1 : Int32)) hF rfl dX1_countVotes_32 ?_
    refine g_icmp_eq (tgt := 56) hF dX1_countVotes_33 (by decide) (fun c6 => ?_) (fun c6 => ?_)
    · replace h := gif_t c6 h
      exact gG_sub [1, 2, 3, 4] rfl (t_X1_countVotes_56 hF hn hd q0 q1 h hE hN)
    · replace h := gif_f c6 h
      refine g_aload_n hF 1 rfl rfl dX1_countVotes_36 ?_
      obtain ⟨b7, h7, h⟩ := gbnd h
      obtain ⟨g7, l7, q_b7⟩ := ldr_sp h7
      refine g_get_r hF g7 fl_RX1_27 q0 dX1_countVotes_37 ?_
      refine g_iload hF 0 rfl dX1_countVotes_40 ?_
      refine g_iload_n hF 3 rfl rfl dX1_countVotes_42 ?_
      obtain ⟨x8, h8, h⟩ := gbnd h
      refine g_callSN hF my_X8_cellOf kn_460 kw_461 (c_X8_cellOf (d := d - 1) (by omega)  h8) (by omega) (Nat.zero_le _) (Nat.zero_le _) rfl rfl (Nat.le_of_ble_eq_true rfl) dX1_countVotes_43 (g_sameS ?_)
      refine g_dup2 hF rfl rfl dX1_countVotes_46 ?_
      obtain ⟨v9, h9, h⟩ := gbnd h
      obtain ⟨i9h, e9v⟩ := ald_sp q_b7 h9
      refine g_iald hF q_b7 i9h dX1_countVotes_47 ?_
      rw [← e9v]
      refine g_aload_n hF 1 rfl rfl dX1_countVotes_48 ?_
      obtain ⟨b10, h10, h⟩ := gbnd h
      obtain ⟨g10, l10, q_b10⟩ := ldr_sp h10
      refine g_get_r hF g10 fl_RX1_9 q0 dX1_countVotes_49 ?_
      refine g_iload_n hF 4 rfl rfl dX1_countVotes_52 ?_
      obtain ⟨v11, h11, h⟩ := gbnd h
      obtain ⟨i11h, e11v⟩ := ald_sp q_b10 h11
      refine g_iald hF q_b10 i11h dX1_countVotes_53 ?_
      rw [← e11v]
      refine g_iadd hF dX1_countVotes_54 ?_
      obtain ⟨M12, h12, h⟩ := gbnd h
      obtain ⟨i12h, e12v⟩ := ast_sp q_b7 h12
      refine g_iast hF q_b7 i12h dX1_countVotes_55 ?_
      rw [← e12v]
      exact gG_sub [1, 2, 3, 4] rfl (t_X1_countVotes_56 hF hn hd q0 q1 h hE hN)
theorem t_X1_countVotes_L2 {Z : gZ} {d mc ms : Nat} {Acc : Option Value → (Nat → Nat) → gT → gM → Prop} {AccX : Nat → (Nat → Nat) → gT → gM → Prop} {ad : Nat → Nat} {T : gT} {M : gM} {m_a0 m_a1 : Nat} {a0 : Nat} {a1 : Nat} {i2 : Int32} {i3 : Int32} {o : gM} (hF : gFix Z cX1_countVotes RX1 "countVotes" none d mc ms Acc AccX) (hn : Z.2.2.2.2.2.1 = 5) (hd : 4 ≤ d) (q0 : T[a0]? = some (1, m_a0)) (q1 : T[a1]? = some (0, m_a1)) (h : gloop (fun x => f_X1_countVotes_B2 T x.2 a0 a1 i2 x.1) gFU (i3, M) = some o) (hE : gG Z ad T o 0 0 62 [] []) : gG Z ad T M 0 0 2 [(0, .ref a0), (1, .ref a1), (2, .int i2), (3, .int i3)] [] := by
  refine gloop_ind (P := fun x0 : Int32 × gM => gG Z ad T x0.2 0 0 2 [(0, .ref a0), (1, .ref a1), (2, .int i2), (3, .int x0.1)] []) (e := o) (fun x0 y hy hl hr => ?_) gFU (i3, M) h
  exact t_X1_countVotes_B2 hF hn hd q0 q1 hy (fun e9 q9 => by rw [hl _ q9]; exact hE) (fun n9 q9 => hr n9 q9)
theorem t_X1_countVotes {Z : gZ} {d mc ms : Nat} {Acc : Option Value → (Nat → Nat) → gT → gM → Prop} {AccX : Nat → (Nat → Nat) → gT → gM → Prop} {ad : Nat → Nat} {T : gT} {M : gM} {m_a0 m_a1 : Nat} {a0 : Nat} {a1 : Nat} {i2 : Int32} {o : gM} (hF : gFix Z cX1_countVotes RX1 "countVotes" none d mc ms Acc AccX) (hn : Z.2.2.2.2.2.1 = 5) (hd : 4 ≤ d) (q0 : T[a0]? = some (1, m_a0)) (q1 : T[a1]? = some (0, m_a1)) (h : f_X1_countVotes T M a0 a1 i2 = some o) (hR : Acc none ad T o) : gG Z ad T M 0 0 0 [(0, .ref a0), (1, .ref a1), (2, .int i2)] [] := by
  unfold f_X1_countVotes at h
  refine g_iconst (v := (0 : Int32)) hF rfl dX1_countVotes_0 ?_
  refine g_istore_n (ls' := [(3, .int (0 : Int32)), (0, .ref a0), (1, .ref a1), (2, .int i2)]) hF rfl (by rw [hn]; decide) rfl dX1_countVotes_1 ?_
  obtain ⟨x13, h13, h⟩ := gbnd h
  refine gG_sub [1, 2, 3, 0] rfl (t_X1_countVotes_L2 hF hn hd q0 q1 h13 ?_)
  cases h
  exact g_ret_v hF rfl dX1_countVotes_62 hR (Nat.zero_le _) (Nat.zero_le _)
theorem c_X1_countVotes {d : Nat} {T : gT} {M : gM} {m_a0 m_a1 : Nat} {a0 : Nat} {a1 : Nat} {i2 : Int32} {r : gM} (hd : 4 ≤ d) (q0 : T[a0]? = some (1, m_a0)) (q1 : T[a1]? = some (0, m_a1)) (h : f_X1_countVotes T M a0 a1 i2 = some (r)) : gRet d yX1_countVotes cX1_countVotes 5 none 0 0 [.ref a0, .ref a1, .int i2] T M (gSame T none r) := by
  refine gRet_of (own := RX1) (by decide) rfl (Nat.le_of_ble_eq_true rfl) (fun Z ad0 hn h0 hF => ?_)
  exact t_X1_countVotes hF hn hd q0 q1 h ⟨rfl, rfl, rfl, rfl⟩
theorem t_X1_isAhead {Z : gZ} {d mc ms : Nat} {Acc : Option Value → (Nat → Nat) → gT → gM → Prop} {AccX : Nat → (Nat → Nat) → gT → gM → Prop} {ad : Nat → Nat} {T : gT} {M : gM} {m_a0 m_a1 : Nat} {a0 : Nat} {a1 : Nat} {i2 : Int32} {i3 : Int32} {i4 : Int32} {o : Int32} (hF : gFix Z cX1_isAhead RX1 "isAhead" (some .boolean) d mc ms Acc AccX) (hn : Z.2.2.2.2.2.1 = 7) (hd : 2 ≤ d) (q0 : T[a0]? = some (1, m_a0)) (q1 : T[a1]? = some (0, m_a1)) (h : f_X1_isAhead T M a0 a1 i2 i3 i4 = some o) (hR : Acc (some (.int o)) ad T M) : gG Z ad T M 0 0 0 [(0, .ref a0), (1, .ref a1), (2, .int i2), (3, .int i3), (4, .int i4)] [] := by
  unfold f_X1_isAhead at h
  refine g_aload_n hF 0 rfl rfl dX1_isAhead_0 ?_
  obtain ⟨b1, h1, h⟩ := gbnd h
  obtain ⟨g1, l1, q_b1⟩ := ldr_sp h1
  refine g_get_r hF g1 fl_RX1_27 q0 dX1_isAhead_1 ?_
  refine g_iload_n hF 2 rfl rfl dX1_isAhead_4 ?_
  refine g_iload hF 4 rfl dX1_isAhead_5 ?_
  obtain ⟨x2, h2, h⟩ := gbnd h
  refine g_callSN hF my_X8_cellOf kn_460 kw_461 (c_X8_cellOf (d := d - 1) (by omega)  h2) (by omega) (Nat.zero_le _) (Nat.zero_le _) rfl rfl (Nat.le_of_ble_eq_true rfl) dX1_isAhead_7 (g_sameS ?_)
  obtain ⟨v3, h3, h⟩ := gbnd h
  obtain ⟨i3h, e3v⟩ := ald_sp q_b1 h3
  refine g_iald hF q_b1 i3h dX1_isAhead_10 ?_
  rw [← e3v]
  refine g_istore (ls' := [(5, .int v3), (0, .ref a0), (1, .ref a1), (2, .int i2), (3, .int i3), (4, .int i4)]) hF (by rw [hn]; decide) rfl dX1_isAhead_11 ?_
  refine g_aload_n hF 1 rfl rfl dX1_isAhead_13 ?_
  obtain ⟨b4, h4, h⟩ := gbnd h
  obtain ⟨g4, l4, q_b4⟩ := ldr_sp h4
  refine g_get_r hF g4 fl_RX1_27 q0 dX1_isAhead_14 ?_
  refine g_iload_n hF 4 rfl rfl dX1_isAhead_17 ?_
  refine g_iload hF 5 rfl dX1_isAhead_18 ?_
  obtain ⟨x5, h5, h⟩ := gbnd h
  refine g_callSN hF my_X8_cellOf kn_460 kw_461 (c_X8_cellOf (d := d - 1) (by omega)  h5) (by omega) (Nat.zero_le _) (Nat.zero_le _) rfl rfl (Nat.le_of_ble_eq_true rfl) dX1_isAhead_20 (g_sameS ?_)
  obtain ⟨v6, h6, h⟩ := gbnd h
  obtain ⟨i6h, e6v⟩ := ald_sp q_b4 h6
  refine g_iald hF q_b4 i6h dX1_isAhead_23 ?_
  rw [← e6v]
  refine g_istore (ls' := [(6, .int v6), (5, .int v3), (0, .ref a0), (1, .ref a1), (2, .int i2), (3, .int i3), (4, .int i4)]) hF (by rw [hn]; decide) rfl dX1_isAhead_24 ?_
  refine g_iload hF 1 rfl dX1_isAhead_26 ?_
  refine g_iload hF 0 rfl dX1_isAhead_28 ?_
  refine g_icmp_eq (tgt := 46) hF dX1_isAhead_30 (by decide) (fun c7 => ?_) (fun c7 => ?_)
  · replace h := gif_t c7 h
    refine g_aload_n hF 3 rfl rfl dX1_isAhead_46 ?_
    obtain ⟨b8, h8, h⟩ := gbnd h
    obtain ⟨g8, l8, q_b8⟩ := ldr_sp h8
    refine g_get_rN hF g8 fn_RX1_39 q1 dX1_isAhead_47 ?_
    refine g_iload_n hF 4 rfl rfl dX1_isAhead_50 ?_
    obtain ⟨b9, h9, h⟩ := gbnd h
    obtain ⟨i9h, g9, l9, q_b9⟩ := aldr_sp q_b8 h9
    refine g_aald hF q_b8 (Or.inr (Or.inl ⟨rfl, rfl⟩)) i9h g9 dX1_isAhead_51 ?_
    refine g_get_iN hF fn_RX1_98 q_b9 dX1_isAhead_52 ?_
    refine g_aload_n hF 3 rfl rfl dX1_isAhead_55 ?_
    obtain ⟨b10, h10, h⟩ := gbnd h
    obtain ⟨g10, l10, q_b10⟩ := ldr_sp h10
    refine g_get_rN hF g10 fn_RX1_39 q1 dX1_isAhead_56 ?_
    refine g_iload_n hF 5 rfl rfl dX1_isAhead_59 ?_
    obtain ⟨b11, h11, h⟩ := gbnd h
    obtain ⟨i11h, g11, l11, q_b11⟩ := aldr_sp q_b10 h11
    refine g_aald hF q_b10 (Or.inr (Or.inl ⟨rfl, rfl⟩)) i11h g11 dX1_isAhead_60 ?_
    refine g_get_iN hF fn_RX1_98 q_b11 dX1_isAhead_61 ?_
    refine g_icmp_ge (tgt := 71) hF dX1_isAhead_64 (by decide) (fun c12 => ?_) (fun c12 => ?_)
    · replace h := gif_t c12 h
      refine g_iconst (v := (0 : Int32)) hF rfl dX1_isAhead_71 ?_
      cases h
      exact g_ret_i hF rfl rfl dX1_isAhead_72 hR (Nat.zero_le _) (Nat.zero_le _)
    · replace h := gif_f c12 h
      refine g_iconst (v := (1 : Int32)) hF rfl dX1_isAhead_67 ?_
      refine g_goto (tgt := 72) hF dX1_isAhead_68 (by decide) ?_
      cases h
      exact g_ret_i hF rfl rfl dX1_isAhead_72 hR (Nat.zero_le _) (Nat.zero_le _)
  · replace h := gif_f c7 h
    refine g_iload hF 1 rfl dX1_isAhead_33 ?_
    refine g_iload hF 0 rfl dX1_isAhead_35 ?_
    refine g_icmp_le (tgt := 44) hF dX1_isAhead_37 (by decide) (fun c13 => ?_) (fun c13 => ?_)
    · replace h := gif_t c13 h
      refine g_iconst (v := (0 : Int32)) hF rfl dX1_isAhead_44 ?_
      cases h
      exact g_ret_i hF rfl rfl dX1_isAhead_45 hR (Nat.zero_le _) (Nat.zero_le _)
    · replace h := gif_f c13 h
      refine g_iconst (v := (1 : Int32)) hF rfl dX1_isAhead_40 ?_
      refine g_goto (tgt := 45) hF dX1_isAhead_41 (by decide) ?_
      cases h
      exact g_ret_i hF rfl rfl dX1_isAhead_45 hR (Nat.zero_le _) (Nat.zero_le _)
theorem c_X1_isAhead {d : Nat} {T : gT} {M : gM} {m_a0 m_a1 : Nat} {a0 : Nat} {a1 : Nat} {i2 : Int32} {i3 : Int32} {i4 : Int32} {r : Int32} (hd : 2 ≤ d) (q0 : T[a0]? = some (1, m_a0)) (q1 : T[a1]? = some (0, m_a1)) (h : f_X1_isAhead T M a0 a1 i2 i3 i4 = some (r)) : gRet d yX1_isAhead cX1_isAhead 7 (some .boolean) 0 0 [.ref a0, .ref a1, .int i2, .int i3, .int i4] T M (gSame T (some (.int r)) M) := by
  refine gRet_of (own := RX1) (by decide) rfl (Nat.le_of_ble_eq_true rfl) (fun Z ad0 hn h0 hF => ?_)
  exact t_X1_isAhead hF hn hd q0 q1 h ⟨rfl, rfl, rfl, rfl⟩
theorem t_X1_countWinner_44 {Z : gZ} {d mc ms : Nat} {Acc : Option Value → (Nat → Nat) → gT → gM → Prop} {AccX : Nat → (Nat → Nat) → gT → gM → Prop} {ad : Nat → Nat} {T : gT} {M : gM} {m_a0 m_a1 : Nat} {a0 : Nat} {a1 : Nat} {i2 : Int32} {i3 : Int32} {i4 : Int32} {o : (Int32) ⊕ (Int32 × Int32)} (hF : gFix Z cX1_countWinner RX1 "countWinner" none d mc ms Acc AccX) (hn : Z.2.2.2.2.2.1 = 5) (hd : 3 ≤ d) (q0 : T[a0]? = some (1, m_a0)) (q1 : T[a1]? = some (0, m_a1)) (h : f_X1_countWinner_44 T M a0 a1 i2 i3 i4 = some o) (hE : ∀ e9, o = .inl e9 → gG Z ad T M 0 0 50 [(0, .ref a0), (2, .int i2), (3, .int e9)] []) (hN : ∀ n9, o = .inr n9 → gG Z ad T M 0 0 5 [(0, .ref a0), (1, .ref a1), (2, .int i2), (3, .int n9.1), (4, .int n9.2)] []) : gG Z ad T M 0 0 44 [(0, .ref a0), (1, .ref a1), (2, .int i2), (3, .int i3), (4, .int i4)] [] := by
  unfold f_X1_countWinner_44 at h
  refine g_iinc (n := 1) (v := (i4 + (1 : Int32))) (ls' := [(4, .int (i4 + (1 : Int32))), (0, .ref a0), (1, .ref a1), (2, .int i2), (3, .int i3)]) hF 4 rfl rfl (by rw [hn]; decide) rfl dX1_countWinner_44 ?_
  refine g_goto (tgt := 5) hF dX1_countWinner_47 (by decide) ?_
  exact gG_sub [1, 2, 3, 4, 0] rfl (hN _ (Option.some.inj h).symm)
theorem t_X1_countWinner_41 {Z : gZ} {d mc ms : Nat} {Acc : Option Value → (Nat → Nat) → gT → gM → Prop} {AccX : Nat → (Nat → Nat) → gT → gM → Prop} {ad : Nat → Nat} {T : gT} {M : gM} {m_a0 m_a1 : Nat} {a0 : Nat} {a1 : Nat} {i2 : Int32} {i4 : Int32} {o : (Int32) ⊕ (Int32 × Int32)} (hF : gFix Z cX1_countWinner RX1 "countWinner" none d mc ms Acc AccX) (hn : Z.2.2.2.2.2.1 = 5) (hd : 3 ≤ d) (q0 : T[a0]? = some (1, m_a0)) (q1 : T[a1]? = some (0, m_a1)) (h : f_X1_countWinner_41 T M a0 a1 i2 i4 = some o) (hE : ∀ e9, o = .inl e9 → gG Z ad T M 0 0 50 [(0, .ref a0), (2, .int i2), (3, .int e9)] []) (hN : ∀ n9, o = .inr n9 → gG Z ad T M 0 0 5 [(0, .ref a0), (1, .ref a1), (2, .int i2), (3, .int n9.1), (4, .int n9.2)] []) : gG Z ad T M 0 0 41 [(0, .ref a0), (1, .ref a1), (2, .int i2), (4, .int i4)] [] := by
  unfold f_X1_countWinner_41 at h
  refine g_iload hF 3 rfl dX1_countWinner_41 ?_
  refine g_istore_n (ls' := [(3, .int i4), (0, .ref a0), (1, .ref a1), (2, .int i2), (4, .int i4)]) hF rfl (by rw [hn]; decide) rfl dX1_countWinner_43 ?_
  exact gG_sub [1, 2, 3, 0, 4] rfl (t_X1_countWinner_44 hF hn hd q0 q1 h hE hN)
theorem t_X1_countWinner_B5 {Z : gZ} {d mc ms : Nat} {Acc : Option Value → (Nat → Nat) → gT → gM → Prop} {AccX : Nat → (Nat → Nat) → gT → gM → Prop} {ad : Nat → Nat} {T : gT} {M : gM} {m_a0 m_a1 : Nat} {a0 : Nat} {a1 : Nat} {i2 : Int32} {i3 : Int32} {i4 : Int32} {o : (Int32) ⊕ (Int32 × Int32)} (hF : gFix Z cX1_countWinner RX1 "countWinner" none d mc ms Acc AccX) (hn : Z.2.2.2.2.2.1 = 5) (hd : 3 ≤ d) (q0 : T[a0]? = some (1, m_a0)) (q1 : T[a1]? = some (0, m_a1)) (h : f_X1_countWinner_B5 T M a0 a1 i2 i3 i4 = some o) (hE : ∀ e9, o = .inl e9 → gG Z ad T M 0 0 50 [(0, .ref a0), (2, .int i2), (3, .int e9)] []) (hN : ∀ n9, o = .inr n9 → gG Z ad T M 0 0 5 [(0, .ref a0), (1, .ref a1), (2, .int i2), (3, .int n9.1), (4, .int n9.2)] []) : gG Z ad T M 0 0 5 [(0, .ref a0), (1, .ref a1), (2, .int i2), (3, .int i3), (4, .int i4)] [] := by
  unfold f_X1_countWinner_B5 at h
  refine g_iload hF 4 rfl dX1_countWinner_5 ?_
  refine g_aload_n hF 1 rfl rfl dX1_countWinner_7 ?_
  refine g_get_iN hF fn_RX1_33 q1 dX1_countWinner_8 ?_
  refine g_icmp_ge (tgt := 50) hF dX1_countWinner_11 (by decide) (fun c1 => ?_) (fun c1 => ?_)
  · replace h := gif_t c1 h
    exact gG_sub [0, 2, 3] rfl (hE _ (Option.some.inj h).symm)
  · replace h := gif_f c1 h
    refine g_aload_n hF 1 rfl rfl dX1_countWinner_14 ?_
    refine g_iload hF 4 rfl dX1_countWinner_15 ?_
    refine g_iload_n hF 2 rfl rfl dX1_countWinner_17 ?_
    obtain ⟨x2, h2, h⟩ := gbnd h
    refine g_callVN hF my_X0_isCandidate kn_455 kw_457 kw_12 gC_0.1 (by decide) q1 (c_X0_isCandidate (d := d - 1) (by omega) q1 h2) (by omega) (Nat.zero_le _) (Nat.zero_le _) rfl rfl (Nat.le_of_ble_eq_true rfl) dX1_countWinner_18 (g_sameS ?_)
    refine g_if_eq (tgt := 44) hF dX1_countWinner_21 (by decide) (fun c3 => ?_) (fun c3 => ?_)
    · replace h := gif_t c3 h
      exact gG_sub [0, 1, 2, 3, 4] rfl (t_X1_countWinner_44 hF hn hd q0 q1 h hE hN)
    · replace h := gif_f c3 h
      refine g_iload_n hF 3 rfl rfl dX1_countWinner_24 ?_
      refine g_iconst (v := (-1 : Int32)) hF rfl dX1_countWinner_25 ?_
      refine g_icmp_eq (tgt := 41) hF dX1_countWinner_26 (by decide) (fun c4 => ?_) (fun c4 => ?_)
      · replace h := gif_t c4 h
        exact gG_sub [0, 1, 2, 4] rfl (t_X1_countWinner_41 hF hn hd q0 q1 h hE hN)
      · replace h := gif_f c4 h
        refine g_aload_n hF 0 rfl rfl dX1_countWinner_29 ?_
        refine g_aload_n hF 1 rfl rfl dX1_countWinner_30 ?_
        refine g_iload hF 4 rfl dX1_countWinner_31 ?_
        refine g_iload_n hF 3 rfl rfl dX1_countWinner_33 ?_
        refine g_iload_n hF 2 rfl rfl dX1_countWinner_34 ?_
        obtain ⟨x5, h5, h⟩ := gbnd h
        refine g_callV hF my_X1_isAhead kw_475 kw_477 kw_15 gC_1.1 (by decide) q0 (c_X1_isAhead (d := d - 1) (by omega) q0 q1 h5) (by omega) (Nat.zero_le _) (Nat.zero_le _) rfl rfl (Nat.le_of_ble_eq_true rfl) dX1_countWinner_35 (g_sameS ?_)
        refine g_if_eq (tgt := 44) hF dX1_countWinner_38 (by decide) (fun c6 => ?_) (fun c6 => ?_)
        · replace h := gif_t c6 h
          exact gG_sub [0, 1, 2, 3, 4] rfl (t_X1_countWinner_44 hF hn hd q0 q1 h hE hN)
        · replace h := gif_f c6 h
          exact gG_sub [0, 1, 2, 4] rfl (t_X1_countWinner_41 hF hn hd q0 q1 h hE hN)
theorem t_X1_countWinner_L5 {Z : gZ} {d mc ms : Nat} {Acc : Option Value → (Nat → Nat) → gT → gM → Prop} {AccX : Nat → (Nat → Nat) → gT → gM → Prop} {ad : Nat → Nat} {T : gT} {M : gM} {m_a0 m_a1 : Nat} {a0 : Nat} {a1 : Nat} {i2 : Int32} {i3 : Int32} {i4 : Int32} {o : Int32} (hF : gFix Z cX1_countWinner RX1 "countWinner" none d mc ms Acc AccX) (hn : Z.2.2.2.2.2.1 = 5) (hd : 3 ≤ d) (q0 : T[a0]? = some (1, m_a0)) (q1 : T[a1]? = some (0, m_a1)) (h : gloop (fun x => f_X1_countWinner_B5 T M a0 a1 i2 x.1 x.2) gFU (i3, i4) = some o) (hE : gG Z ad T M 0 0 50 [(0, .ref a0), (2, .int i2), (3, .int o)] []) : gG Z ad T M 0 0 5 [(0, .ref a0), (1, .ref a1), (2, .int i2), (3, .int i3), (4, .int i4)] [] := by
  refine gloop_ind (P := fun x0 : Int32 × Int32 => gG Z ad T M 0 0 5 [(0, .ref a0), (1, .ref a1), (2, .int i2), (3, .int x0.1), (4, .int x0.2)] []) (e := o) (fun x0 y hy hl hr => ?_) gFU (i3, i4) h
  exact t_X1_countWinner_B5 hF hn hd q0 q1 hy (fun e9 q9 => by rw [hl _ q9]; exact hE) (fun n9 q9 => hr n9 q9)
theorem t_X1_countWinner {Z : gZ} {d mc ms : Nat} {Acc : Option Value → (Nat → Nat) → gT → gM → Prop} {AccX : Nat → (Nat → Nat) → gT → gM → Prop} {ad : Nat → Nat} {T : gT} {M : gM} {m_a0 m_a1 : Nat} {a0 : Nat} {a1 : Nat} {i2 : Int32} {o : gM} (hF : gFix Z cX1_countWinner RX1 "countWinner" none d mc ms Acc AccX) (hn : Z.2.2.2.2.2.1 = 5) (hd : 3 ≤ d) (q0 : T[a0]? = some (1, m_a0)) (q1 : T[a1]? = some (0, m_a1)) (h : f_X1_countWinner T M a0 a1 i2 = some o) (hR : Acc none ad T o) : gG Z ad T M 0 0 0 [(0, .ref a0), (1, .ref a1), (2, .int i2)] [] := by
  unfold f_X1_countWinner at h
  refine g_iconst (v := (-1 : Int32)) hF rfl dX1_countWinner_0 ?_
  refine g_istore_n (ls' := [(3, .int (-1 : Int32)), (0, .ref a0), (1, .ref a1), (2, .int i2)]) hF rfl (by rw [hn]; decide) rfl dX1_countWinner_1 ?_
  refine g_iconst (v := (0 : Int32)) hF rfl dX1_countWinner_2 ?_
  refine g_istore (ls' := [(4, .int (0 : Int32)), (3, .int (-1 : Int32)), (0, .ref a0), (1, .ref a1), (2, .int i2)]) hF (by rw [hn]; decide) rfl dX1_countWinner_3 ?_
  obtain ⟨x7, h7, h⟩ := gbnd h
  refine gG_sub [2, 3, 4, 1, 0] rfl (t_X1_countWinner_L5 hF hn hd q0 q1 h7 ?_)
  refine g_aload_n hF 0 rfl rfl dX1_countWinner_50 ?_
  obtain ⟨b8, h8, h⟩ := gbnd h
  obtain ⟨g8, l8, q_b8⟩ := ldr_sp h8
  refine g_get_r hF g8 fl_RX1_18 q0 dX1_countWinner_51 ?_
  refine g_iload_n hF 1 rfl rfl dX1_countWinner_54 ?_
  refine g_iload_n hF 2 rfl rfl dX1_countWinner_55 ?_
  obtain ⟨M9, h9, h⟩ := gbnd h
  obtain ⟨i9h, e9v⟩ := ast_sp q_b8 h9
  refine g_iast hF q_b8 i9h dX1_countWinner_56 ?_
  rw [← e9v]
  cases h
  exact g_ret_v hF rfl dX1_countWinner_57 hR (Nat.zero_le _) (Nat.zero_le _)
theorem c_X1_countWinner {d : Nat} {T : gT} {M : gM} {m_a0 m_a1 : Nat} {a0 : Nat} {a1 : Nat} {i2 : Int32} {r : gM} (hd : 3 ≤ d) (q0 : T[a0]? = some (1, m_a0)) (q1 : T[a1]? = some (0, m_a1)) (h : f_X1_countWinner T M a0 a1 i2 = some (r)) : gRet d yX1_countWinner cX1_countWinner 5 none 0 0 [.ref a0, .ref a1, .int i2] T M (gSame T none r) := by
  refine gRet_of (own := RX1) (by decide) rfl (Nat.le_of_ble_eq_true rfl) (fun Z ad0 hn h0 hF => ?_)
  exact t_X1_countWinner hF hn hd q0 q1 h ⟨rfl, rfl, rfl, rfl⟩
