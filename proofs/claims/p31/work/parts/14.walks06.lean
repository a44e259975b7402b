theorem t_X6_takeNumber_B12 {Z : gZ} {d mc ms : Nat} {Acc : Option Value → (Nat → Nat) → gT → gM → Prop} {AccX : Nat → (Nat → Nat) → gT → gM → Prop} {ad : Nat → Nat} {T : gT} {M : gM} {m_a0 : Nat} {a0 : Nat} {i1 : Int32} {i2 : Int32} {o : (gM) ⊕ (Int32 × gM)} (hF : gFix Z cX6_takeNumber RX6 "takeNumber" none d mc ms Acc AccX) (hn : Z.2.2.2.2.2.1 = 3) (hd : 1 ≤ d) (q0 : T[a0]? = some (6, m_a0)) (h : f_X6_takeNumber_B12 T M a0 i1 i2 = some o) (hE : ∀ e9, o = .inl e9 → gG Z ad T e9 0 0 73 [] []) (hN : ∀ n9, o = .inr n9 → gG Z ad T n9.2 0 0 12 [(0, .ref a0), (1, .int i1), (2, .int n9.1)] []) : gG Z ad T M 0 0 12 [(0, .ref a0), (1, .int i1), (2, .int i2)] [] := by
  unfold f_X6_takeNumber_B12 at h
  refine g_iload_n hF 2 rfl rfl dX6_takeNumber_12 ?_
  refine g_iload_n hF 1 rfl rfl dX6_takeNumber_13 ?_
  refine g_icmp_ge (tgt := 73) hF dX6_takeNumber_14 (by decide) (fun c1 => ?_) (fun c1 => ?_)
  · replace h := gif_t c1 h
    exact gG_sub [] rfl (hE _ (Option.some.inj h).symm)
  · replace h := gif_f c1 h
    refine g_aload_n hF 0 rfl rfl dX6_takeNumber_17 ?_
    refine g_get_i hF fl_RX6_19 q0 dX6_takeNumber_18 ?_
    refine g_aload_n hF 0 rfl rfl dX6_takeNumber_21 ?_
    refine g_get_i hF fl_RX6_15 q0 dX6_takeNumber_22 ?_
    refine g_icmp_ge (tgt := 73) hF dX6_takeNumber_25 (by decide) (fun c2 => ?_) (fun c2 => ?_)
    · replace h := gif_t c2 h
      exact gG_sub [] rfl (hE _ (Option.some.inj h).symm)
    · replace h := gif_f c2 h
      refine g_aload_n hF 0 rfl rfl dX6_takeNumber_28 ?_
      refine g_ldc (v := (1000000 : Int32)) hF kw_752 dX6_takeNumber_29 ?_
      refine g_aload_n hF 0 rfl rfl dX6_takeNumber_31 ?_
      refine g_get_i hF fl_RX6_32 q0 dX6_takeNumber_32 ?_
      refine g_bipush (v := (10 : Int32)) hF rfl dX6_takeNumber_35 ?_
      refine g_imul hF dX6_takeNumber_37 ?_
      refine g_aload_n hF 0 rfl rfl dX6_takeNumber_38 ?_
      obtain ⟨b3, h3, h⟩ := gbnd h
      obtain ⟨g3, l3, q_b3⟩ := ldr_sp h3
      refine g_get_r hF g3 fl_RX6_9 q0 dX6_takeNumber_39 ?_
      refine g_aload_n hF 0 rfl rfl dX6_takeNumber_42 ?_
      refine g_get_i hF fl_RX6_19 q0 dX6_takeNumber_43 ?_
      obtain ⟨v4, h4, h⟩ := gbnd h
      obtain ⟨i4h, e4v⟩ := ald_sp q_b3 h4
      refine g_bald hF q_b3 i4h dX6_takeNumber_46 ?_
      rw [← e4v]
      refine g_bipush (v := (48 : Int32)) hF rfl dX6_takeNumber_47 ?_
      refine g_isub hF dX6_takeNumber_49 ?_
      refine g_iadd hF dX6_takeNumber_50 ?_
      refine g_min hF kw_732 (by omega) (Nat.zero_le _) (Nat.zero_le _) (Nat.le_of_ble_eq_true rfl) dX6_takeNumber_51 ?_
      refine g_put_i hF rfl rfl fl_RX6_32 q0 dX6_takeNumber_54 ?_
      refine g_aload_n hF 0 rfl rfl dX6_takeNumber_57 ?_
      refine g_dup hF rfl dX6_takeNumber_58 ?_
      refine g_get_i hF fl_RX6_19 q0 dX6_takeNumber_59 ?_
      refine g_iconst (v := (1 : Int32)) hF rfl dX6_takeNumber_62 ?_
      refine g_iadd hF dX6_takeNumber_63 ?_
      refine g_put_i hF rfl rfl fl_RX6_19 q0 dX6_takeNumber_64 ?_
      refine g_iinc (n := 1) (v := (i2 + (1 : Int32))) (ls' := [(2, .int (i2 + (1 : Int32))), (0, .ref a0), (1, .int i1)]) hF 2 rfl rfl (by rw [hn]; decide) rfl dX6_takeNumber_67 ?_
      refine g_goto (tgt := 12) hF dX6_takeNumber_70 (by decide) ?_
      exact gG_sub [1, 2, 0] rfl (hN _ (Option.some.inj h).symm)
theorem t_X6_takeNumber_L12 {Z : gZ} {d mc ms : Nat} {Acc : Option Value → (Nat → Nat) → gT → gM → Prop} {AccX : Nat → (Nat → Nat) → gT → gM → Prop} {ad : Nat → Nat} {T : gT} {M : gM} {m_a0 : Nat} {a0 : Nat} {i1 : Int32} {i2 : Int32} {o : gM} (hF : gFix Z cX6_takeNumber RX6 "takeNumber" none d mc ms Acc AccX) (hn : Z.2.2.2.2.2.1 = 3) (hd : 1 ≤ d) (q0 : T[a0]? = some (6, m_a0)) (h : gloop (fun x => f_X6_takeNumber_B12 T x.2 a0 i1 x.1) gFU (i2, M) = some o) (hE : gG Z ad T o 0 0 73 [] []) : gG Z ad T M 0 0 12 [(0, .ref a0), (1, .int i1), (2, .int i2)] [] := by
  refine gloop_ind (P := fun x0 : Int32 × gM => gG Z ad T x0.2 0 0 12 [(0, .ref a0), (1, .int i1), (2, .int x0.1)] []) (e := o) (fun x0 y hy hl hr => ?_) gFU (i2, M) h
  exact t_X6_takeNumber_B12 hF hn hd q0 hy (fun e9 q9 => by rw [hl _ q9]; exact hE) (fun n9 q9 => hr n9 q9)
theorem t_X6_takeNumber {Z : gZ} {d mc ms : Nat} {Acc : Option Value → (Nat → Nat) → gT → gM → Prop} {AccX : Nat → (Nat → Nat) → gT → gM → Prop} {ad : Nat → Nat} {T : gT} {M : gM} {m_a0 : Nat} {a0 : Nat} {i1 : Int32} {o : gM} (hF : gFix Z cX6_takeNumber RX6 "takeNumber" none d mc ms Acc AccX) (hn : Z.2.2.2.2.2.1 = 3) (hd : 1 ≤ d) (q0 : T[a0]? = some (6, m_a0)) (h : f_X6_takeNumber T M a0 i1 = some o) (hR : Acc none ad T o) : gG Z ad T M 0 0 0 [(0, .ref a0), (1, .int i1)] [] := by
  unfold f_X6_takeNumber at h
  refine g_aload_n hF 0 rfl rfl dX6_takeNumber_0 ?_
  refine g_iconst (v := (2 : Int32)) hF rfl dX6_takeNumber_1 ?_
  refine g_put_i hF rfl rfl fl_RX6_22 q0 dX6_takeNumber_2 ?_
  refine g_aload_n hF 0 rfl rfl dX6_takeNumber_5 ?_
  refine g_iconst (v := (0 : Int32)) hF rfl dX6_takeNumber_6 ?_
  refine g_put_i hF rfl rfl fl_RX6_32 q0 dX6_takeNumber_7 ?_
  refine g_iconst (v := (0 : Int32)) hF rfl dX6_takeNumber_10 ?_
  refine g_istore_n (ls' := [(2, .int (0 : Int32)), (0, .ref a0), (1, .int i1)]) hF rfl (by rw [hn]; decide) rfl dX6_takeNumber_11 ?_
  obtain ⟨x6, h6, h⟩ := gbnd h
  refine gG_sub [1, 2, 0] rfl (t_X6_takeNumber_L12 hF hn hd q0 h6 ?_)
  cases h
  exact g_ret_v hF rfl dX6_takeNumber_73 hR (Nat.zero_le _) (Nat.zero_le _)
theorem c_X6_takeNumber {d : Nat} {T : gT} {M : gM} {m_a0 : Nat} {a0 : Nat} {i1 : Int32} {r : gM} (hd : 1 ≤ d) (q0 : T[a0]? = some (6, m_a0)) (h : f_X6_takeNumber T M a0 i1 = some (r)) : gRet d yX6_takeNumber cX6_takeNumber 3 none 0 0 [.ref a0, .int i1] T M (gSame T none r) := by
  refine gRet_of (own := RX6) (by decide) rfl (Nat.le_of_ble_eq_true rfl) (fun Z ad0 hn h0 hF => ?_)
  exact t_X6_takeNumber hF hn hd q0 h ⟨rfl, rfl, rfl, rfl⟩
theorem t_X6_advance_B0 {Z : gZ} {d mc ms : Nat} {Acc : Option Value → (Nat → Nat) → gT → gM → Prop} {AccX : Nat → (Nat → Nat) → gT → gM → Prop} {ad : Nat → Nat} {T : gT} {M : gM} {m_a0 : Nat} {a0 : Nat} {o : (gM) ⊕ (gM)} (hF : gFix Z cX6_advance RX6 "advance" none d mc ms Acc AccX) (hn : Z.2.2.2.2.2.1 = 3) (hd : 2 ≤ d) (q0 : T[a0]? = some (6, m_a0)) (h : f_X6_advance_B0 T M a0 = some o) (hE : ∀ e9, o = .inl e9 → gG Z ad T e9 0 0 38 [(0, .ref a0)] []) (hN : ∀ n9, o = .inr n9 → gG Z ad T n9 0 0 0 [(0, .ref a0)] []) : gG Z ad T M 0 0 0 [(0, .ref a0)] [] := by
  unfold f_X6_advance_B0 at h
  refine g_aload_n hF 0 rfl rfl dX6_advance_0 ?_
  refine g_get_i hF fl_RX6_19 q0 dX6_advance_1 ?_
  refine g_aload_n hF 0 rfl rfl dX6_advance_4 ?_
  refine g_get_i hF fl_RX6_15 q0 dX6_advance_5 ?_
  refine g_icmp_ge (tgt := 38) hF dX6_advance_8 (by decide) (fun c1 => ?_) (fun c1 => ?_)
  · replace h := gif_t c1 h
    exact gG_sub [0] rfl (hE _ (Option.some.inj h).symm)
  · replace h := gif_f c1 h
    refine g_aload_n hF 0 rfl rfl dX6_advance_11 ?_
    obtain ⟨b2, h2, h⟩ := gbnd h
    obtain ⟨g2, l2, q_b2⟩ := ldr_sp h2
    refine g_get_r hF g2 fl_RX6_9 q0 dX6_advance_12 ?_
    refine g_aload_n hF 0 rfl rfl dX6_advance_15 ?_
    refine g_get_i hF fl_RX6_19 q0 dX6_advance_16 ?_
    obtain ⟨v3, h3, h⟩ := gbnd h
    obtain ⟨i3h, e3v⟩ := ald_sp q_b2 h3
    refine g_bald hF q_b2 i3h dX6_advance_19 ?_
    rw [← e3v]
    refine g_bipush (v := (32 : Int32)) hF rfl dX6_advance_20 ?_
    refine g_icmp_ne (tgt := 38) hF dX6_advance_22 (by decide) (fun c4 => ?_) (fun c4 => ?_)
    · replace h := gif_t c4 h
      exact gG_sub [0] rfl (hE _ (Option.some.inj h).symm)
    · replace h := gif_n c4 h
      refine g_aload_n hF 0 rfl rfl dX6_advance_25 ?_
      refine g_dup hF rfl dX6_advance_26 ?_
      refine g_get_i hF fl_RX6_19 q0 dX6_advance_27 ?_
      refine g_iconst (v := (1 : Int32)) hF rfl dX6_advance_30 ?_
      refine g_iadd hF dX6_advance_31 ?_
      refine g_put_i hF rfl rfl fl_RX6_19 q0 dX6_advance_32 ?_
      refine g_goto (tgt := 0) hF dX6_advance_35 (by decide) ?_
      exact gG_sub [0] rfl (hN _ (Option.some.inj h).symm)
theorem t_X6_advance_L0 {Z : gZ} {d mc ms : Nat} {Acc : Option Value → (Nat → Nat) → gT → gM → Prop} {AccX : Nat → (Nat → Nat) → gT → gM → Prop} {ad : Nat → Nat} {T : gT} {M : gM} {m_a0 : Nat} {a0 : Nat} {o : gM} (hF : gFix Z cX6_advance RX6 "advance" none d mc ms Acc AccX) (hn : Z.2.2.2.2.2.1 = 3) (hd : 2 ≤ d) (q0 : T[a0]? = some (6, m_a0)) (h : gloop (fun x => f_X6_advance_B0 T x a0) gFU M = some o) (hE : gG Z ad T o 0 0 38 [(0, .ref a0)] []) : gG Z ad T M 0 0 0 [(0, .ref a0)] [] := by
  refine gloop_ind (P := fun x0 : gM => gG Z ad T x0 0 0 0 [(0, .ref a0)] []) (e := o) (fun x0 y hy hl hr => ?_) gFU M h
  exact t_X6_advance_B0 hF hn hd q0 hy (fun e9 q9 => by rw [hl _ q9]; exact hE) (fun n9 q9 => hr n9 q9)
theorem t_X6_advance {Z : gZ} {d mc ms : Nat} {Acc : Option Value → (Nat → Nat) → gT → gM → Prop} {AccX : Nat → (Nat → Nat) → gT → gM → Prop} {ad : Nat → Nat} {T : gT} {M : gM} {m_a0 : Nat} {a0 : Nat} {o : gM} (hF : gFix Z cX6_advance RX6 "advance" none d mc ms Acc AccX) (hn : Z.2.2.2.2.2.1 = 3) (hd : 2 ≤ d) (q0 : T[a0]? = some (6, m_a0)) (h : f_X6_advance T M a0 = some o) (hR : Acc none ad T o) : gG Z ad T M 0 0 0 [(0, .ref a0)] [] := by
  unfold f_X6_advance at h
  obtain ⟨x5, h5, h⟩ := gbnd h
  refine gG_sub [0] rfl (t_X6_advance_L0 hF hn hd q0 h5 ?_)
  refine g_aload_n hF 0 rfl rfl dX6_advance_38 ?_
  refine g_aload_n hF 0 rfl rfl dX6_advance_39 ?_
  refine g_get_i hF fl_RX6_19 q0 dX6_advance_40 ?_
  refine g_put_i hF rfl rfl fl_RX6_25 q0 dX6_advance_43 ?_
  refine g_aload_n hF 0 rfl rfl dX6_advance_46 ?_
  refine g_bipush (v := (97 : Int32)) hF rfl dX6_advance_47 ?_
  refine g_bipush (v := (122 : Int32)) hF rfl dX6_advance_49 ?_
  obtain ⟨x6, h6, h⟩ := gbnd h
  refine g_callV hF my_X6_runOf kw_740 kw_742 kw_25 gC_6.1 (by decide) q0 (c_X6_runOf (d := d - 1) (by omega) q0 h6) (by omega) (Nat.zero_le _) (Nat.zero_le _) rfl rfl (Nat.le_of_ble_eq_true rfl) dX6_advance_51 (g_sameS ?_)
  refine g_istore_n (ls' := [(1, .int x6), (0, .ref a0)]) hF rfl (by rw [hn]; decide) rfl dX6_advance_54 ?_
  refine g_aload_n hF 1 rfl rfl dX6_advance_55 ?_
  refine g_bipush (v := (48 : Int32)) hF rfl dX6_advance_56 ?_
  refine g_bipush (v := (57 : Int32)) hF rfl dX6_advance_58 ?_
  obtain ⟨x7, h7, h⟩ := gbnd h
  refine g_callV hF my_X6_runOf kw_740 kw_742 kw_25 gC_6.1 (by decide) q0 (c_X6_runOf (d := d - 1) (by omega) q0 h7) (by omega) (Nat.zero_le _) (Nat.zero_le _) rfl rfl (Nat.le_of_ble_eq_true rfl) dX6_advance_60 (g_sameS ?_)
  refine g_istore_n (ls' := [(2, .int x7), (1, .int x6), (0, .ref a0)]) hF rfl (by rw [hn]; decide) rfl dX6_advance_63 ?_
  refine g_aload_n hF 2 rfl rfl dX6_advance_64 ?_
  refine g_get_i hF fl_RX6_19 q0 dX6_advance_65 ?_
  refine g_aload_n hF 2 rfl rfl dX6_advance_68 ?_
  refine g_get_i hF fl_RX6_15 q0 dX6_advance_69 ?_
  refine g_icmp_lt (tgt := 83) hF dX6_advance_72 (by decide) (fun c8 => ?_) (fun c8 => ?_)
  · replace h := gif_t c8 h
    refine g_iload_n hF 1 rfl rfl dX6_advance_83 ?_
    refine g_if_le (tgt := 95) hF dX6_advance_84 (by decide) (fun c9 => ?_) (fun c9 => ?_)
    · replace h := gif_t c9 h
      refine g_iload_n hF 0 rfl rfl dX6_advance_95 ?_
      refine g_if_le (tgt := 107) hF dX6_advance_96 (by decide) (fun c10 => ?_) (fun c10 => ?_)
      · replace h := gif_t c10 h
        refine g_aload_n hF 2 rfl rfl dX6_advance_107 ?_
        refine g_iconst (v := (3 : Int32)) hF rfl dX6_advance_108 ?_
        refine g_put_i hF rfl rfl fl_RX6_22 q0 dX6_advance_109 ?_
        refine g_aload_n hF 2 rfl rfl dX6_advance_112 ?_
        refine g_aload_n hF 2 rfl rfl dX6_advance_113 ?_
        obtain ⟨b11, h11, h⟩ := gbnd h
        obtain ⟨g11, l11, q_b11⟩ := ldr_sp h11
        refine g_get_r hF g11 fl_RX6_9 q0 dX6_advance_114 ?_
        refine g_aload_n hF 2 rfl rfl dX6_advance_117 ?_
        refine g_get_i hF fl_RX6_19 q0 dX6_advance_118 ?_
        obtain ⟨v12, h12, h⟩ := gbnd h
        obtain ⟨i12h, e12v⟩ := ald_sp q_b11 h12
        refine g_bald hF q_b11 i12h dX6_advance_121 ?_
        rw [← e12v]
        refine g_put_i hF rfl rfl fl_RX6_35 q0 dX6_advance_122 ?_
        refine g_aload_n hF 2 rfl rfl dX6_advance_125 ?_
        refine g_dup hF rfl dX6_advance_126 ?_
        refine g_get_i hF fl_RX6_19 q0 dX6_advance_127 ?_
        refine g_iconst (v := (1 : Int32)) hF rfl dX6_advance_130 ?_
        refine g_iadd hF dX6_advance_131 ?_
        refine g_put_i hF rfl rfl fl_RX6_19 q0 dX6_advance_132 ?_
        cases h
        exact g_ret_v hF rfl dX6_advance_135 hR (Nat.zero_le _) (Nat.zero_le _)
      · replace h := gif_f c10 h
        refine g_aload_n hF 2 rfl rfl dX6_advance_99 ?_
        refine g_iload_n hF 0 rfl rfl dX6_advance_100 ?_
        obtain ⟨x13, h13, h⟩ := gbnd h
        refine g_callV hF my_X6_takeNumber kw_748 kw_750 kw_27 gC_6.1 (by decide) q0 (c_X6_takeNumber (d := d - 1) (by omega) q0 h13) (by omega) (Nat.zero_le _) (Nat.zero_le _) rfl rfl (Nat.le_of_ble_eq_true rfl) dX6_advance_101 (g_sameN ?_)
        refine g_goto (tgt := 135) hF dX6_advance_104 (by decide) ?_
        cases h
        exact g_ret_v hF rfl dX6_advance_135 hR (Nat.zero_le _) (Nat.zero_le _)
    · replace h := gif_f c9 h
      refine g_aload_n hF 2 rfl rfl dX6_advance_87 ?_
      refine g_iload_n hF 1 rfl rfl dX6_advance_88 ?_
      obtain ⟨x14, h14, h⟩ := gbnd h
      refine g_callV hF my_X6_takeWord kw_744 kw_746 kw_26 gC_6.1 (by decide) q0 (c_X6_takeWord (d := d - 1) (by omega) q0 h14) (by omega) (Nat.zero_le _) (Nat.zero_le _) rfl rfl (Nat.le_of_ble_eq_true rfl) dX6_advance_89 (g_sameN ?_)
      refine g_goto (tgt := 135) hF dX6_advance_92 (by decide) ?_
      cases h
      exact g_ret_v hF rfl dX6_advance_135 hR (Nat.zero_le _) (Nat.zero_le _)
  · replace h := gif_f c8 h
    refine g_aload_n hF 2 rfl rfl dX6_advance_75 ?_
    refine g_iconst (v := (0 : Int32)) hF rfl dX6_advance_76 ?_
    refine g_put_i hF rfl rfl fl_RX6_22 q0 dX6_advance_77 ?_
    refine g_goto (tgt := 135) hF dX6_advance_80 (by decide) ?_
    cases h
    exact g_ret_v hF rfl dX6_advance_135 hR (Nat.zero_le _) (Nat.zero_le _)
theorem c_X6_advance {d : Nat} {T : gT} {M : gM} {m_a0 : Nat} {a0 : Nat} {r : gM} (hd : 2 ≤ d) (q0 : T[a0]? = some (6, m_a0)) (h : f_X6_advance T M a0 = some (r)) : gRet d yX6_advance cX6_advance 3 none 0 0 [.ref a0] T M (gSame T none r) := by
  refine gRet_of (own := RX6) (by decide) rfl (Nat.le_of_ble_eq_true rfl) (fun Z ad0 hn h0 hF => ?_)
  exact t_X6_advance hF hn hd q0 h ⟨rfl, rfl, rfl, rfl⟩
theorem t_X6_startText {Z : gZ} {d mc ms : Nat} {Acc : Option Value → (Nat → Nat) → gT → gM → Prop} {AccX : Nat → (Nat → Nat) → gT → gM → Prop} {ad : Nat → Nat} {T : gT} {M : gM} {m_a0 m_a1 : Nat} {a0 : Nat} {a1 : Nat} {i2 : Int32} {o : gM} (hF : gFix Z cX6_startText RX6 "startText" none d mc ms Acc AccX) (hn : Z.2.2.2.2.2.1 = 3) (hd : 3 ≤ d) (q0 : T[a0]? = some (6, m_a0)) (q1 : T[a1]? = some (10, m_a1)) (h : f_X6_startText T M a0 a1 i2 = some o) (hR : Acc none ad T o) : gG Z ad T M 0 0 0 [(0, .ref a0), (1, .ref a1), (2, .int i2)] [] := by
  unfold f_X6_startText at h
  refine g_aload_n hF 0 rfl rfl dX6_startText_0 ?_
  refine g_iload_n hF 2 rfl rfl dX6_startText_1 ?_
  refine g_sipush (v := (800 : Int32)) hF rfl dX6_startText_2 ?_
  refine g_min hF kw_732 (by omega) (Nat.zero_le _) (Nat.zero_le _) (Nat.le_of_ble_eq_true rfl) dX6_startText_5 ?_
  refine g_put_i hF rfl rfl fl_RX6_15 q0 dX6_startText_8 ?_
  refine g_aload_n hF 1 rfl rfl dX6_startText_11 ?_
  refine g_iconst (v := (0 : Int32)) hF rfl dX6_startText_12 ?_
  refine g_aload_n hF 0 rfl rfl dX6_startText_13 ?_
  obtain ⟨b2, h2, h⟩ := gbnd h
  obtain ⟨g2, l2, q_b2⟩ := ldr_sp h2
  refine g_get_r hF g2 fl_RX6_9 q0 dX6_startText_14 ?_
  refine g_iconst (v := (0 : Int32)) hF rfl dX6_startText_17 ?_
  refine g_aload_n hF 0 rfl rfl dX6_startText_18 ?_
  refine g_get_i hF fl_RX6_15 q0 dX6_startText_19 ?_
  obtain ⟨M3, h3, h⟩ := gbnd h
  obtain ⟨k3a, k3b, k3c, k3d, k3e, k3f, e3v⟩ := acpb_sp q1 q_b2 h3
  refine g_copy_b hF kw_735 q1 q_b2 k3a k3b k3c k3d k3e k3f (by omega) (Nat.le_of_ble_eq_true rfl) dX6_startText_22 ?_
  rw [← e3v]
  refine g_aload_n hF 0 rfl rfl dX6_startText_25 ?_
  refine g_iconst (v := (0 : Int32)) hF rfl dX6_startText_26 ?_
  refine g_put_i hF rfl rfl fl_RX6_19 q0 dX6_startText_27 ?_
  refine g_aload_n hF 0 rfl rfl dX6_startText_30 ?_
  obtain ⟨x4, h4, h⟩ := gbnd h
  refine g_callV hF my_X6_advance kw_736 kw_738 kw_24 gC_6.1 (by decide) q0 (c_X6_advance (d := d - 1) (by omega) q0 h4) (by omega) (Nat.zero_le _) (Nat.zero_le _) rfl rfl (Nat.le_of_ble_eq_true rfl) dX6_startText_31 (g_sameN ?_)
  cases h
  exact g_ret_v hF rfl dX6_startText_34 hR (Nat.zero_le _) (Nat.zero_le _)
theorem c_X6_startText {d : Nat} {T : gT} {M : gM} {m_a0 m_a1 : Nat} {a0 : Nat} {a1 : Nat} {i2 : Int32} {r : gM} (hd : 3 ≤ d) (q0 : T[a0]? = some (6, m_a0)) (q1 : T[a1]? = some (10, m_a1)) (h : f_X6_startText T M a0 a1 i2 = some (r)) : gRet d yX6_startText cX6_startText 3 none 0 0 [.ref a0, .ref a1, .int i2] T M (gSame T none r) := by
  refine gRet_of (own := RX6) (by decide) rfl (Nat.le_of_ble_eq_true rfl) (fun Z ad0 hn h0 hF => ?_)
  exact t_X6_startText hF hn hd q0 q1 h ⟨rfl, rfl, rfl, rfl⟩
theorem t_X6_packed_B4 {Z : gZ} {d mc ms : Nat} {Acc : Option Value → (Nat → Nat) → gT → gM → Prop} {AccX : Nat → (Nat → Nat) → gT → gM → Prop} {ad : Nat → Nat} {T : gT} {M : gM} {s0 : Nat} {j1 : Int64} {i3 : Int32} {o : (Int64) ⊕ (Int64 × Int32)} (hF : gFix Z cX6_packed RX6 "packed" (some .long) d mc ms Acc AccX) (hn : Z.2.2.2.2.2.1 = 4) (hd : 4 ≤ d)  (h : f_X6_packed_B4 T M s0 j1 i3 = some o) (hE : ∀ e9, o = .inl e9 → gG Z ad T M 0 0 30 [(1, .long e9)] []) (hN : ∀ n9, o = .inr n9 → gG Z ad T M 0 0 4 [(0, .ref (gSB + s0)), (1, .long n9.1), (3, .int n9.2)] []) : gG Z ad T M 0 0 4 [(0, .ref (gSB + s0)), (1, .long j1), (3, .int i3)] [] := by
  unfold f_X6_packed_B4 at h
  refine g_iload_n hF 2 rfl rfl dX6_packed_4 ?_
  refine g_aload_n hF 0 rfl rfl dX6_packed_5 ?_
  obtain ⟨v1, h1, h⟩ := gbnd h
  refine g_callVSt hF my_J0_length kw_765 kw_766 kw_767 (slen_sp h1).1 rfl (c_slen (d := d - 1) h1 (by omega)) (by omega) (Nat.zero_le _) (Nat.zero_le _) rfl rfl (Nat.le_of_ble_eq_true rfl) dX6_packed_6 (g_sameS ?_)
  refine g_icmp_ge (tgt := 30) hF dX6_packed_9 (by decide) (fun c2 => ?_) (fun c2 => ?_)
  · replace h := gif_t c2 h
    exact gG_sub [1] rfl (hE _ (Option.some.inj h).symm)
  · replace h := gif_f c2 h
    refine g_lload_n hF 1 rfl rfl dX6_packed_12 ?_
    refine g_bipush (v := (8 : Int32)) hF rfl dX6_packed_13 ?_
    refine g_lshl hF dX6_packed_15 ?_
    refine g_aload_n hF 0 rfl rfl dX6_packed_16 ?_
    refine g_iload_n hF 2 rfl rfl dX6_packed_17 ?_
    obtain ⟨v3, h3, h⟩ := gbnd h
    refine g_callVSt hF my_J0_charAt kw_775 kw_776 kw_777 (sch_sp h3).1 rfl (c_sch (d := d - 1) h3 (by omega)) (by omega) (Nat.zero_le _) (Nat.zero_le _) rfl rfl (Nat.le_of_ble_eq_true rfl) dX6_packed_18 (g_sameS ?_)
    refine g_i2l hF dX6_packed_21 ?_
    refine g_lor hF dX6_packed_22 ?_
    refine g_lstore_n (ls' := [(1, .long ((j1 <<< (((8 : Int32)).toInt64 &&& 63)) ||| v3.toInt64)), (0, .ref (gSB + s0)), (3, .int i3)]) hF rfl (by rw [hn]; decide) rfl dX6_packed_23 ?_
    refine g_iinc (n := 1) (v := (i3 + (1 : Int32))) (ls' := [(3, .int (i3 + (1 : Int32))), (1, .long ((j1 <<< (((8 : Int32)).toInt64 &&& 63)) ||| v3.toInt64)), (0, .ref (gSB + s0))]) hF 2 rfl rfl (by rw [hn]; decide) rfl dX6_packed_24 ?_
    refine g_goto (tgt := 4) hF dX6_packed_27 (by decide) ?_
    exact gG_sub [2, 1, 0] rfl (hN _ (Option.some.inj h).symm)
theorem t_X6_packed_L4 {Z : gZ} {d mc ms : Nat} {Acc : Option Value → (Nat → Nat) → gT → gM → Prop} {AccX : Nat → (Nat → Nat) → gT → gM → Prop} {ad : Nat → Nat} {T : gT} {M : gM} {s0 : Nat} {j1 : Int64} {i3 : Int32} {o : Int64} (hF : gFix Z cX6_packed RX6 "packed" (some .long) d mc ms Acc AccX) (hn : Z.2.2.2.2.2.1 = 4) (hd : 4 ≤ d)  (h : gloop (fun x => f_X6_packed_B4 T M s0 x.1 x.2) gFU (j1, i3) = some o) (hE : gG Z ad T M 0 0 30 [(1, .long o)] []) : gG Z ad T M 0 0 4 [(0, .ref (gSB + s0)), (1, .long j1), (3, .int i3)] [] := by
  refine gloop_ind (P := fun x0 : Int64 × Int32 => gG Z ad T M 0 0 4 [(0, .ref (gSB + s0)), (1, .long x0.1), (3, .int x0.2)] []) (e := o) (fun x0 y hy hl hr => ?_) gFU (j1, i3) h
  exact t_X6_packed_B4 hF hn hd  hy (fun e9 q9 => by rw [hl _ q9]; exact hE) (fun n9 q9 => hr n9 q9)
theorem t_X6_packed {Z : gZ} {d mc ms : Nat} {Acc : Option Value → (Nat → Nat) → gT → gM → Prop} {AccX : Nat → (Nat → Nat) → gT → gM → Prop} {ad : Nat → Nat} {T : gT} {M : gM} {s0 : Nat} {o : Int64} (hF : gFix Z cX6_packed RX6 "packed" (some .long) d mc ms Acc AccX) (hn : Z.2.2.2.2.2.1 = 4) (hd : 4 ≤ d)  (h : f_X6_packed T M s0 = some o) (hR : Acc (some (.long o)) ad T M) : gG Z ad T M 0 0 0 [(0, .ref (gSB + s0))] [] := by
  unfold f_X6_packed at h
  refine g_lconst (v := (0 : Int64)) hF rfl dX6_packed_0 ?_
  refine g_lstore_n (ls' := [(1, .long (0 : Int64)), (0, .ref (gSB + s0))]) hF rfl (by rw [hn]; decide) rfl dX6_packed_1 ?_
  refine g_iconst (v := (0 : Int32)) hF rfl dX6_packed_2 ?_
  refine g_istore_n (ls' := [(3, .int (0 : Int32)), (1, .long (0 : Int64)), (0, .ref (gSB + s0))]) hF rfl (by rw [hn]; decide) rfl dX6_packed_3 ?_
  obtain ⟨x4, h4, h⟩ := gbnd h
  refine gG_sub [2, 1, 0] rfl (t_X6_packed_L4 hF hn hd  h4 ?_)
  refine g_lload_n hF 0 rfl rfl dX6_packed_30 ?_
  cases h
  exact g_ret_l hF rfl dX6_packed_31 hR (Nat.zero_le _) (Nat.zero_le _)
theorem c_X6_packed {d : Nat} {T : gT} {M : gM} {s0 : Nat} {r : Int64} (hd : 4 ≤ d)  (h : f_X6_packed T M s0 = some (r)) : gRet d yX6_packed cX6_packed 4 (some .long) 0 0 [.ref (gSB + s0)] T M (gSame T (some (.long r)) M) := by
  refine gRet_of (own := RX6) (by decide) rfl (Nat.le_of_ble_eq_true rfl) (fun Z ad0 hn h0 hF => ?_)
  exact t_X6_packed hF hn hd  h ⟨rfl, rfl, rfl, rfl⟩
theorem t_X6_isWord_24 {Z : gZ} {d mc ms : Nat} {Acc : Option Value → (Nat → Nat) → gT → gM → Prop} {AccX : Nat → (Nat → Nat) → gT → gM → Prop} {ad : Nat → Nat} {T : gT} {M : gM} {o : Int32} (hF : gFix Z cX6_isWord RX6 "isWord" (some .boolean) d mc ms Acc AccX) (hn : Z.2.2.2.2.2.1 = 2) (hd : 5 ≤ d)  (h : f_X6_isWord_24 T M  = some o) (hR : Acc (some (.int o)) ad T M) : gG Z ad T M 0 0 24 [] [] := by
  unfold f_X6_isWord_24 at h
  refine g_iconst (v := (0 : Int32)) hF rfl dX6_isWord_24 ?_
  cases h
  exact g_ret_i hF rfl rfl dX6_isWord_25 hR (Nat.zero_le _) (Nat.zero_le _)
theorem t_X6_isWord {Z : gZ} {d mc ms : Nat} {Acc : Option Value → (Nat → Nat) → gT → gM → Prop} {AccX : Nat → (Nat → Nat) → gT → gM → Prop} {ad : Nat → Nat} {T : gT} {M : gM} {m_a0 : Nat} {a0 : Nat} {s1 : Nat} {o : Int32} (hF : gFix Z cX6_isWord RX6 "isWord" (some .boolean) d mc ms Acc AccX) (hn : Z.2.2.2.2.2.1 = 2) (hd : 5 ≤ d) (q0 : T[a0]? = some (6, m_a0)) (h : f_X6_isWord T M a0 s1 = some o) (hR : Acc (some (.int o)) ad T M) : gG Z ad T M 0 0 0 [(0, .ref a0), (1, .ref (gSB + s1))] [] := by
  unfold f_X6_isWord at h
  refine g_aload_n hF 0 rfl rfl dX6_isWord_0 ?_
  refine g_get_i hF fl_RX6_22 q0 dX6_isWord_1 ?_
  refine g_iconst (v := (1 : Int32)) hF rfl dX6_isWord_4 ?_
  refine g_icmp_ne (tgt := 24) hF dX6_isWord_5 (by decide) (fun c1 => ?_) (fun c1 => ?_)
  · replace h := gif_t c1 h
    exact gG_sub [] rfl (t_X6_isWord_24 hF hn hd  h hR)
  · replace h := gif_n c1 h
    refine g_aload_n hF 0 rfl rfl dX6_isWord_8 ?_
    refine g_get_l hF fl_RX6_28 q0 dX6_isWord_9 ?_
    refine g_aload_n hF 1 rfl rfl dX6_isWord_12 ?_
    obtain ⟨x2, h2, h⟩ := gbnd h
    refine g_callS hF my_X6_packed kw_762 kw_763 (c_X6_packed (d := d - 1) (by omega)  h2) (by omega) (Nat.zero_le _) (Nat.zero_le _) rfl rfl (Nat.le_of_ble_eq_true rfl) dX6_isWord_13 (g_sameS ?_)
    refine g_lcmp hF dX6_isWord_16 ?_
    refine g_if_ne (tgt := 24) hF dX6_isWord_17 (by decide) (fun c3 => ?_) (fun c3 => ?_)
    · replace h := gif_t c3 h
      exact gG_sub [] rfl (t_X6_isWord_24 hF hn hd  h hR)
    · replace h := gif_n c3 h
      refine g_iconst (v := (1 : Int32)) hF rfl dX6_isWord_20 ?_
      refine g_goto (tgt := 25) hF dX6_isWord_21 (by decide) ?_
      cases h
      exact g_ret_i hF rfl rfl dX6_isWord_25 hR (Nat.zero_le _) (Nat.zero_le _)
theorem c_X6_isWord {d : Nat} {T : gT} {M : gM} {m_a0 : Nat} {a0 : Nat} {s1 : Nat} {r : Int32} (hd : 5 ≤ d) (q0 : T[a0]? = some (6, m_a0)) (h : f_X6_isWord T M a0 s1 = some (r)) : gRet d yX6_isWord cX6_isWord 2 (some .boolean) 0 0 [.ref a0, .ref (gSB + s1)] T M (gSame T (some (.int r)) M) := by
  refine gRet_of (own := RX6) (by decide) rfl (Nat.le_of_ble_eq_true rfl) (fun Z ad0 hn h0 hF => ?_)
  exact t_X6_isWord hF hn hd q0 h ⟨rfl, rfl, rfl, rfl⟩
theorem t_X5_error {Z : gZ} {d mc ms : Nat} {Acc : Option Value → (Nat → Nat) → gT → gM → Prop} {AccX : Nat → (Nat → Nat) → gT → gM → Prop} {ad : Nat → Nat} {T : gT} {M : gM} {m_a0 : Nat} {a0 : Nat} {i1 : Int32} {o : Int32 × gM} (hF : gFix Z cX5_error RX5 "error" (some .boolean) d mc ms Acc AccX) (hn : Z.2.2.2.2.2.1 = 2) (hd : 1 ≤ d) (q0 : T[a0]? = some (5, m_a0)) (h : f_X5_error T M a0 i1 = some o) (hR : Acc (some (.int o.1)) ad T o.2) : gG Z ad T M 0 0 0 [(0, .ref a0), (1, .int i1)] [] := by
  unfold f_X5_error at h
  refine g_aload_n hF 0 rfl rfl dX5_error_0 ?_
  refine g_iload_n hF 1 rfl rfl dX5_error_1 ?_
  refine g_put_i hF rfl rfl fl_RX5_50 q0 dX5_error_2 ?_
  refine g_aload_n hF 0 rfl rfl dX5_error_5 ?_
  refine g_aload_n hF 0 rfl rfl dX5_error_6 ?_
  obtain ⟨b1, h1, h⟩ := gbnd h
  obtain ⟨g1, l1, q_b1⟩ := ldr_sp h1
  refine g_get_r hF g1 fl_RX5_12 q0 dX5_error_7 ?_
  refine g_get_iN hF fn_RX5_227 q_b1 dX5_error_10 ?_
  refine g_put_i hF rfl rfl fl_RX5_53 q0 dX5_error_13 ?_
  refine g_iconst (v := (0 : Int32)) hF rfl dX5_error_16 ?_
  cases h
  exact g_ret_i hF rfl rfl dX5_error_17 hR (Nat.zero_le _) (Nat.zero_le _)
theorem c_X5_error {d : Nat} {T : gT} {M : gM} {m_a0 : Nat} {a0 : Nat} {i1 : Int32} {r : Int32 × gM} (hd : 1 ≤ d) (q0 : T[a0]? = some (5, m_a0)) (h : f_X5_error T M a0 i1 = some (r)) : gRet d yX5_error cX5_error 2 (some .boolean) 0 0 [.ref a0, .int i1] T M (gSame T (some (.int r.1)) r.2) := by
  refine gRet_of (own := RX5) (by decide) rfl (Nat.le_of_ble_eq_true rfl) (fun Z ad0 hn h0 hF => ?_)
  exact t_X5_error hF hn hd q0 h ⟨rfl, rfl, rfl, rfl⟩
theorem t_X5_syntaxError {Z : gZ} {d mc ms : Nat} {Acc : Option Value → (Nat → Nat) → gT → gM → Prop} {AccX : Nat → (Nat → Nat) → gT → gM → Prop} {ad : Nat → Nat} {T : gT} {M : gM} {m_a0 : Nat} {a0 : Nat} {o : Int32 × gM} (hF : gFix Z cX5_syntaxError RX5 "syntaxError" (some .boolean) d mc ms Acc AccX) (hn : Z.2.2.2.2.2.1 = 1) (hd : 2 ≤ d) (q0 : T[a0]? = some (5, m_a0)) (h : f_X5_syntaxError T M a0 = some o) (hR : Acc (some (.int o.1)) ad T o.2) : gG Z ad T M 0 0 0 [(0, .ref a0)] [] := by
  unfold f_X5_syntaxError at h
  refine g_aload_n hF 0 rfl rfl dX5_syntaxError_0 ?_
  refine g_bipush (v := (-2 : Int32)) hF rfl dX5_syntaxError_1 ?_
  obtain ⟨x1, h1, h⟩ := gbnd h
  refine g_callV hF my_X5_error kw_817 kw_819 kw_31 gC_5.1 (by decide) q0 (c_X5_error (d := d - 1) (by omega) q0 h1) (by omega) (Nat.zero_le _) (Nat.zero_le _) rfl rfl (Nat.le_of_ble_eq_true rfl) dX5_syntaxError_3 (g_sameS ?_)
  obtain ⟨_, h2, h⟩ := gbnd h
  cases h
  exact g_ret_i hF rfl (gbool (chk_sp h2)) dX5_syntaxError_6 hR (Nat.zero_le _) (Nat.zero_le _)
theorem c_X5_syntaxError {d : Nat} {T : gT} {M : gM} {m_a0 : Nat} {a0 : Nat} {r : Int32 × gM} (hd : 2 ≤ d) (q0 : T[a0]? = some (5, m_a0)) (h : f_X5_syntaxError T M a0 = some (r)) : gRet d yX5_syntaxError cX5_syntaxError 1 (some .boolean) 0 0 [.ref a0] T M (gSame T (some (.int r.1)) r.2) := by
  refine gRet_of (own := RX5) (by decide) rfl (Nat.le_of_ble_eq_true rfl) (fun Z ad0 hn h0 hF => ?_)
  exact t_X5_syntaxError hF hn hd q0 h ⟨rfl, rfl, rfl, rfl⟩
theorem t_X5_readKeyword {Z : gZ} {d mc ms : Nat} {Acc : Option Value → (Nat → Nat) → gT → gM → Prop} {AccX : Nat → (Nat → Nat) → gT → gM → Prop} {ad : Nat → Nat} {T : gT} {M : gM} {m_a0 : Nat} {a0 : Nat} {s1 : Nat} {o : Int32 × gM} (hF : gFix Z cX5_readKeyword RX5 "readKeyword" (some .boolean) d mc ms Acc AccX) (hn : Z.2.2.2.2.2.1 = 2) (hd : 6 ≤ d) (q0 : T[a0]? = some (5, m_a0)) (h : f_X5_readKeyword T M a0 s1 = some o) (hR : Acc (some (.int o.1)) ad T o.2) : gG Z ad T M 0 0 0 [(0, .ref a0), (1, .ref (gSB + s1))] [] := by
  unfold f_X5_readKeyword at h
  refine g_aload_n hF 0 rfl rfl dX5_readKeyword_0 ?_
  obtain ⟨b1, h1, h⟩ := gbnd h
  obtain ⟨g1, l1, q_b1⟩ := ldr_sp h1
  refine g_get_r hF g1 fl_RX5_12 q0 dX5_readKeyword_1 ?_
  refine g_aload_n hF 1 rfl rfl dX5_readKeyword_4 ?_
  obtain ⟨x2, h2, h⟩ := gbnd h
  refine g_callVN hF my_X6_isWord kn_758 kw_760 kw_29 gC_6.1 (by decide) q_b1 (c_X6_isWord (d := d - 1) (by omega) q_b1 h2) (by omega) (Nat.zero_le _) (Nat.zero_le _) rfl rfl (Nat.le_of_ble_eq_true rfl) dX5_readKeyword_5 (g_sameS ?_)
  refine g_if_ne (tgt := 16) hF dX5_readKeyword_8 (by decide) (fun c3 => ?_) (fun c3 => ?_)
  · replace h := gif_t c3 h
    refine g_aload_n hF 0 rfl rfl dX5_readKeyword_16 ?_
    obtain ⟨b4, h4, h⟩ := gbnd h
    obtain ⟨g4, l4, q_b4⟩ := ldr_sp h4
    refine g_get_r hF g4 fl_RX5_12 q0 dX5_readKeyword_17 ?_
    obtain ⟨x5, h5, h⟩ := gbnd h
    refine g_callVN hF my_X6_advance kn_821 kw_738 kw_24 gC_6.1 (by decide) q_b4 (c_X6_advance (d := d - 1) (by omega) q_b4 h5) (by omega) (Nat.zero_le _) (Nat.zero_le _) rfl rfl (Nat.le_of_ble_eq_true rfl) dX5_readKeyword_20 (g_sameN ?_)
    refine g_iconst (v := (1 : Int32)) hF rfl dX5_readKeyword_23 ?_
    cases h
    exact g_ret_i hF rfl rfl dX5_readKeyword_24 hR (Nat.zero_le _) (Nat.zero_le _)
  · replace h := gif_n c3 h
    refine g_aload_n hF 0 rfl rfl dX5_readKeyword_11 ?_
    obtain ⟨x6, h6, h⟩ := gbnd h
    refine g_callV hF my_X5_syntaxError kw_813 kw_815 kw_30 gC_5.1 (by decide) q0 (c_X5_syntaxError (d := d - 1) (by omega) q0 h6) (by omega) (Nat.zero_le _) (Nat.zero_le _) rfl rfl (Nat.le_of_ble_eq_true rfl) dX5_readKeyword_12 (g_sameS ?_)
    obtain ⟨_, h7, h⟩ := gbnd h
    cases h
    exact g_ret_i hF rfl (gbool (chk_sp h7)) dX5_readKeyword_15 hR (Nat.zero_le _) (Nat.zero_le _)
theorem c_X5_readKeyword {d : Nat} {T : gT} {M : gM} {m_a0 : Nat} {a0 : Nat} {s1 : Nat} {r : Int32 × gM} (hd : 6 ≤ d) (q0 : T[a0]? = some (5, m_a0)) (h : f_X5_readKeyword T M a0 s1 = some (r)) : gRet d yX5_readKeyword cX5_readKeyword 2 (some .boolean) 0 0 [.ref a0, .ref (gSB + s1)] T M (gSame T (some (.int r.1)) r.2) := by
  refine gRet_of (own := RX5) (by decide) rfl (Nat.le_of_ble_eq_true rfl) (fun Z ad0 hn h0 hF => ?_)
  exact t_X5_readKeyword hF hn hd q0 h ⟨rfl, rfl, rfl, rfl⟩
theorem t_X6_isSign_20 {Z : gZ} {d mc ms : Nat} {Acc : Option Value → (Nat → Nat) → gT → gM → Prop} {AccX : Nat → (Nat → Nat) → gT → gM → Prop} {ad : Nat → Nat} {T : gT} {M : gM} {o : Int32} (hF : gFix Z cX6_isSign RX6 "isSign" (some .boolean) d mc ms Acc AccX) (hn : Z.2.2.2.2.2.1 = 2) (hd : 1 ≤ d)  (h : f_X6_isSign_20 T M  = some o) (hR : Acc (some (.int o)) ad T M) : gG Z ad T M 0 0 20 [] [] := by
  unfold f_X6_isSign_20 at h
  refine g_iconst (v := (0 : Int32)) hF rfl dX6_isSign_20 ?_
  cases h
  exact g_ret_i hF rfl rfl dX6_isSign_21 hR (Nat.zero_le _) (Nat.zero_le _)
theorem t_X6_isSign {Z : gZ} {d mc ms : Nat} {Acc : Option Value → (Nat → Nat) → gT → gM → Prop} {AccX : Nat → (Nat → Nat) → gT → gM → Prop} {ad : Nat → Nat} {T : gT} {M : gM} {m_a0 : Nat} {a0 : Nat} {i1 : Int32} {o : Int32} (hF : gFix Z cX6_isSign RX6 "isSign" (some .boolean) d mc ms Acc AccX) (hn : Z.2.2.2.2.2.1 = 2) (hd : 1 ≤ d) (q0 : T[a0]? = some (6, m_a0)) (h : f_X6_isSign T M a0 i1 = some o) (hR : Acc (some (.int o)) ad T M) : gG Z ad T M 0 0 0 [(0, .ref a0), (1, .int i1)] [] := by
  unfold f_X6_isSign at h
  refine g_aload_n hF 0 rfl rfl dX6_isSign_0 ?_
  refine g_get_i hF fl_RX6_22 q0 dX6_isSign_1 ?_
  refine g_iconst (v := (3 : Int32)) hF rfl dX6_isSign_4 ?_
  refine g_icmp_ne (tgt := 20) hF dX6_isSign_5 (by decide) (fun c1 => ?_) (fun c1 => ?_)
  · replace h := gif_t c1 h
    exact gG_sub [] rfl (t_X6_isSign_20 hF hn hd  h hR)
  · replace h := gif_n c1 h
    refine g_aload_n hF 0 rfl rfl dX6_isSign_8 ?_
    refine g_get_i hF fl_RX6_35 q0 dX6_isSign_9 ?_
    refine g_iload_n hF 1 rfl rfl dX6_isSign_12 ?_
    refine g_icmp_ne (tgt := 20) hF dX6_isSign_13 (by decide) (fun c2 => ?_) (fun c2 => ?_)
    · replace h := gif_t c2 h
      exact gG_sub [] rfl (t_X6_isSign_20 hF hn hd  h hR)
    · replace h := gif_n c2 h
      refine g_iconst (v := (1 : Int32)) hF rfl dX6_isSign_16 ?_
      refine g_goto (tgt := 21) hF dX6_isSign_17 (by decide) ?_
      cases h
      exact g_ret_i hF rfl rfl dX6_isSign_21 hR (Nat.zero_le _) (Nat.zero_le _)
theorem c_X6_isSign {d : Nat} {T : gT} {M : gM} {m_a0 : Nat} {a0 : Nat} {i1 : Int32} {r : Int32} (hd : 1 ≤ d) (q0 : T[a0]? = some (6, m_a0)) (h : f_X6_isSign T M a0 i1 = some (r)) : gRet d yX6_isSign cX6_isSign 2 (some .boolean) 0 0 [.ref a0, .int i1] T M (gSame T (some (.int r)) M) := by
  refine gRet_of (own := RX6) (by decide) rfl (Nat.le_of_ble_eq_true rfl) (fun Z ad0 hn h0 hF => ?_)
  exact t_X6_isSign hF hn hd q0 h ⟨rfl, rfl, rfl, rfl⟩
theorem t_X5_readSign {Z : gZ} {d mc ms : Nat} {Acc : Option Value → (Nat → Nat) → gT → gM → Prop} {AccX : Nat → (Nat → Nat) → gT → gM → Prop} {ad : Nat → Nat} {T : gT} {M : gM} {m_a0 : Nat} {a0 : Nat} {i1 : Int32} {o : Int32 × gM} (hF : gFix Z cX5_readSign RX5 "readSign" (some .boolean) d mc ms Acc AccX) (hn : Z.2.2.2.2.2.1 = 2) (hd : 3 ≤ d) (q0 : T[a0]? = some (5, m_a0)) (h : f_X5_readSign T M a0 i1 = some o) (hR : Acc (some (.int o.1)) ad T o.2) : gG Z ad T M 0 0 0 [(0, .ref a0), (1, .int i1)] [] := by
  unfold f_X5_readSign at h
  refine g_aload_n hF 0 rfl rfl dX5_readSign_0 ?_
  obtain ⟨b1, h1, h⟩ := gbnd h
  obtain ⟨g1, l1, q_b1⟩ := ldr_sp h1
  refine g_get_r hF g1 fl_RX5_12 q0 dX5_readSign_1 ?_
  refine g_iload_n hF 1 rfl rfl dX5_readSign_4 ?_
  obtain ⟨x2, h2, h⟩ := gbnd h
  refine g_callVN hF my_X6_isSign kn_826 kw_828 kw_33 gC_6.1 (by decide) q_b1 (c_X6_isSign (d := d - 1) (by omega) q_b1 h2) (by omega) (Nat.zero_le _) (Nat.zero_le _) rfl rfl (Nat.le_of_ble_eq_true rfl) dX5_readSign_5 (g_sameS ?_)
  refine g_if_ne (tgt := 16) hF dX5_readSign_8 (by decide) (fun c3 => ?_) (fun c3 => ?_)
  · replace h := gif_t c3 h
    refine g_aload_n hF 0 rfl rfl dX5_readSign_16 ?_
    obtain ⟨b4, h4, h⟩ := gbnd h
    obtain ⟨g4, l4, q_b4⟩ := ldr_sp h4
    refine g_get_r hF g4 fl_RX5_12 q0 dX5_readSign_17 ?_
    obtain ⟨x5, h5, h⟩ := gbnd h
    refine g_callVN hF my_X6_advance kn_821 kw_738 kw_24 gC_6.1 (by decide) q_b4 (c_X6_advance (d := d - 1) (by omega) q_b4 h5) (by omega) (Nat.zero_le _) (Nat.zero_le _) rfl rfl (Nat.le_of_ble_eq_true rfl) dX5_readSign_20 (g_sameN ?_)
    refine g_iconst (v := (1 : Int32)) hF rfl dX5_readSign_23 ?_
    cases h
    exact g_ret_i hF rfl rfl dX5_readSign_24 hR (Nat.zero_le _) (Nat.zero_le _)
  · replace h := gif_n c3 h
    refine g_aload_n hF 0 rfl rfl dX5_readSign_11 ?_
    obtain ⟨x6, h6, h⟩ := gbnd h
    refine g_callV hF my_X5_syntaxError kw_813 kw_815 kw_30 gC_5.1 (by decide) q0 (c_X5_syntaxError (d := d - 1) (by omega) q0 h6) (by omega) (Nat.zero_le _) (Nat.zero_le _) rfl rfl (Nat.le_of_ble_eq_true rfl) dX5_readSign_12 (g_sameS ?_)
    obtain ⟨_, h7, h⟩ := gbnd h
    cases h
    exact g_ret_i hF rfl (gbool (chk_sp h7)) dX5_readSign_15 hR (Nat.zero_le _) (Nat.zero_le _)
theorem c_X5_readSign {d : Nat} {T : gT} {M : gM} {m_a0 : Nat} {a0 : Nat} {i1 : Int32} {r : Int32 × gM} (hd : 3 ≤ d) (q0 : T[a0]? = some (5, m_a0)) (h : f_X5_readSign T M a0 i1 = some (r)) : gRet d yX5_readSign cX5_readSign 2 (some .boolean) 0 0 [.ref a0, .int i1] T M (gSame T (some (.int r.1)) r.2) := by
  refine gRet_of (own := RX5) (by decide) rfl (Nat.le_of_ble_eq_true rfl) (fun Z ad0 hn h0 hF => ?_)
  exact t_X5_readSign hF hn hd q0 h ⟨rfl, rfl, rfl, rfl⟩
theorem t_X5_indexOfWord_B2 {Z : gZ} {d mc ms : Nat} {Acc : Option Value → (Nat → Nat) → gT → gM → Prop} {AccX : Nat → (Nat → Nat) → gT → gM → Prop} {ad : Nat → Nat} {T : gT} {M : gM} {m_a0 m_a1 : Nat} {a0 : Nat} {a1 : Nat} {i2 : Int32} {i3 : Int32} {o : (Int32) ⊕ (Int32)} (hF : gFix Z cX5_indexOfWord RX5 "indexOfWord" (some .int) d mc ms Acc AccX) (hn : Z.2.2.2.2.2.1 = 4) (hd : 1 ≤ d) (q0 : T[a0]? = some (5, m_a0)) (q1 : T[a1]? = some (12, m_a1)) (h : f_X5_indexOfWord_B2 T M a0 a1 i2 i3 = some o) (hR : ∀ r9, o = .inl r9 → Acc (some (.int r9)) ad T M) (hN : ∀ n9, o = .inr n9 → gG Z ad T M 0 0 2 [(0, .ref a0), (1, .ref a1), (2, .int i2), (3, .int n9)] []) : gG Z ad T M 0 0 2 [(0, .ref a0), (1, .ref a1), (2, .int i2), (3, .int i3)] [] := by
  unfold f_X5_indexOfWord_B2 at h
  refine g_iload_n hF 3 rfl rfl dX5_indexOfWord_2 ?_
  refine g_iload_n hF 2 rfl rfl dX5_indexOfWord_3 ?_
  refine g_icmp_ge (tgt := 29) hF dX5_indexOfWord_4 (by decide) (fun c1 => ?_) (fun c1 => ?_)
  · replace h := gif_t c1 h
    refine g_iconst (v := (-1 : Int32)) hF rfl dX5_indexOfWord_29 ?_
    cases h
    exact g_ret_i hF rfl rfl dX5_indexOfWord_30 (hR _ rfl) (Nat.zero_le _) (Nat.zero_le _)
  · replace h := gif_f c1 h
    refine g_aload_n hF 1 rfl rfl dX5_indexOfWord_7 ?_
    refine g_iload_n hF 3 rfl rfl dX5_indexOfWord_8 ?_
    obtain ⟨v2, h2, h⟩ := gbnd h
    obtain ⟨i2h, e2v⟩ := aldl_sp q1 h2
    refine g_lald hF q1 i2h dX5_indexOfWord_9 ?_
    rw [← e2v]
    refine g_aload_n hF 0 rfl rfl dX5_indexOfWord_10 ?_
    obtain ⟨b3, h3, h⟩ := gbnd h
    obtain ⟨g3, l3, q_b3⟩ := ldr_sp h3
    refine g_get_r hF g3 fl_RX5_12 q0 dX5_indexOfWord_11 ?_
    refine g_get_lN hF fn_RX5_220 q_b3 dX5_indexOfWord_14 ?_
    refine g_lcmp hF dX5_indexOfWord_17 ?_
    refine g_if_ne (tgt := 23) hF dX5_indexOfWord_18 (by decide) (fun c4 => ?_) (fun c4 => ?_)
    · replace h := gif_t c4 h
      refine g_iinc (n := 1) (v := (i3 + (1 : Int32))) (ls' := [(3, .int (i3 + (1 : Int32))), (0, .ref a0), (1, .ref a1), (2, .int i2)]) hF 3 rfl rfl (by rw [hn]; decide) rfl dX5_indexOfWord_23 ?_
      refine g_goto (tgt := 2) hF dX5_indexOfWord_26 (by decide) ?_
      exact gG_sub [1, 2, 3, 0] rfl (hN _ (Option.some.inj h).symm)
    · replace h := gif_n c4 h
      refine g_iload_n hF 3 rfl rfl dX5_indexOfWord_21 ?_
      cases h
      exact g_ret_i hF rfl rfl dX5_indexOfWord_22 (hR _ rfl) (Nat.zero_le _) (Nat.zero_le _)
theorem t_X5_indexOfWord_L2 {Z : gZ} {d mc ms : Nat} {Acc : Option Value → (Nat → Nat) → gT → gM → Prop} {AccX : Nat → (Nat → Nat) → gT → gM → Prop} {ad : Nat → Nat} {T : gT} {M : gM} {m_a0 m_a1 : Nat} {a0 : Nat} {a1 : Nat} {i2 : Int32} {i3 : Int32} {o : Int32} (hF : gFix Z cX5_indexOfWord RX5 "indexOfWord" (some .int) d mc ms Acc AccX) (hn : Z.2.2.2.2.2.1 = 4) (hd : 1 ≤ d) (q0 : T[a0]? = some (5, m_a0)) (q1 : T[a1]? = some (12, m_a1)) (h : gloop (fun x => f_X5_indexOfWord_B2 T M a0 a1 i2 x) gFU i3 = some o) (hR : Acc (some (.int o)) ad T M) : gG Z ad T M 0 0 2 [(0, .ref a0), (1, .ref a1), (2, .int i2), (3, .int i3)] [] := by
  refine gloop_ind (P := fun x0 : Int32 => gG Z ad T M 0 0 2 [(0, .ref a0), (1, .ref a1), (2, .int i2), (3, .int x0)] []) (e := o) (fun x0 y hy hl hr => ?_) gFU i3 h
  exact t_X5_indexOfWord_B2 hF hn hd q0 q1 hy (fun r9 q9 => by rw [hl _ q9]; exact hR) (fun n9 q9 => hr n9 q9)
theorem t_X5_indexOfWord {Z : gZ} {d mc ms : Nat} {Acc : Option Value → (Nat → Nat) → gT → gM → Prop} {AccX : Nat → (Nat → Nat) → gT → gM → Prop} {ad : Nat → Nat} {T : gT} {M : gM} {m_a0 m_a1 : Nat} {a0 : Nat} {a1 : Nat} {i2 : Int32} {o : Int32} (hF : gFix Z cX5_indexOfWord RX5 "indexOfWord" (some .int) d mc ms Acc AccX) (hn : Z.2.2.2.2.2.1 = 4) (hd : 1 ≤ d) (q0 : T[a0]? = some (5, m_a0)) (q1 : T[a1]? = some (12, m_a1)) (h : f_X5_indexOfWord T M a0 a1 i2 = some o) (hR : Acc (some (.int o)) ad T M) : gG Z ad T M 0 0 0 [(0, .ref a0), (1, .ref a1), (2, .int i2)] [] := by
  unfold f_X5_indexOfWord at h
  refine g_iconst (v := (0 : Int32)) hF rfl dX5_indexOfWord_0 ?_
  refine g_istore_n (ls' := [(3, .int (0 : Int32)), (0, .ref a0), (1, .ref a1), (2, .int i2)]) hF rfl (by rw [hn]; decide) rfl dX5_indexOfWord_1 ?_
  obtain ⟨x5, h5, h⟩ := gbnd h
  cases h
  exact gG_sub [1, 2, 3, 0] rfl (t_X5_indexOfWord_L2 hF hn hd q0 q1 h5 hR)
theorem c_X5_indexOfWord {d : Nat} {T : gT} {M : gM} {m_a0 m_a1 : Nat} {a0 : Nat} {a1 : Nat} {i2 : Int32} {r : Int32} (hd : 1 ≤ d) (q0 : T[a0]? = some (5, m_a0)) (q1 : T[a1]? = some (12, m_a1)) (h : f_X5_indexOfWord T M a0 a1 i2 = some (r)) : gRet d yX5_indexOfWord cX5_indexOfWord 4 (some .int) 0 0 [.ref a0, .ref a1, .int i2] T M (gSame T (some (.int r)) M) := by
  refine gRet_of (own := RX5) (by decide) rfl (Nat.le_of_ble_eq_true rfl) (fun Z ad0 hn h0 hF => ?_)
  exact t_X5_indexOfWord hF hn hd q0 q1 h ⟨rfl, rfl, rfl, rfl⟩
theorem t_X5_readNewWord {Z : gZ} {d mc ms : Nat} {Acc : Option Value → (Nat → Nat) → gT → gM → Prop} {AccX : Nat → (Nat → Nat) → gT → gM → Prop} {ad : Nat → Nat} {T : gT} {M : gM} {m_a0 m_a1 : Nat} {a0 : Nat} {a1 : Nat} {i2 : Int32} {o : Int32 × gM} (hF : gFix Z cX5_readNewWord RX5 "readNewWord" (some .boolean) d mc ms Acc AccX) (hn : Z.2.2.2.2.2.1 = 3) (hd : 3 ≤ d) (q0 : T[a0]? = some (5, m_a0)) (q1 : T[a1]? = some (12, m_a1)) (h : f_X5_readNewWord T M a0 a1 i2 = some o) (hR : Acc (some (.int o.1)) ad T o.2) : gG Z ad T M 0 0 0 [(0, .ref a0), (1, .ref a1), (2, .int i2)] [] := by
  unfold f_X5_readNewWord at h
  refine g_aload_n hF 0 rfl rfl dX5_readNewWord_0 ?_
  obtain ⟨b1, h1, h⟩ := gbnd h
  obtain ⟨g1, l1, q_b1⟩ := ldr_sp h1
  refine g_get_r hF g1 fl_RX5_12 q0 dX5_readNewWord_1 ?_
  refine g_get_iN hF fn_RX5_79 q_b1 dX5_readNewWord_4 ?_
  refine g_iconst (v := (1 : Int32)) hF rfl dX5_readNewWord_7 ?_
  refine g_icmp_eq (tgt := 16) hF dX5_readNewWord_8 (by decide) (fun c2 => ?_) (fun c2 => ?_)
  · replace h := gif_t c2 h
    refine g_aload_n hF 0 rfl rfl dX5_readNewWord_16 ?_
    refine g_aload_n hF 1 rfl rfl dX5_readNewWord_17 ?_
    refine g_iload_n hF 2 rfl rfl dX5_readNewWord_18 ?_
    obtain ⟨x3, h3, h⟩ := gbnd h
    refine g_callV hF my_X5_indexOfWord kw_843 kw_845 kw_37 gC_5.1 (by decide) q0 (c_X5_indexOfWord (d := d - 1) (by omega) q0 q1 h3) (by omega) (Nat.zero_le _) (Nat.zero_le _) rfl rfl (Nat.le_of_ble_eq_true rfl) dX5_readNewWord_19 (g_sameS ?_)
    refine g_iconst (v := (-1 : Int32)) hF rfl dX5_readNewWord_22 ?_
    refine g_icmp_eq (tgt := 33) hF dX5_readNewWord_23 (by decide) (fun c4 => ?_) (fun c4 => ?_)
    · replace h := gif_t c4 h
      refine g_aload_n hF 1 rfl rfl dX5_readNewWord_33 ?_
      refine g_iload_n hF 2 rfl rfl dX5_readNewWord_34 ?_
      refine g_aload_n hF 0 rfl rfl dX5_readNewWord_35 ?_
      obtain ⟨b5, h5, h⟩ := gbnd h
      obtain ⟨g5, l5, q_b5⟩ := ldr_sp h5
      refine g_get_r hF g5 fl_RX5_12 q0 dX5_readNewWord_36 ?_
      refine g_get_lN hF fn_RX5_220 q_b5 dX5_readNewWord_39 ?_
      obtain ⟨M6, h6, h⟩ := gbnd h
      obtain ⟨i6h, e6v⟩ := astl_sp q1 h6
      refine g_last hF q1 i6h dX5_readNewWord_42 ?_
      rw [← e6v]
      refine g_aload_n hF 0 rfl rfl dX5_readNewWord_43 ?_
      obtain ⟨b7, h7, h⟩ := gbnd h
      obtain ⟨g7, l7, q_b7⟩ := ldr_sp h7
      refine g_get_r hF g7 fl_RX5_12 q0 dX5_readNewWord_44 ?_
      obtain ⟨x8, h8, h⟩ := gbnd h
      refine g_callVN hF my_X6_advance kn_821 kw_738 kw_24 gC_6.1 (by decide) q_b7 (c_X6_advance (d := d - 1) (by omega) q_b7 h8) (by omega) (Nat.zero_le _) (Nat.zero_le _) rfl rfl (Nat.le_of_ble_eq_true rfl) dX5_readNewWord_47 (g_sameN ?_)
      refine g_iconst (v := (1 : Int32)) hF rfl dX5_readNewWord_50 ?_
      cases h
      exact g_ret_i hF rfl rfl dX5_readNewWord_51 hR (Nat.zero_le _) (Nat.zero_le _)
    · replace h := gif_f c4 h
      refine g_aload_n hF 0 rfl rfl dX5_readNewWord_26 ?_
      refine g_bipush (v := (-5 : Int32)) hF rfl dX5_readNewWord_27 ?_
      obtain ⟨x9, h9, h⟩ := gbnd h
      refine g_callV hF my_X5_error kw_817 kw_819 kw_31 gC_5.1 (by decide) q0 (c_X5_error (d := d - 1) (by omega) q0 h9) (by omega) (Nat.zero_le _) (Nat.zero_le _) rfl rfl (Nat.le_of_ble_eq_true rfl) dX5_readNewWord_29 (g_sameS ?_)
      obtain ⟨_, h10, h⟩ := gbnd h
      cases h
      exact g_ret_i hF rfl (gbool (chk_sp h10)) dX5_readNewWord_32 hR (Nat.zero_le _) (Nat.zero_le _)
  · replace h := gif_f c2 h
    refine g_aload_n hF 0 rfl rfl dX5_readNewWord_11 ?_
    obtain ⟨x11, h11, h⟩ := gbnd h
    refine g_callV hF my_X5_syntaxError kw_813 kw_815 kw_30 gC_5.1 (by decide) q0 (c_X5_syntaxError (d := d - 1) (by omega) q0 h11) (by omega) (Nat.zero_le _) (Nat.zero_le _) rfl rfl (Nat.le_of_ble_eq_true rfl) dX5_readNewWord_12 (g_sameS ?_)
    obtain ⟨_, h12, h⟩ := gbnd h
    cases h
    exact g_ret_i hF rfl (gbool (chk_sp h12)) dX5_readNewWord_15 hR (Nat.zero_le _) (Nat.zero_le _)
theorem c_X5_readNewWord {d : Nat} {T : gT} {M : gM} {m_a0 m_a1 : Nat} {a0 : Nat} {a1 : Nat} {i2 : Int32} {r : Int32 × gM} (hd : 3 ≤ d) (q0 : T[a0]? = some (5, m_a0)) (q1 : T[a1]? = some (12, m_a1)) (h : f_X5_readNewWord T M a0 a1 i2 = some (r)) : gRet d yX5_readNewWord cX5_readNewWord 3 (some .boolean) 0 0 [.ref a0, .ref a1, .int i2] T M (gSame T (some (.int r.1)) r.2) := by
  refine gRet_of (own := RX5) (by decide) rfl (Nat.le_of_ble_eq_true rfl) (fun Z ad0 hn h0 hF => ?_)
  exact t_X5_readNewWord hF hn hd q0 q1 h ⟨rfl, rfl, rfl, rfl⟩
theorem t_X5_readNewName {Z : gZ} {d mc ms : Nat} {Acc : Option Value → (Nat → Nat) → gT → gM → Prop} {AccX : Nat → (Nat → Nat) → gT → gM → Prop} {ad : Nat → Nat} {T : gT} {M : gM} {m_a0 : Nat} {a0 : Nat} {o : Int32 × gM} (hF : gFix Z cX5_readNewName RX5 "readNewName" (some .boolean) d mc ms Acc AccX) (hn : Z.2.2.2.2.2.1 = 1) (hd : 4 ≤ d) (q0 : T[a0]? = some (5, m_a0)) (h : f_X5_readNewName T M a0 = some o) (hR : Acc (some (.int o.1)) ad T o.2) : gG Z ad T M 0 0 0 [(0, .ref a0)] [] := by
  unfold f_X5_readNewName at h
  refine g_aload_n hF 0 rfl rfl dX5_readNewName_0 ?_
  obtain ⟨b1, h1, h⟩ := gbnd h
  obtain ⟨g1, l1, q_b1⟩ := ldr_sp h1
  refine g_get_r hF g1 fl_RX5_21 q0 dX5_readNewName_1 ?_
  refine g_get_iN hF fn_RX5_134 q_b1 dX5_readNewName_4 ?_
  refine g_bipush (v := (12 : Int32)) hF rfl dX5_readNewName_7 ?_
  refine g_icmp_lt (tgt := 19) hF dX5_readNewName_9 (by decide) (fun c2 => ?_) (fun c2 => ?_)
  · replace h := gif_t c2 h
    refine g_aload_n hF 0 rfl rfl dX5_readNewName_19 ?_
    obtain ⟨b3, h3, h⟩ := gbnd h
    obtain ⟨g3, l3, q_b3⟩ := ldr_sp h3
    refine g_get_r hF g3 fl_RX5_12 q0 dX5_readNewName_20 ?_
    obtain ⟨x4, h4, h⟩ := gbnd h
    refine g_callVN hF my_X6_advance kn_821 kw_738 kw_24 gC_6.1 (by decide) q_b3 (c_X6_advance (d := d - 1) (by omega) q_b3 h4) (by omega) (Nat.zero_le _) (Nat.zero_le _) rfl rfl (Nat.le_of_ble_eq_true rfl) dX5_readNewName_23 (g_sameN ?_)
    refine g_aload_n hF 0 rfl rfl dX5_readNewName_26 ?_
    refine g_aload_n hF 0 rfl rfl dX5_readNewName_27 ?_
    obtain ⟨b5, h5, h⟩ := gbnd h
    obtain ⟨g5, l5, q_b5⟩ := ldr_sp h5
    refine g_get_r hF g5 fl_RX5_29 q0 dX5_readNewName_28 ?_
    refine g_aload_n hF 0 rfl rfl dX5_readNewName_31 ?_
    obtain ⟨b6, h6, h⟩ := gbnd h
    obtain ⟨g6, l6, q_b6⟩ := ldr_sp h6
    refine g_get_r hF g6 fl_RX5_21 q0 dX5_readNewName_32 ?_
    refine g_get_iN hF fn_RX5_134 q_b6 dX5_readNewName_35 ?_
    obtain ⟨x7, h7, h⟩ := gbnd h
    refine g_callV hF my_X5_readNewWord kw_839 kw_841 kw_36 gC_5.1 (by decide) q0 (c_X5_readNewWord (d := d - 1) (by omega) q0 q_b5 h7) (by omega) (Nat.zero_le _) (Nat.zero_le _) rfl rfl (Nat.le_of_ble_eq_true rfl) dX5_readNewName_38 (g_sameS ?_)
    refine g_if_ne (tgt := 46) hF dX5_readNewName_41 (by decide) (fun c8 => ?_) (fun c8 => ?_)
    · replace h := gif_t c8 h
      refine g_aload_n hF 0 rfl rfl dX5_readNewName_46 ?_
      obtain ⟨b9, h9, h⟩ := gbnd h
      obtain ⟨g9, l9, q_b9⟩ := ldr_sp h9
      refine g_get_r hF g9 fl_RX5_21 q0 dX5_readNewName_47 ?_
      refine g_dup hF rfl dX5_readNewName_50 ?_
      refine g_get_iN hF fn_RX5_134 q_b9 dX5_readNewName_51 ?_
      refine g_iconst (v := (1 : Int32)) hF rfl dX5_readNewName_54 ?_
      refine g_iadd hF dX5_readNewName_55 ?_
      refine g_putN_i hF rfl rfl fn_RX5_134 q_b9 dX5_readNewName_56 ?_
      refine g_iconst (v := (1 : Int32)) hF rfl dX5_readNewName_59 ?_
      cases h
      exact g_ret_i hF rfl rfl dX5_readNewName_60 hR (Nat.zero_le _) (Nat.zero_le _)
    · replace h := gif_n c8 h
      refine g_iconst (v := (0 : Int32)) hF rfl dX5_readNewName_44 ?_
      cases h
      exact g_ret_i hF rfl rfl dX5_readNewName_45 hR (Nat.zero_le _) (Nat.zero_le _)
  · replace h := gif_f c2 h
    refine g_aload_n hF 0 rfl rfl dX5_readNewName_12 ?_
    refine g_bipush (v := (-6 : Int32)) hF rfl dX5_readNewName_13 ?_
    obtain ⟨x10, h10, h⟩ := gbnd h
    refine g_callV hF my_X5_error kw_817 kw_819 kw_31 gC_5.1 (by decide) q0 (c_X5_error (d := d - 1) (by omega) q0 h10) (by omega) (Nat.zero_le _) (Nat.zero_le _) rfl rfl (Nat.le_of_ble_eq_true rfl) dX5_readNewName_15 (g_sameS ?_)
    obtain ⟨_, h11, h⟩ := gbnd h
    cases h
    exact g_ret_i hF rfl (gbool (chk_sp h11)) dX5_readNewName_18 hR (Nat.zero_le _) (Nat.zero_le _)
theorem c_X5_readNewName {d : Nat} {T : gT} {M : gM} {m_a0 : Nat} {a0 : Nat} {r : Int32 × gM} (hd : 4 ≤ d) (q0 : T[a0]? = some (5, m_a0)) (h : f_X5_readNewName T M a0 = some (r)) : gRet d yX5_readNewName cX5_readNewName 1 (some .boolean) 0 0 [.ref a0] T M (gSame T (some (.int r.1)) r.2) := by
  refine gRet_of (own := RX5) (by decide) rfl (Nat.le_of_ble_eq_true rfl) (fun Z ad0 hn h0 hF => ?_)
  exact t_X5_readNewName hF hn hd q0 h ⟨rfl, rfl, rfl, rfl⟩
