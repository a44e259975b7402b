theorem t_X9_once_19 {Z : gZ} {d mc ms : Nat} {Acc : Option Value → (Nat → Nat) → gT → gM → Prop} {AccX : Nat → (Nat → Nat) → gT → gM → Prop} {ad : Nat → Nat} {T : gT} {M : gM} {m_a0 : Nat} {a0 : Nat} {i1 : Int32} {o : gM} (hF : gFix Z cX9_once RX9 "once" none d mc ms Acc AccX) (hn : Z.2.2.2.2.2.1 = 3) (hd : 2 ≤ d) (q0 : T[a0]? = some (9, m_a0)) (h : f_X9_once_19 T M a0 i1 = some o) (hR : Acc none ad T o) : gG Z ad T M 0 0 19 [(0, .ref a0), (1, .int i1)] [] := by
  unfold f_X9_once_19 at h
  refine g_aload_n hF 0 rfl rfl dX9_once_19 ?_
  refine g_dup hF rfl dX9_once_20 ?_
  refine g_get_i hF fl_RX9_152 q0 dX9_once_21 ?_
  refine g_iconst (v := (1 : Int32)) hF rfl dX9_once_24 ?_
  refine g_iload_n hF 1 rfl rfl dX9_once_25 ?_
  refine g_ishl hF dX9_once_26 ?_
  refine g_ior hF dX9_once_27 ?_
  refine g_put_i hF rfl rfl fl_RX9_152 q0 dX9_once_28 ?_
  cases h
  exact g_ret_v hF rfl dX9_once_31 hR (Nat.zero_le _) (Nat.zero_le _)
theorem t_X9_once {Z : gZ} {d mc ms : Nat} {Acc : Option Value → (Nat → Nat) → gT → gM → Prop} {AccX : Nat → (Nat → Nat) → gT → gM → Prop} {ad : Nat → Nat} {T : gT} {M : gM} {m_a0 : Nat} {a0 : Nat} {i1 : Int32} {i2 : Int32} {o : gM} (hF : gFix Z cX9_once RX9 "once" none d mc ms Acc AccX) (hn : Z.2.2.2.2.2.1 = 3) (hd : 2 ≤ d) (q0 : T[a0]? = some (9, m_a0)) (h : f_X9_once T M a0 i1 i2 = some o) (hR : Acc none ad T o) : gG Z ad T M 0 0 0 [(0, .ref a0), (1, .int i1), (2, .int i2)] [] := by
  unfold f_X9_once at h
  refine g_aload_n hF 0 rfl rfl dX9_once_0 ?_
  refine g_get_i hF fl_RX9_152 q0 dX9_once_1 ?_
  refine g_iload_n hF 1 rfl rfl dX9_once_4 ?_
  refine g_ishr hF dX9_once_5 ?_
  refine g_iconst (v := (1 : Int32)) hF rfl dX9_once_6 ?_
  refine g_iand hF dX9_once_7 ?_
  refine g_iconst (v := (1 : Int32)) hF rfl dX9_once_8 ?_
  refine g_icmp_ne (tgt := 19) hF dX9_once_9 (by decide) (fun c1 => ?_) (fun c1 => ?_)
  · replace h := gif_t c1 h
    exact gG_sub [0, 1] rfl (t_X9_once_19 hF hn hd q0 h hR)
  · replace h := gif_n c1 h
    refine g_aload_n hF 0 rfl rfl dX9_once_12 ?_
    refine g_bipush (v := (-2 : Int32)) hF rfl dX9_once_13 ?_
    refine g_iload_n hF 2 rfl rfl dX9_once_15 ?_
    obtain ⟨x2, h2, h⟩ := gbnd h
    refine g_callV hF my_X9_report kw_1209 kw_1211 kw_69 gC_9.1 (by decide) q0 (c_X9_report (d := d - 1) (by omega) q0 h2) (by omega) (Nat.zero_le _) (Nat.zero_le _) rfl rfl (Nat.le_of_ble_eq_true rfl) dX9_once_16 (g_sameN ?_)
    exact gG_sub [0, 1] rfl (t_X9_once_19 hF hn hd q0 h hR)
theorem c_X9_once {d : Nat} {T : gT} {M : gM} {m_a0 : Nat} {a0 : Nat} {i1 : Int32} {i2 : Int32} {r : gM} (hd : 2 ≤ d) (q0 : T[a0]? = some (9, m_a0)) (h : f_X9_once T M a0 i1 i2 = some (r)) : gRet d yX9_once cX9_once 3 none 0 0 [.ref a0, .int i1, .int i2] T M (gSame T none r) := by
  refine gRet_of (own := RX9) (by decide) rfl (Nat.le_of_ble_eq_true rfl) (fun Z ad0 hn h0 hF => ?_)
  exact t_X9_once hF hn hd q0 h ⟨rfl, rfl, rfl, rfl⟩
theorem t_X9_readWord_81 {Z : gZ} {d mc ms : Nat} {Acc : Option Value → (Nat → Nat) → gT → gM → Prop} {AccX : Nat → (Nat → Nat) → gT → gM → Prop} {ad : Nat → Nat} {T : gT} {M : gM} {m_a0 : Nat} {a0 : Nat} {w0 : Int64} {o : (Int64 × gM) ⊕ (Int64 × gM)} (hF : gFix Z cX9_readWord RX9 "readWord" (some .long) d mc ms Acc AccX) (hn : Z.2.2.2.2.2.1 = 3) (hd : 3 ≤ d) (q0 : T[a0]? = some (9, m_a0)) (h : f_X9_readWord_81 T M a0 w0 = some o) (hE : ∀ e9, o = .inl e9 → gG Z ad T e9.2 0 0 95 [(0, .ref a0), (1, .long e9.1)] []) (hN : ∀ n9, o = .inr n9 → gG Z ad T n9.2 0 0 24 [(0, .ref a0), (1, .long n9.1)] []) : gG Z ad T M 0 0 81 [(0, .ref a0)] [.long w0] := by
  unfold f_X9_readWord_81 at h
  refine g_lstore_n (ls' := [(1, .long w0), (0, .ref a0)]) hF rfl (by rw [hn]; decide) rfl dX9_readWord_81 ?_
  refine g_aload_n hF 1 rfl rfl dX9_readWord_82 ?_
  refine g_dup hF rfl dX9_readWord_83 ?_
  refine g_get_i hF fl_RX9_68 q0 dX9_readWord_84 ?_
  refine g_iconst (v := (1 : Int32)) hF rfl dX9_readWord_87 ?_
  refine g_iadd hF dX9_readWord_88 ?_
  refine g_put_i hF rfl rfl fl_RX9_68 q0 dX9_readWord_89 ?_
  refine g_goto (tgt := 24) hF dX9_readWord_92 (by decide) ?_
  exact gG_sub [1, 0] rfl (hN _ (Option.some.inj h).symm)
theorem t_X9_readWord_B24 {Z : gZ} {d mc ms : Nat} {Acc : Option Value → (Nat → Nat) → gT → gM → Prop} {AccX : Nat → (Nat → Nat) → gT → gM → Prop} {ad : Nat → Nat} {T : gT} {M : gM} {m_a0 : Nat} {a0 : Nat} {j1 : Int64} {o : (Int64 × gM) ⊕ (Int64 × gM)} (hF : gFix Z cX9_readWord RX9 "readWord" (some .long) d mc ms Acc AccX) (hn : Z.2.2.2.2.2.1 = 3) (hd : 3 ≤ d) (q0 : T[a0]? = some (9, m_a0)) (h : f_X9_readWord_B24 T M a0 j1 = some o) (hE : ∀ e9, o = .inl e9 → gG Z ad T e9.2 0 0 95 [(0, .ref a0), (1, .long e9.1)] []) (hN : ∀ n9, o = .inr n9 → gG Z ad T n9.2 0 0 24 [(0, .ref a0), (1, .long n9.1)] []) : gG Z ad T M 0 0 24 [(0, .ref a0), (1, .long j1)] [] := by
  unfold f_X9_readWord_B24 at h
  refine g_aload_n hF 0 rfl rfl dX9_readWord_24 ?_
  refine g_aload_n hF 0 rfl rfl dX9_readWord_25 ?_
  refine g_get_i hF fl_RX9_68 q0 dX9_readWord_26 ?_
  obtain ⟨x1, h1, h⟩ := gbnd h
  refine g_callV hF my_X9_byteAt kw_1203 kw_1205 kw_68 gC_9.1 (by decide) q0 (c_X9_byteAt (d := d - 1) (by omega) q0 h1) (by omega) (Nat.zero_le _) (Nat.zero_le _) rfl rfl (Nat.le_of_ble_eq_true rfl) dX9_readWord_29 (g_sameS ?_)
  refine g_bipush (v := (97 : Int32)) hF rfl dX9_readWord_32 ?_
  refine g_bipush (v := (122 : Int32)) hF rfl dX9_readWord_34 ?_
  obtain ⟨x2, h2, h⟩ := gbnd h
  refine g_callS hF my_X9_in kw_1183 kw_1184 (c_X9_in (d := d - 1) (by omega)  h2) (by omega) (Nat.zero_le _) (Nat.zero_le _) rfl rfl (Nat.le_of_ble_eq_true rfl) dX9_readWord_36 (g_sameS ?_)
  refine g_if_eq (tgt := 95) hF dX9_readWord_39 (by decide) (fun c3 => ?_) (fun c3 => ?_)
  · replace h := gif_t c3 h
    exact gG_sub [0, 1] rfl (hE _ (Option.some.inj h).symm)
  · replace h := gif_f c3 h
    refine g_aload_n hF 0 rfl rfl dX9_readWord_42 ?_
    refine g_get_i hF fl_RX9_68 q0 dX9_readWord_43 ?_
    refine g_aload_n hF 0 rfl rfl dX9_readWord_46 ?_
    refine g_get_i hF fl_RX9_155 q0 dX9_readWord_47 ?_
    refine g_isub hF dX9_readWord_50 ?_
    refine g_bipush (v := (8 : Int32)) hF rfl dX9_readWord_51 ?_
    refine g_icmp_ge (tgt := 80) hF dX9_readWord_53 (by decide) (fun c4 => ?_) (fun c4 => ?_)
    · replace h := gif_t c4 h
      refine g_lload_n hF 1 rfl rfl dX9_readWord_80 ?_
      exact gG_sub [0] rfl (t_X9_readWord_81 hF hn hd q0 h hE hN)
    · replace h := gif_f c4 h
      refine g_ldc2 (v := (27 : Int64)) hF kw_1230 dX9_readWord_56 ?_
      refine g_lload_n hF 1 rfl rfl dX9_readWord_59 ?_
      refine g_lmul hF dX9_readWord_60 ?_
      refine g_aload_n hF 0 rfl rfl dX9_readWord_61 ?_
      refine g_aload_n hF 0 rfl rfl dX9_readWord_62 ?_
      refine g_get_i hF fl_RX9_68 q0 dX9_readWord_63 ?_
      obtain ⟨x5, h5, h⟩ := gbnd h
      refine g_callV hF my_X9_byteAt kw_1203 kw_1205 kw_68 gC_9.1 (by decide) q0 (c_X9_byteAt (d := d - 1) (by omega) q0 h5) (by omega) (Nat.zero_le _) (Nat.zero_le _) rfl rfl (Nat.le_of_ble_eq_true rfl) dX9_readWord_66 (g_sameS ?_)
      refine g_i2l hF dX9_readWord_69 ?_
      refine g_ladd hF dX9_readWord_70 ?_
      refine g_ldc2 (v := (97 : Int64)) hF kw_1231 dX9_readWord_71 ?_
      refine g_lsub hF dX9_readWord_74 ?_
      refine g_lconst (v := (1 : Int64)) hF rfl dX9_readWord_75 ?_
      refine g_ladd hF dX9_readWord_76 ?_
      refine g_goto (tgt := 81) hF dX9_readWord_77 (by decide) ?_
      exact gG_sub [0] rfl (t_X9_readWord_81 hF hn hd q0 h hE hN)
theorem t_X9_readWord_L24 {Z : gZ} {d mc ms : Nat} {Acc : Option Value → (Nat → Nat) → gT → gM → Prop} {AccX : Nat → (Nat → Nat) → gT → gM → Prop} {ad : Nat → Nat} {T : gT} {M : gM} {m_a0 : Nat} {a0 : Nat} {j1 : Int64} {o : Int64 × gM} (hF : gFix Z cX9_readWord RX9 "readWord" (some .long) d mc ms Acc AccX) (hn : Z.2.2.2.2.2.1 = 3) (hd : 3 ≤ d) (q0 : T[a0]? = some (9, m_a0)) (h : gloop (fun x => f_X9_readWord_B24 T x.2 a0 x.1) gFU (j1, M) = some o) (hE : gG Z ad T o.2 0 0 95 [(0, .ref a0), (1, .long o.1)] []) : gG Z ad T M 0 0 24 [(0, .ref a0), (1, .long j1)] [] := by
  refine gloop_ind (P := fun x0 : Int64 × gM => gG Z ad T x0.2 0 0 24 [(0, .ref a0), (1, .long x0.1)] []) (e := o) (fun x0 y hy hl hr => ?_) gFU (j1, M) h
  exact t_X9_readWord_B24 hF hn hd q0 hy (fun e9 q9 => by rw [hl _ q9]; exact hE) (fun n9 q9 => hr n9 q9)
theorem t_X9_readWord_130 {Z : gZ} {d mc ms : Nat} {Acc : Option Value → (Nat → Nat) → gT → gM → Prop} {AccX : Nat → (Nat → Nat) → gT → gM → Prop} {ad : Nat → Nat} {T : gT} {M : gM} {m_a0 : Nat} {a0 : Nat} {j1 : Int64} {o : Int64 × gM} (hF : gFix Z cX9_readWord RX9 "readWord" (some .long) d mc ms Acc AccX) (hn : Z.2.2.2.2.2.1 = 3) (hd : 3 ≤ d) (q0 : T[a0]? = some (9, m_a0)) (h : f_X9_readWord_130 T M a0 j1 = some o) (hR : Acc (some (.long o.1)) ad T o.2) : gG Z ad T M 0 0 130 [(0, .ref a0), (1, .long j1)] [] := by
  unfold f_X9_readWord_130 at h
  refine g_aload_n hF 0 rfl rfl dX9_readWord_130 ?_
  obtain ⟨x6, h6, h⟩ := gbnd h
  refine g_callV hF my_X9_isGood kw_1195 kw_1197 kw_66 gC_9.1 (by decide) q0 (c_X9_isGood (d := d - 1) (by omega) q0 h6) (by omega) (Nat.zero_le _) (Nat.zero_le _) rfl rfl (Nat.le_of_ble_eq_true rfl) dX9_readWord_131 (g_sameS ?_)
  refine g_if_eq (tgt := 141) hF dX9_readWord_134 (by decide) (fun c7 => ?_) (fun c7 => ?_)
  · replace h := gif_t c7 h
    refine g_lconst (v := (0 : Int64)) hF rfl dX9_readWord_141 ?_
    cases h
    exact g_ret_l hF rfl dX9_readWord_142 hR (Nat.zero_le _) (Nat.zero_le _)
  · replace h := gif_f c7 h
    refine g_lload_n hF 1 rfl rfl dX9_readWord_137 ?_
    refine g_goto (tgt := 142) hF dX9_readWord_138 (by decide) ?_
    cases h
    exact g_ret_l hF rfl dX9_readWord_142 hR (Nat.zero_le _) (Nat.zero_le _)
theorem t_X9_readWord_120 {Z : gZ} {d mc ms : Nat} {Acc : Option Value → (Nat → Nat) → gT → gM → Prop} {AccX : Nat → (Nat → Nat) → gT → gM → Prop} {ad : Nat → Nat} {T : gT} {M : gM} {m_a0 : Nat} {a0 : Nat} {j1 : Int64} {o : Int64 × gM} (hF : gFix Z cX9_readWord RX9 "readWord" (some .long) d mc ms Acc AccX) (hn : Z.2.2.2.2.2.1 = 3) (hd : 3 ≤ d) (q0 : T[a0]? = some (9, m_a0)) (h : f_X9_readWord_120 T M a0 j1 = some o) (hR : Acc (some (.long o.1)) ad T o.2) : gG Z ad T M 0 0 120 [(0, .ref a0), (1, .long j1)] [] := by
  unfold f_X9_readWord_120 at h
  refine g_aload_n hF 0 rfl rfl dX9_readWord_120 ?_
  refine g_bipush (v := (-2 : Int32)) hF rfl dX9_readWord_121 ?_
  refine g_aload_n hF 0 rfl rfl dX9_readWord_123 ?_
  refine g_get_i hF fl_RX9_155 q0 dX9_readWord_124 ?_
  obtain ⟨x8, h8, h⟩ := gbnd h
  refine g_callV hF my_X9_report kw_1209 kw_1211 kw_69 gC_9.1 (by decide) q0 (c_X9_report (d := d - 1) (by omega) q0 h8) (by omega) (Nat.zero_le _) (Nat.zero_le _) rfl rfl (Nat.le_of_ble_eq_true rfl) dX9_readWord_127 (g_sameN ?_)
  exact gG_sub [0, 1] rfl (t_X9_readWord_130 hF hn hd q0 h hR)
theorem t_X9_readWord {Z : gZ} {d mc ms : Nat} {Acc : Option Value → (Nat → Nat) → gT → gM → Prop} {AccX : Nat → (Nat → Nat) → gT → gM → Prop} {ad : Nat → Nat} {T : gT} {M : gM} {m_a0 : Nat} {a0 : Nat} {o : Int64 × gM} (hF : gFix Z cX9_readWord RX9 "readWord" (some .long) d mc ms Acc AccX) (hn : Z.2.2.2.2.2.1 = 3) (hd : 3 ≤ d) (q0 : T[a0]? = some (9, m_a0)) (h : f_X9_readWord T M a0 = some o) (hR : Acc (some (.long o.1)) ad T o.2) : gG Z ad T M 0 0 0 [(0, .ref a0)] [] := by
  unfold f_X9_readWord at h
  refine g_aload_n hF 0 rfl rfl dX9_readWord_0 ?_
  obtain ⟨x9, h9, h⟩ := gbnd h
  refine g_callV hF my_X9_isGood kw_1195 kw_1197 kw_66 gC_9.1 (by decide) q0 (c_X9_isGood (d := d - 1) (by omega) q0 h9) (by omega) (Nat.zero_le _) (Nat.zero_le _) rfl rfl (Nat.le_of_ble_eq_true rfl) dX9_readWord_1 (g_sameS ?_)
  refine g_if_ne (tgt := 9) hF dX9_readWord_4 (by decide) (fun c10 => ?_) (fun c10 => ?_)
  · replace h := gif_t c10 h
    refine g_aload_n hF 0 rfl rfl dX9_readWord_9 ?_
    obtain ⟨x11, h11, h⟩ := gbnd h
    refine g_callV hF my_X9_next kw_1199 kw_1201 kw_67 gC_9.1 (by decide) q0 (c_X9_next (d := d - 1) (by omega) q0 h11) (by omega) (Nat.zero_le _) (Nat.zero_le _) rfl rfl (Nat.le_of_ble_eq_true rfl) dX9_readWord_10 (g_sameS ?_)
    refine g_pop hF rfl dX9_readWord_13 ?_
    refine g_aload_n hF 0 rfl rfl dX9_readWord_14 ?_
    refine g_aload_n hF 0 rfl rfl dX9_readWord_15 ?_
    refine g_get_i hF fl_RX9_68 q0 dX9_readWord_16 ?_
    refine g_put_i hF rfl rfl fl_RX9_155 q0 dX9_readWord_19 ?_
    refine g_lconst (v := (0 : Int64)) hF rfl dX9_readWord_22 ?_
    refine g_lstore_n (ls' := [(1, .long (0 : Int64)), (0, .ref a0)]) hF rfl (by rw [hn]; decide) rfl dX9_readWord_23 ?_
    obtain ⟨x12, h12, h⟩ := gbnd h
    refine gG_sub [1, 0] rfl (t_X9_readWord_L24 hF hn hd q0 h12 ?_)
    refine g_aload_n hF 0 rfl rfl dX9_readWord_95 ?_
    refine g_get_i hF fl_RX9_68 q0 dX9_readWord_96 ?_
    refine g_aload_n hF 0 rfl rfl dX9_readWord_99 ?_
    refine g_get_i hF fl_RX9_155 q0 dX9_readWord_100 ?_
    refine g_icmp_eq (tgt := 120) hF dX9_readWord_103 (by decide) (fun c13 => ?_) (fun c13 => ?_)
    · replace h := gif_t c13 h
      exact gG_sub [0, 1] rfl (t_X9_readWord_120 hF hn hd q0 h hR)
    · replace h := gif_f c13 h
      refine g_aload_n hF 0 rfl rfl dX9_readWord_106 ?_
      refine g_get_i hF fl_RX9_68 q0 dX9_readWord_107 ?_
      refine g_aload_n hF 0 rfl rfl dX9_readWord_110 ?_
      refine g_get_i hF fl_RX9_155 q0 dX9_readWord_111 ?_
      refine g_isub hF dX9_readWord_114 ?_
      refine g_bipush (v := (8 : Int32)) hF rfl dX9_readWord_115 ?_
      refine g_icmp_le (tgt := 130) hF dX9_readWord_117 (by decide) (fun c14 => ?_) (fun c14 => ?_)
      · replace h := gif_t c14 h
        exact gG_sub [0, 1] rfl (t_X9_readWord_130 hF hn hd q0 h hR)
      · replace h := gif_f c14 h
        exact gG_sub [0, 1] rfl (t_X9_readWord_120 hF hn hd q0 h hR)
  · replace h := gif_n c10 h
    refine g_lconst (v := (0 : Int64)) hF rfl dX9_readWord_7 ?_
    cases h
    exact g_ret_l hF rfl dX9_readWord_8 hR (Nat.zero_le _) (Nat.zero_le _)
theorem c_X9_readWord {d : Nat} {T : gT} {M : gM} {m_a0 : Nat} {a0 : Nat} {r : Int64 × gM} (hd : 3 ≤ d) (q0 : T[a0]? = some (9, m_a0)) (h : f_X9_readWord T M a0 = some (r)) : gRet d yX9_readWord cX9_readWord 3 (some .long) 0 0 [.ref a0] T M (gSame T (some (.long r.1)) r.2) := by
  refine gRet_of (own := RX9) (by decide) rfl (Nat.le_of_ble_eq_true rfl) (fun Z ad0 hn h0 hF => ?_)
  exact t_X9_readWord hF hn hd q0 h ⟨rfl, rfl, rfl, rfl⟩
theorem t_X9_placeOf_B3 {Z : gZ} {d mc ms : Nat} {Acc : Option Value → (Nat → Nat) → gT → gM → Prop} {AccX : Nat → (Nat → Nat) → gT → gM → Prop} {ad : Nat → Nat} {T : gT} {M : gM} {m_a2 : Nat} {j0 : Int64} {a2 : Nat} {i3 : Int32} {i4 : Int32} {o : (Int32) ⊕ (Int32)} (hF : gFix Z cX9_placeOf RX9 "placeOf" (some .int) d mc ms Acc AccX) (hn : Z.2.2.2.2.2.1 = 5) (hd : 1 ≤ d) (q2 : T[a2]? = some (12, m_a2)) (h : f_X9_placeOf_B3 T M j0 a2 i3 i4 = some o) (hR : ∀ r9, o = .inl r9 → Acc (some (.int r9)) ad T M) (hN : ∀ n9, o = .inr n9 → gG Z ad T M 0 0 3 [(0, .long j0), (2, .ref a2), (3, .int i3), (4, .int n9)] []) : gG Z ad T M 0 0 3 [(0, .long j0), (2, .ref a2), (3, .int i3), (4, .int i4)] [] := by
  unfold f_X9_placeOf_B3 at h
  refine g_iload hF 3 rfl dX9_placeOf_3 ?_
  refine g_iload_n hF 2 rfl rfl dX9_placeOf_5 ?_
  refine g_icmp_ge (tgt := 27) hF dX9_placeOf_6 (by decide) (fun c1 => ?_) (fun c1 => ?_)
  · replace h := gif_t c1 h
    refine g_iconst (v := (-1 : Int32)) hF rfl dX9_placeOf_27 ?_
    cases h
    exact g_ret_i hF rfl rfl dX9_placeOf_28 (hR _ rfl) (Nat.zero_le _) (Nat.zero_le _)
  · replace h := gif_f c1 h
    refine g_aload_n hF 1 rfl rfl dX9_placeOf_9 ?_
    refine g_iload hF 3 rfl dX9_placeOf_10 ?_
    obtain ⟨v2, h2, h⟩ := gbnd h
    obtain ⟨i2h, e2v⟩ := aldl_sp q2 h2
    refine g_lald hF q2 i2h dX9_placeOf_12 ?_
    rw [← e2v]
    refine g_lload_n hF 0 rfl rfl dX9_placeOf_13 ?_
    refine g_lcmp hF dX9_placeOf_14 ?_
    refine g_if_ne (tgt := 21) hF dX9_placeOf_15 (by decide) (fun c3 => ?_) (fun c3 => ?_)
    · replace h := gif_t c3 h
      refine g_iinc (n := 1) (v := (i4 + (1 : Int32))) (ls' := [(4, .int (i4 + (1 : Int32))), (0, .long j0), (2, .ref a2), (3, .int i3)]) hF 3 rfl rfl (by rw [hn]; decide) rfl dX9_placeOf_21 ?_
      refine g_goto (tgt := 3) hF dX9_placeOf_24 (by decide) ?_
      exact gG_sub [1, 2, 3, 0] rfl (hN _ (Option.some.inj h).symm)
    · replace h := gif_n c3 h
      refine g_iload hF 3 rfl dX9_placeOf_18 ?_
      cases h
      exact g_ret_i hF rfl rfl dX9_placeOf_20 (hR _ rfl) (Nat.zero_le _) (Nat.zero_le _)
theorem t_X9_placeOf_L3 {Z : gZ} {d mc ms : Nat} {Acc : Option Value → (Nat → Nat) → gT → gM → Prop} {AccX : Nat → (Nat → Nat) → gT → gM → Prop} {ad : Nat → Nat} {T : gT} {M : gM} {m_a2 : Nat} {j0 : Int64} {a2 : Nat} {i3 : Int32} {i4 : Int32} {o : Int32} (hF : gFix Z cX9_placeOf RX9 "placeOf" (some .int) d mc ms Acc AccX) (hn : Z.2.2.2.2.2.1 = 5) (hd : 1 ≤ d) (q2 : T[a2]? = some (12, m_a2)) (h : gloop (fun x => f_X9_placeOf_B3 T M j0 a2 i3 x) gFU i4 = some o) (hR : Acc (some (.int o)) ad T M) : gG Z ad T M 0 0 3 [(0, .long j0), (2, .ref a2), (3, .int i3), (4, .int i4)] [] := by
  refine gloop_ind (P := fun x0 : Int32 => gG Z ad T M 0 0 3 [(0, .long j0), (2, .ref a2), (3, .int i3), (4, .int x0)] []) (e := o) (fun x0 y hy hl hr => ?_) gFU i4 h
  exact t_X9_placeOf_B3 hF hn hd q2 hy (fun r9 q9 => by rw [hl _ q9]; exact hR) (fun n9 q9 => hr n9 q9)
theorem t_X9_placeOf {Z : gZ} {d mc ms : Nat} {Acc : Option Value → (Nat → Nat) → gT → gM → Prop} {AccX : Nat → (Nat → Nat) → gT → gM → Prop} {ad : Nat → Nat} {T : gT} {M : gM} {m_a2 : Nat} {j0 : Int64} {a2 : Nat} {i3 : Int32} {o : Int32} (hF : gFix Z cX9_placeOf RX9 "placeOf" (some .int) d mc ms Acc AccX) (hn : Z.2.2.2.2.2.1 = 5) (hd : 1 ≤ d) (q2 : T[a2]? = some (12, m_a2)) (h : f_X9_placeOf T M j0 a2 i3 = some o) (hR : Acc (some (.int o)) ad T M) : gG Z ad T M 0 0 0 [(0, .long j0), (2, .ref a2), (3, .int i3)] [] := by
  unfold f_X9_placeOf at h
  refine g_iconst (v := (0 : Int32)) hF rfl dX9_placeOf_0 ?_
  refine g_istore (ls' := [(4, .int (0 : Int32)), (0, .long j0), (2, .ref a2), (3, .int i3)]) hF (by rw [hn]; decide) rfl dX9_placeOf_1 ?_
  obtain ⟨x4, h4, h⟩ := gbnd h
  cases h
  exact gG_sub [1, 2, 3, 0] rfl (t_X9_placeOf_L3 hF hn hd q2 h4 hR)
theorem c_X9_placeOf {d : Nat} {T : gT} {M : gM} {m_a2 : Nat} {j0 : Int64} {a2 : Nat} {i3 : Int32} {r : Int32} (hd : 1 ≤ d) (q2 : T[a2]? = some (12, m_a2)) (h : f_X9_placeOf T M j0 a2 i3 = some (r)) : gRet d yX9_placeOf cX9_placeOf 5 (some .int) 0 0 [.long j0, .ref a2, .int i3] T M (gSame T (some (.int r)) M) := by
  refine gRet_of (own := RX9) (by decide) rfl (Nat.le_of_ble_eq_true rfl) (fun Z ad0 hn h0 hF => ?_)
  exact t_X9_placeOf hF hn hd q2 h ⟨rfl, rfl, rfl, rfl⟩
theorem t_X9_readKnown_32 {Z : gZ} {d mc ms : Nat} {Acc : Option Value → (Nat → Nat) → gT → gM → Prop} {AccX : Nat → (Nat → Nat) → gT → gM → Prop} {ad : Nat → Nat} {T : gT} {M : gM} {m_a0 : Nat} {a0 : Nat} {i3 : Int32} {o : Int32 × gM} (hF : gFix Z cX9_readKnown RX9 "readKnown" (some .int) d mc ms Acc AccX) (hn : Z.2.2.2.2.2.1 = 4) (hd : 4 ≤ d) (q0 : T[a0]? = some (9, m_a0)) (h : f_X9_readKnown_32 T M a0 i3 = some o) (hR : Acc (some (.int o.1)) ad T o.2) : gG Z ad T M 0 0 32 [(0, .ref a0), (3, .int i3)] [] := by
  unfold f_X9_readKnown_32 at h
  refine g_aload_n hF 0 rfl rfl dX9_readKnown_32 ?_
  obtain ⟨x1, h1, h⟩ := gbnd h
  refine g_callV hF my_X9_isGood kw_1195 kw_1197 kw_66 gC_9.1 (by decide) q0 (c_X9_isGood (d := d - 1) (by omega) q0 h1) (by omega) (Nat.zero_le _) (Nat.zero_le _) rfl rfl (Nat.le_of_ble_eq_true rfl) dX9_readKnown_33 (g_sameS ?_)
  refine g_if_eq (tgt := 43) hF dX9_readKnown_36 (by decide) (fun c2 => ?_) (fun c2 => ?_)
  · replace h := gif_t c2 h
    refine g_iconst (v := (0 : Int32)) hF rfl dX9_readKnown_43 ?_
    cases h
    exact g_ret_i hF rfl rfl dX9_readKnown_44 hR (Nat.zero_le _) (Nat.zero_le _)
  · replace h := gif_f c2 h
    refine g_iload_n hF 1 rfl rfl dX9_readKnown_39 ?_
    refine g_goto (tgt := 44) hF dX9_readKnown_40 (by decide) ?_
    cases h
    exact g_ret_i hF rfl rfl dX9_readKnown_44 hR (Nat.zero_le _) (Nat.zero_le _)
theorem t_X9_readKnown {Z : gZ} {d mc ms : Nat} {Acc : Option Value → (Nat → Nat) → gT → gM → Prop} {AccX : Nat → (Nat → Nat) → gT → gM → Prop} {ad : Nat → Nat} {T : gT} {M : gM} {m_a0 m_a1 : Nat} {a0 : Nat} {a1 : Nat} {i2 : Int32} {o : Int32 × gM} (hF : gFix Z cX9_readKnown RX9 "readKnown" (some .int) d mc ms Acc AccX) (hn : Z.2.2.2.2.2.1 = 4) (hd : 4 ≤ d) (q0 : T[a0]? = some (9, m_a0)) (q1 : T[a1]? = some (12, m_a1)) (h : f_X9_readKnown T M a0 a1 i2 = some o) (hR : Acc (some (.int o.1)) ad T o.2) : gG Z ad T M 0 0 0 [(0, .ref a0), (1, .ref a1), (2, .int i2)] [] := by
  unfold f_X9_readKnown at h
  refine g_aload_n hF 0 rfl rfl dX9_readKnown_0 ?_
  obtain ⟨x3, h3, h⟩ := gbnd h
  refine g_callV hF my_X9_readWord kw_1226 kw_1228 kw_73 gC_9.1 (by decide) q0 (c_X9_readWord (d := d - 1) (by omega) q0 h3) (by omega) (Nat.zero_le _) (Nat.zero_le _) rfl rfl (Nat.le_of_ble_eq_true rfl) dX9_readKnown_1 (g_sameS ?_)
  refine g_aload_n hF 1 rfl rfl dX9_readKnown_4 ?_
  refine g_iload_n hF 2 rfl rfl dX9_readKnown_5 ?_
  obtain ⟨x4, h4, h⟩ := gbnd h
  refine g_callS hF my_X9_placeOf kw_1236 kw_1237 (c_X9_placeOf (d := d - 1) (by omega) q1 h4) (by omega) (Nat.zero_le _) (Nat.zero_le _) rfl rfl (Nat.le_of_ble_eq_true rfl) dX9_readKnown_6 (g_sameS ?_)
  refine g_istore_n (ls' := [(3, .int x4), (0, .ref a0), (1, .ref a1), (2, .int i2)]) hF rfl (by rw [hn]; decide) rfl dX9_readKnown_9 ?_
  refine g_aload_n hF 1 rfl rfl dX9_readKnown_10 ?_
  obtain ⟨x5, h5, h⟩ := gbnd h
  refine g_callV hF my_X9_isGood kw_1195 kw_1197 kw_66 gC_9.1 (by decide) q0 (c_X9_isGood (d := d - 1) (by omega) q0 h5) (by omega) (Nat.zero_le _) (Nat.zero_le _) rfl rfl (Nat.le_of_ble_eq_true rfl) dX9_readKnown_11 (g_sameS ?_)
  refine g_if_eq (tgt := 32) hF dX9_readKnown_14 (by decide) (fun c6 => ?_) (fun c6 => ?_)
  · replace h := gif_t c6 h
    exact gG_sub [1, 0] rfl (t_X9_readKnown_32 hF hn hd q0 h hR)
  · replace h := gif_f c6 h
    refine g_iload_n hF 0 rfl rfl dX9_readKnown_17 ?_
    refine g_iconst (v := (-1 : Int32)) hF rfl dX9_readKnown_18 ?_
    refine g_icmp_ne (tgt := 32) hF dX9_readKnown_19 (by decide) (fun c7 => ?_) (fun c7 => ?_)
    · replace h := gif_t c7 h
      exact gG_sub [1, 0] rfl (t_X9_readKnown_32 hF hn hd q0 h hR)
    · replace h := gif_n c7 h
      refine g_aload_n hF 1 rfl rfl dX9_readKnown_22 ?_
      refine g_bipush (v := (-4 : Int32)) hF rfl dX9_readKnown_23 ?_
      refine g_aload_n hF 1 rfl rfl dX9_readKnown_25 ?_
      refine g_get_i hF fl_RX9_155 q0 dX9_readKnown_26 ?_
      obtain ⟨x8, h8, h⟩ := gbnd h
      refine g_callV hF my_X9_report kw_1209 kw_1211 kw_69 gC_9.1 (by decide) q0 (c_X9_report (d := d - 1) (by omega) q0 h8) (by omega) (Nat.zero_le _) (Nat.zero_le _) rfl rfl (Nat.le_of_ble_eq_true rfl) dX9_readKnown_29 (g_sameN ?_)
      exact gG_sub [1, 0] rfl (t_X9_readKnown_32 hF hn hd q0 h hR)
theorem c_X9_readKnown {d : Nat} {T : gT} {M : gM} {m_a0 m_a1 : Nat} {a0 : Nat} {a1 : Nat} {i2 : Int32} {r : Int32 × gM} (hd : 4 ≤ d) (q0 : T[a0]? = some (9, m_a0)) (q1 : T[a1]? = some (12, m_a1)) (h : f_X9_readKnown T M a0 a1 i2 = some (r)) : gRet d yX9_readKnown cX9_readKnown 4 (some .int) 0 0 [.ref a0, .ref a1, .int i2] T M (gSame T (some (.int r.1)) r.2) := by
  refine gRet_of (own := RX9) (by decide) rfl (Nat.le_of_ble_eq_true rfl) (fun Z ad0 hn h0 hF => ?_)
  exact t_X9_readKnown hF hn hd q0 q1 h ⟨rfl, rfl, rfl, rfl⟩
theorem t_X9_isFresh {Z : gZ} {d mc ms : Nat} {Acc : Option Value → (Nat → Nat) → gT → gM → Prop} {AccX : Nat → (Nat → Nat) → gT → gM → Prop} {ad : Nat → Nat} {T : gT} {M : gM} {m_a0 m_a1 : Nat} {a0 : Nat} {a1 : Nat} {i2 : Int32} {j3 : Int64} {o : Int32 × gM} (hF : gFix Z cX9_isFresh RX9 "isFresh" (some .boolean) d mc ms Acc AccX) (hn : Z.2.2.2.2.2.1 = 5) (hd : 2 ≤ d) (q0 : T[a0]? = some (9, m_a0)) (q1 : T[a1]? = some (12, m_a1)) (h : f_X9_isFresh T M a0 a1 i2 j3 = some o) (hR : Acc (some (.int o.1)) ad T o.2) : gG Z ad T M 0 0 0 [(0, .ref a0), (1, .ref a1), (2, .int i2), (3, .long j3)] [] := by
  unfold f_X9_isFresh at h
  refine g_aload_n hF 0 rfl rfl dX9_isFresh_0 ?_
  obtain ⟨x1, h1, h⟩ := gbnd h
  refine g_callV hF my_X9_isGood kw_1195 kw_1197 kw_66 gC_9.1 (by decide) q0 (c_X9_isGood (d := d - 1) (by omega) q0 h1) (by omega) (Nat.zero_le _) (Nat.zero_le _) rfl rfl (Nat.le_of_ble_eq_true rfl) dX9_isFresh_1 (g_sameS ?_)
  refine g_if_eq (tgt := 27) hF dX9_isFresh_4 (by decide) (fun c2 => ?_) (fun c2 => ?_)
  · replace h := gif_t c2 h
    refine g_aload_n hF 0 rfl rfl dX9_isFresh_27 ?_
    obtain ⟨x3, h3, h⟩ := gbnd h
    refine g_callV hF my_X9_isGood kw_1195 kw_1197 kw_66 gC_9.1 (by decide) q0 (c_X9_isGood (d := d - 1) (by omega) q0 h3) (by omega) (Nat.zero_le _) (Nat.zero_le _) rfl rfl (Nat.le_of_ble_eq_true rfl) dX9_isFresh_28 (g_sameS ?_)
    obtain ⟨_, h4, h⟩ := gbnd h
    cases h
    exact g_ret_i hF rfl (gbool (chk_sp h4)) dX9_isFresh_31 hR (Nat.zero_le _) (Nat.zero_le _)
  · replace h := gif_f c2 h
    refine g_lload_n hF 3 rfl rfl dX9_isFresh_7 ?_
    refine g_aload_n hF 1 rfl rfl dX9_isFresh_8 ?_
    refine g_iload_n hF 2 rfl rfl dX9_isFresh_9 ?_
    obtain ⟨x5, h5, h⟩ := gbnd h
    refine g_callS hF my_X9_placeOf kw_1236 kw_1237 (c_X9_placeOf (d := d - 1) (by omega) q1 h5) (by omega) (Nat.zero_le _) (Nat.zero_le _) rfl rfl (Nat.le_of_ble_eq_true rfl) dX9_isFresh_10 (g_sameS ?_)
    refine g_iconst (v := (-1 : Int32)) hF rfl dX9_isFresh_13 ?_
    refine g_icmp_eq (tgt := 27) hF dX9_isFresh_14 (by decide) (fun c6 => ?_) (fun c6 => ?_)
    · replace h := gif_t c6 h
      refine g_aload_n hF 0 rfl rfl dX9_isFresh_27 ?_
      obtain ⟨x7, h7, h⟩ := gbnd h
      refine g_callV hF my_X9_isGood kw_1195 kw_1197 kw_66 gC_9.1 (by decide) q0 (c_X9_isGood (d := d - 1) (by omega) q0 h7) (by omega) (Nat.zero_le _) (Nat.zero_le _) rfl rfl (Nat.le_of_ble_eq_true rfl) dX9_isFresh_28 (g_sameS ?_)
      obtain ⟨_, h8, h⟩ := gbnd h
      cases h
      exact g_ret_i hF rfl (gbool (chk_sp h8)) dX9_isFresh_31 hR (Nat.zero_le _) (Nat.zero_le _)
    · replace h := gif_f c6 h
      refine g_aload_n hF 0 rfl rfl dX9_isFresh_17 ?_
      refine g_bipush (v := (-5 : Int32)) hF rfl dX9_isFresh_18 ?_
      refine g_aload_n hF 0 rfl rfl dX9_isFresh_20 ?_
      refine g_get_i hF fl_RX9_155 q0 dX9_isFresh_21 ?_
      obtain ⟨x9, h9, h⟩ := gbnd h
      refine g_callV hF my_X9_report kw_1209 kw_1211 kw_69 gC_9.1 (by decide) q0 (c_X9_report (d := d - 1) (by omega) q0 h9) (by omega) (Nat.zero_le _) (Nat.zero_le _) rfl rfl (Nat.le_of_ble_eq_true rfl) dX9_isFresh_24 (g_sameN ?_)
      refine g_aload_n hF 0 rfl rfl dX9_isFresh_27 ?_
      obtain ⟨x10, h10, h⟩ := gbnd h
      refine g_callV hF my_X9_isGood kw_1195 kw_1197 kw_66 gC_9.1 (by decide) q0 (c_X9_isGood (d := d - 1) (by omega) q0 h10) (by omega) (Nat.zero_le _) (Nat.zero_le _) rfl rfl (Nat.le_of_ble_eq_true rfl) dX9_isFresh_28 (g_sameS ?_)
      obtain ⟨_, h11, h⟩ := gbnd h
      cases h
      exact g_ret_i hF rfl (gbool (chk_sp h11)) dX9_isFresh_31 hR (Nat.zero_le _) (Nat.zero_le _)
theorem c_X9_isFresh {d : Nat} {T : gT} {M : gM} {m_a0 m_a1 : Nat} {a0 : Nat} {a1 : Nat} {i2 : Int32} {j3 : Int64} {r : Int32 × gM} (hd : 2 ≤ d) (q0 : T[a0]? = some (9, m_a0)) (q1 : T[a1]? = some (12, m_a1)) (h : f_X9_isFresh T M a0 a1 i2 j3 = some (r)) : gRet d yX9_isFresh cX9_isFresh 5 (some .boolean) 0 0 [.ref a0, .ref a1, .int i2, .long j3] T M (gSame T (some (.int r.1)) r.2) := by
  refine gRet_of (own := RX9) (by decide) rfl (Nat.le_of_ble_eq_true rfl) (fun Z ad0 hn h0 hF => ?_)
  exact t_X9_isFresh hF hn hd q0 q1 h ⟨rfl, rfl, rfl, rfl⟩
theorem t_X9_readName_18 {Z : gZ} {d mc ms : Nat} {Acc : Option Value → (Nat → Nat) → gT → gM → Prop} {AccX : Nat → (Nat → Nat) → gT → gM → Prop} {ad : Nat → Nat} {T : gT} {M : gM} {m_a0 : Nat} {a0 : Nat} {o : gM} (hF : gFix Z cX9_readName RX9 "readName" none d mc ms Acc AccX) (hn : Z.2.2.2.2.2.1 = 4) (hd : 4 ≤ d) (q0 : T[a0]? = some (9, m_a0)) (h : f_X9_readName_18 T M a0 = some o) (hR : Acc none ad T o) : gG Z ad T M 0 0 18 [(0, .ref a0)] [] := by
  unfold f_X9_readName_18 at h
  refine g_aload_n hF 0 rfl rfl dX9_readName_18 ?_
  obtain ⟨x1, h1, h⟩ := gbnd h
  refine g_callV hF my_X9_readWord kw_1226 kw_1228 kw_73 gC_9.1 (by decide) q0 (c_X9_readWord (d := d - 1) (by omega) q0 h1) (by omega) (Nat.zero_le _) (Nat.zero_le _) rfl rfl (Nat.le_of_ble_eq_true rfl) dX9_readName_19 (g_sameS ?_)
  refine g_lstore_n (ls' := [(2, .long x1.1), (0, .ref a0)]) hF rfl (by rw [hn]; decide) rfl dX9_readName_22 ?_
  refine g_aload_n hF 1 rfl rfl dX9_readName_23 ?_
  refine g_aload_n hF 1 rfl rfl dX9_readName_24 ?_
  obtain ⟨b2, h2, h⟩ := gbnd h
  obtain ⟨g2, l2, q_b2⟩ := ldr_sp h2
  refine g_get_r hF g2 fl_RX9_32 q0 dX9_readName_25 ?_
  refine g_aload_n hF 1 rfl rfl dX9_readName_28 ?_
  obtain ⟨b3, h3, h⟩ := gbnd h
  obtain ⟨g3, l3, q_b3⟩ := ldr_sp h3
  refine g_get_r hF g3 fl_RX9_20 q0 dX9_readName_29 ?_
  refine g_iconst (v := (2 : Int32)) hF rfl dX9_readName_32 ?_
  obtain ⟨v4, h4, h⟩ := gbnd h
  obtain ⟨i4h, e4v⟩ := ald_sp q_b3 h4
  refine g_iald hF q_b3 i4h dX9_readName_33 ?_
  rw [← e4v]
  refine g_lload_n hF 0 rfl rfl dX9_readName_34 ?_
  obtain ⟨x5, h5, h⟩ := gbnd h
  refine g_callV hF my_X9_isFresh kw_1232 kw_1234 kw_74 gC_9.1 (by decide) q0 (c_X9_isFresh (d := d - 1) (by omega) q0 q_b2 h5) (by omega) (Nat.zero_le _) (Nat.zero_le _) rfl rfl (Nat.le_of_ble_eq_true rfl) dX9_readName_35 (g_sameS ?_)
  refine g_if_ne (tgt := 42) hF dX9_readName_38 (by decide) (fun c6 => ?_) (fun c6 => ?_)
  · replace h := gif_t c6 h
    refine g_aload_n hF 1 rfl rfl dX9_readName_42 ?_
    obtain ⟨b7, h7, h⟩ := gbnd h
    obtain ⟨g7, l7, q_b7⟩ := ldr_sp h7
    refine g_get_r hF g7 fl_RX9_32 q0 dX9_readName_43 ?_
    refine g_aload_n hF 1 rfl rfl dX9_readName_46 ?_
    obtain ⟨b8, h8, h⟩ := gbnd h
    obtain ⟨g8, l8, q_b8⟩ := ldr_sp h8
    refine g_get_r hF g8 fl_RX9_20 q0 dX9_readName_47 ?_
    refine g_iconst (v := (2 : Int32)) hF rfl dX9_readName_50 ?_
    obtain ⟨v9, h9, h⟩ := gbnd h
    obtain ⟨i9h, e9v⟩ := ald_sp q_b8 h9
    refine g_iald hF q_b8 i9h dX9_readName_51 ?_
    rw [← e9v]
    refine g_lload_n hF 0 rfl rfl dX9_readName_52 ?_
    obtain ⟨M10, h10, h⟩ := gbnd h
    obtain ⟨i10h, e10v⟩ := astl_sp q_b7 h10
    refine g_last hF q_b7 i10h dX9_readName_53 ?_
    rw [← e10v]
    refine g_aload_n hF 1 rfl rfl dX9_readName_54 ?_
    obtain ⟨b11, h11, h⟩ := gbnd h
    obtain ⟨g11, l11, q_b11⟩ := ldr_sp h11
    refine g_get_r hF g11 fl_RX9_20 q0 dX9_readName_55 ?_
    refine g_iconst (v := (2 : Int32)) hF rfl dX9_readName_58 ?_
    refine g_dup2 hF rfl rfl dX9_readName_59 ?_
    obtain ⟨v12, h12, h⟩ := gbnd h
    obtain ⟨i12h, e12v⟩ := ald_sp q_b11 h12
    refine g_iald hF q_b11 i12h dX9_readName_60 ?_
    rw [← e12v]
    refine g_iconst (v := (1 : Int32)) hF rfl dX9_readName_61 ?_
    refine g_iadd hF dX9_readName_62 ?_
    obtain ⟨M13, h13, h⟩ := gbnd h
    obtain ⟨i13h, e13v⟩ := ast_sp q_b11 h13
    refine g_iast hF q_b11 i13h dX9_readName_63 ?_
    rw [← e13v]
    cases h
    exact g_ret_v hF rfl dX9_readName_64 hR (Nat.zero_le _) (Nat.zero_le _)
  · replace h := gif_n c6 h
    cases h
    exact g_ret_v hF rfl dX9_readName_41 hR (Nat.zero_le _) (Nat.zero_le _)
theorem t_X9_readName {Z : gZ} {d mc ms : Nat} {Acc : Option Value → (Nat → Nat) → gT → gM → Prop} {AccX : Nat → (Nat → Nat) → gT → gM → Prop} {ad : Nat → Nat} {T : gT} {M : gM} {m_a0 : Nat} {a0 : Nat} {i1 : Int32} {o : gM} (hF : gFix Z cX9_readName RX9 "readName" none d mc ms Acc AccX) (hn : Z.2.2.2.2.2.1 = 4) (hd : 4 ≤ d) (q0 : T[a0]? = some (9, m_a0)) (h : f_X9_readName T M a0 i1 = some o) (hR : Acc none ad T o) : gG Z ad T M 0 0 0 [(0, .ref a0), (1, .int i1)] [] := by
  unfold f_X9_readName at h
  refine g_aload_n hF 0 rfl rfl dX9_readName_0 ?_
  obtain ⟨b14, h14, h⟩ := gbnd h
  obtain ⟨g14, l14, q_b14⟩ := ldr_sp h14
  refine g_get_r hF g14 fl_RX9_20 q0 dX9_readName_1 ?_
  refine g_iconst (v := (2 : Int32)) hF rfl dX9_readName_4 ?_
  obtain ⟨v15, h15, h⟩ := gbnd h
  obtain ⟨i15h, e15v⟩ := ald_sp q_b14 h15
  refine g_iald hF q_b14 i15h dX9_readName_5 ?_
  rw [← e15v]
  refine g_bipush (v := (12 : Int32)) hF rfl dX9_readName_6 ?_
  refine g_icmp_ne (tgt := 18) hF dX9_readName_8 (by decide) (fun c16 => ?_) (fun c16 => ?_)
  · replace h := gif_t c16 h
    exact gG_sub [0] rfl (t_X9_readName_18 hF hn hd q0 h hR)
  · replace h := gif_n c16 h
    refine g_aload_n hF 0 rfl rfl dX9_readName_11 ?_
    refine g_bipush (v := (-6 : Int32)) hF rfl dX9_readName_12 ?_
    refine g_iload_n hF 1 rfl rfl dX9_readName_14 ?_
    obtain ⟨x17, h17, h⟩ := gbnd h
    refine g_callV hF my_X9_report kw_1209 kw_1211 kw_69 gC_9.1 (by decide) q0 (c_X9_report (d := d - 1) (by omega) q0 h17) (by omega) (Nat.zero_le _) (Nat.zero_le _) rfl rfl (Nat.le_of_ble_eq_true rfl) dX9_readName_15 (g_sameN ?_)
    exact gG_sub [0] rfl (t_X9_readName_18 hF hn hd q0 h hR)
theorem c_X9_readName {d : Nat} {T : gT} {M : gM} {m_a0 : Nat} {a0 : Nat} {i1 : Int32} {r : gM} (hd : 4 ≤ d) (q0 : T[a0]? = some (9, m_a0)) (h : f_X9_readName T M a0 i1 = some (r)) : gRet d yX9_readName cX9_readName 4 none 0 0 [.ref a0, .int i1] T M (gSame T none r) := by
  refine gRet_of (own := RX9) (by decide) rfl (Nat.le_of_ble_eq_true rfl) (fun Z ad0 hn h0 hF => ?_)
  exact t_X9_readName hF hn hd q0 h ⟨rfl, rfl, rfl, rfl⟩
theorem t_X9_readLibrary_B128 {Z : gZ} {d mc ms : Nat} {Acc : Option Value → (Nat → Nat) → gT → gM → Prop} {AccX : Nat → (Nat → Nat) → gT → gM → Prop} {ad : Nat → Nat} {T : gT} {M : gM} {m_a0 : Nat} {a0 : Nat} {i5 : Int32} {i6 : Int32} {o : (gM) ⊕ (Int32 × gM)} (hF : gFix Z cX9_readLibrary RX9 "readLibrary" none d mc ms Acc AccX) (hn : Z.2.2.2.2.2.1 = 7) (hd : 5 ≤ d) (q0 : T[a0]? = some (9, m_a0)) (h : f_X9_readLibrary_B128 T M a0 i5 i6 = some o) (hE : ∀ e9, o = .inl e9 → gG Z ad T e9 0 0 155 [(0, .ref a0)] []) (hN : ∀ n9, o = .inr n9 → gG Z ad T n9.2 0 0 128 [(0, .ref a0), (5, .int i5), (6, .int n9.1)] []) : gG Z ad T M 0 0 128 [(0, .ref a0), (5, .int i5), (6, .int i6)] [] := by
  unfold f_X9_readLibrary_B128 at h
  refine g_iload hF 2 rfl dX9_readLibrary_128 ?_
  refine g_bipush (v := (12 : Int32)) hF rfl dX9_readLibrary_130 ?_
  refine g_icmp_ge (tgt := 155) hF dX9_readLibrary_132 (by decide) (fun c1 => ?_) (fun c1 => ?_)
  · replace h := gif_t c1 h
    exact gG_sub [0] rfl (hE _ (Option.some.inj h).symm)
  · replace h := gif_f c1 h
    refine g_aload_n hF 0 rfl rfl dX9_readLibrary_135 ?_
    obtain ⟨b2, h2, h⟩ := gbnd h
    obtain ⟨g2, l2, q_b2⟩ := ldr_sp h2
    refine g_get_r hF g2 fl_RX9_20 q0 dX9_readLibrary_136 ?_
    refine g_iload hF 1 rfl dX9_readLibrary_139 ?_
    refine g_bipush (v := (12 : Int32)) hF rfl dX9_readLibrary_141 ?_
    refine g_iadd hF dX9_readLibrary_143 ?_
    refine g_iload hF 2 rfl dX9_readLibrary_144 ?_
    refine g_iadd hF dX9_readLibrary_146 ?_
    refine g_iconst (v := (-1 : Int32)) hF rfl dX9_readLibrary_147 ?_
    obtain ⟨M3, h3, h⟩ := gbnd h
    obtain ⟨i3h, e3v⟩ := ast_sp q_b2 h3
    refine g_iast hF q_b2 i3h dX9_readLibrary_148 ?_
    rw [← e3v]
    refine g_iinc (n := 1) (v := (i6 + (1 : Int32))) (ls' := [(6, .int (i6 + (1 : Int32))), (0, .ref a0), (5, .int i5)]) hF 2 rfl rfl (by rw [hn]; decide) rfl dX9_readLibrary_149 ?_
    refine g_goto (tgt := 128) hF dX9_readLibrary_152 (by decide) ?_
    exact gG_sub [1, 2, 0] rfl (hN _ (Option.some.inj h).symm)
theorem t_X9_readLibrary_L128 {Z : gZ} {d mc ms : Nat} {Acc : Option Value → (Nat → Nat) → gT → gM → Prop} {AccX : Nat → (Nat → Nat) → gT → gM → Prop} {ad : Nat → Nat} {T : gT} {M : gM} {m_a0 : Nat} {a0 : Nat} {i5 : Int32} {i6 : Int32} {o : gM} (hF : gFix Z cX9_readLibrary RX9 "readLibrary" none d mc ms Acc AccX) (hn : Z.2.2.2.2.2.1 = 7) (hd : 5 ≤ d) (q0 : T[a0]? = some (9, m_a0)) (h : gloop (fun x => f_X9_readLibrary_B128 T x.2 a0 i5 x.1) gFU (i6, M) = some o) (hE : gG Z ad T o 0 0 155 [(0, .ref a0)] []) : gG Z ad T M 0 0 128 [(0, .ref a0), (5, .int i5), (6, .int i6)] [] := by
  refine gloop_ind (P := fun x0 : Int32 × gM => gG Z ad T x0.2 0 0 128 [(0, .ref a0), (5, .int i5), (6, .int x0.1)] []) (e := o) (fun x0 y hy hl hr => ?_) gFU (i6, M) h
  exact t_X9_readLibrary_B128 hF hn hd q0 hy (fun e9 q9 => by rw [hl _ q9]; exact hE) (fun n9 q9 => hr n9 q9)
theorem t_X9_readLibrary_111 {Z : gZ} {d mc ms : Nat} {Acc : Option Value → (Nat → Nat) → gT → gM → Prop} {AccX : Nat → (Nat → Nat) → gT → gM → Prop} {ad : Nat → Nat} {T : gT} {M : gM} {m_a0 m_b0 : Nat} {a0 : Nat} {i4 : Int32} {i5 : Int32} {b0 : Nat} {k1 : Int32} {k2 : Int32} {o : gM} (hF : gFix Z cX9_readLibrary RX9 "readLibrary" none d mc ms Acc AccX) (hn : Z.2.2.2.2.2.1 = 7) (hd : 5 ≤ d) (q0 : T[a0]? = some (9, m_a0)) (p0 : T[b0]? = some (11, m_b0)) (h : f_X9_readLibrary_111 T M a0 i4 i5 b0 k1 k2 = some o) (hR : Acc none ad T o) : gG Z ad T M 0 0 111 [(0, .ref a0), (4, .int i4), (5, .int i5)] [.int k2, .int k1, .ref b0] := by
  unfold f_X9_readLibrary_111 at h
  obtain ⟨M4, h4, h⟩ := gbnd h
  obtain ⟨i4h, e4v⟩ := ast_sp p0 h4
  refine g_iast hF p0 i4h dX9_readLibrary_111 ?_
  rw [← e4v]
  refine g_aload_n hF 0 rfl rfl dX9_readLibrary_112 ?_
  obtain ⟨b5, h5, h⟩ := gbnd h
  obtain ⟨g5, l5, q_b5⟩ := ldr_sp h5
  refine g_get_r hF g5 fl_RX9_20 q0 dX9_readLibrary_113 ?_
  refine g_iload hF 2 rfl dX9_readLibrary_116 ?_
  refine g_iconst (v := (2 : Int32)) hF rfl dX9_readLibrary_118 ?_
  refine g_iadd hF dX9_readLibrary_119 ?_
  refine g_iload hF 1 rfl dX9_readLibrary_120 ?_
  refine g_iconst (v := (1 : Int32)) hF rfl dX9_readLibrary_122 ?_
  refine g_iadd hF dX9_readLibrary_123 ?_
  obtain ⟨M6, h6, h⟩ := gbnd h
  obtain ⟨i6h, e6v⟩ := ast_sp q_b5 h6
  refine g_iast hF q_b5 i6h dX9_readLibrary_124 ?_
  rw [← e6v]
  refine g_iconst (v := (0 : Int32)) hF rfl dX9_readLibrary_125 ?_
  refine g_istore (ls' := [(6, .int (0 : Int32)), (0, .ref a0), (4, .int i4), (5, .int i5)]) hF (by rw [hn]; decide) rfl dX9_readLibrary_126 ?_
  obtain ⟨x7, h7, h⟩ := gbnd h
  refine gG_sub [1, 3, 0] rfl (t_X9_readLibrary_L128 hF hn hd q0 h7 ?_)
  refine g_aload_n hF 0 rfl rfl dX9_readLibrary_155 ?_
  obtain ⟨b8, h8, h⟩ := gbnd h
  obtain ⟨g8, l8, q_b8⟩ := ldr_sp h8
  refine g_get_r hF g8 fl_RX9_20 q0 dX9_readLibrary_156 ?_
  refine g_iconst (v := (1 : Int32)) hF rfl dX9_readLibrary_159 ?_
  refine g_dup2 hF rfl rfl dX9_readLibrary_160 ?_
  obtain ⟨v9, h9, h⟩ := gbnd h
  obtain ⟨i9h, e9v⟩ := ald_sp q_b8 h9
  refine g_iald hF q_b8 i9h dX9_readLibrary_161 ?_
  rw [← e9v]
  refine g_iconst (v := (1 : Int32)) hF rfl dX9_readLibrary_162 ?_
  refine g_iadd hF dX9_readLibrary_163 ?_
  obtain ⟨M10, h10, h⟩ := gbnd h
  obtain ⟨i10h, e10v⟩ := ast_sp q_b8 h10
  refine g_iast hF q_b8 i10h dX9_readLibrary_164 ?_
  rw [← e10v]
  refine g_aload_n hF 0 rfl rfl dX9_readLibrary_165 ?_
  obtain ⟨b11, h11, h⟩ := gbnd h
  obtain ⟨g11, l11, q_b11⟩ := ldr_sp h11
  refine g_get_r hF g11 fl_RX9_20 q0 dX9_readLibrary_166 ?_
  refine g_iconst (v := (3 : Int32)) hF rfl dX9_readLibrary_169 ?_
  refine g_aload_n hF 0 rfl rfl dX9_readLibrary_170 ?_
  obtain ⟨b12, h12, h⟩ := gbnd h
  obtain ⟨g12, l12, q_b12⟩ := ldr_sp h12
  refine g_get_r hF g12 fl_RX9_20 q0 dX9_readLibrary_171 ?_
  refine g_iconst (v := (1 : Int32)) hF rfl dX9_readLibrary_174 ?_
  obtain ⟨v13, h13, h⟩ := gbnd h
  obtain ⟨i13h, e13v⟩ := ald_sp q_b12 h13
  refine g_iald hF q_b12 i13h dX9_readLibrary_175 ?_
  rw [← e13v]
  obtain ⟨M14, h14, h⟩ := gbnd h
  obtain ⟨i14h, e14v⟩ := ast_sp q_b11 h14
  refine g_iast hF q_b11 i14h dX9_readLibrary_176 ?_
  rw [← e14v]
  cases h
  exact g_ret_v hF rfl dX9_readLibrary_177 hR (Nat.zero_le _) (Nat.zero_le _)
theorem t_X9_readLibrary_110 {Z : gZ} {d mc ms : Nat} {Acc : Option Value → (Nat → Nat) → gT → gM → Prop} {AccX : Nat → (Nat → Nat) → gT → gM → Prop} {ad : Nat → Nat} {T : gT} {M : gM} {m_a0 m_b0 : Nat} {a0 : Nat} {i4 : Int32} {i5 : Int32} {b0 : Nat} {k1 : Int32} {o : gM} (hF : gFix Z cX9_readLibrary RX9 "readLibrary" none d mc ms Acc AccX) (hn : Z.2.2.2.2.2.1 = 7) (hd : 5 ≤ d) (q0 : T[a0]? = some (9, m_a0)) (p0 : T[b0]? = some (11, m_b0)) (h : f_X9_readLibrary_110 T M a0 i4 i5 b0 k1 = some o) (hR : Acc none ad T o) : gG Z ad T M 0 0 110 [(0, .ref a0), (4, .int i4), (5, .int i5)] [.int k1, .ref b0] := by
  unfold f_X9_readLibrary_110 at h
  refine g_iconst (v := (0 : Int32)) hF rfl dX9_readLibrary_110 ?_
  exact gG_sub [0, 1, 2] rfl (t_X9_readLibrary_111 hF hn hd q0 p0 h hR)
theorem t_X9_readLibrary_18 {Z : gZ} {d mc ms : Nat} {Acc : Option Value → (Nat → Nat) → gT → gM → Prop} {AccX : Nat → (Nat → Nat) → gT → gM → Prop} {ad : Nat → Nat} {T : gT} {M : gM} {m_a0 : Nat} {a0 : Nat} {o : gM} (hF : gFix Z cX9_readLibrary RX9 "readLibrary" none d mc ms Acc AccX) (hn : Z.2.2.2.2.2.1 = 7) (hd : 5 ≤ d) (q0 : T[a0]? = some (9, m_a0)) (h : f_X9_readLibrary_18 T M a0 = some o) (hR : Acc none ad T o) : gG Z ad T M 0 0 18 [(0, .ref a0)] [] := by
  unfold f_X9_readLibrary_18 at h
  refine g_aload_n hF 0 rfl rfl dX9_readLibrary_18 ?_
  obtain ⟨x15, h15, h⟩ := gbnd h
  refine g_callV hF my_X9_readWord kw_1226 kw_1228 kw_73 gC_9.1 (by decide) q0 (c_X9_readWord (d := d - 1) (by omega) q0 h15) (by omega) (Nat.zero_le _) (Nat.zero_le _) rfl rfl (Nat.le_of_ble_eq_true rfl) dX9_readLibrary_19 (g_sameS ?_)
  refine g_lstore_n (ls' := [(2, .long x15.1), (0, .ref a0)]) hF rfl (by rw [hn]; decide) rfl dX9_readLibrary_22 ?_
  refine g_aload_n hF 1 rfl rfl dX9_readLibrary_23 ?_
  refine g_aload_n hF 1 rfl rfl dX9_readLibrary_24 ?_
  obtain ⟨b16, h16, h⟩ := gbnd h
  obtain ⟨g16, l16, q_b16⟩ := ldr_sp h16
  refine g_get_r hF g16 fl_RX9_28 q0 dX9_readLibrary_25 ?_
  refine g_aload_n hF 1 rfl rfl dX9_readLibrary_28 ?_
  obtain ⟨b17, h17, h⟩ := gbnd h
  obtain ⟨g17, l17, q_b17⟩ := ldr_sp h17
  refine g_get_r hF g17 fl_RX9_20 q0 dX9_readLibrary_29 ?_
  refine g_iconst (v := (1 : Int32)) hF rfl dX9_readLibrary_32 ?_
  obtain ⟨v18, h18, h⟩ := gbnd h
  obtain ⟨i18h, e18v⟩ := ald_sp q_b17 h18
  refine g_iald hF q_b17 i18h dX9_readLibrary_33 ?_
  rw [← e18v]
  refine g_lload_n hF 0 rfl rfl dX9_readLibrary_34 ?_
  obtain ⟨x19, h19, h⟩ := gbnd h
  refine g_callV hF my_X9_isFresh kw_1232 kw_1234 kw_74 gC_9.1 (by decide) q0 (c_X9_isFresh (d := d - 1) (by omega) q0 q_b16 h19) (by omega) (Nat.zero_le _) (Nat.zero_le _) rfl rfl (Nat.le_of_ble_eq_true rfl) dX9_readLibrary_35 (g_sameS ?_)
  refine g_if_ne (tgt := 42) hF dX9_readLibrary_38 (by decide) (fun c20 => ?_) (fun c20 => ?_)
  · replace h := gif_t c20 h
    refine g_aload_n hF 1 rfl rfl dX9_readLibrary_42 ?_
    obtain ⟨b21, h21, h⟩ := gbnd h
    obtain ⟨g21, l21, q_b21⟩ := ldr_sp h21
    refine g_get_r hF g21 fl_RX9_20 q0 dX9_readLibrary_43 ?_
    refine g_iconst (v := (1 : Int32)) hF rfl dX9_readLibrary_46 ?_
    obtain ⟨v22, h22, h⟩ := gbnd h
    obtain ⟨i22h, e22v⟩ := ald_sp q_b21 h22
    refine g_iald hF q_b21 i22h dX9_readLibrary_47 ?_
    rw [← e22v]
    refine g_istore (ls' := [(4, .int v22), (2, .long x15.1), (0, .ref a0)]) hF (by rw [hn]; decide) rfl dX9_readLibrary_48 ?_
    refine g_iload hF 0 rfl dX9_readLibrary_50 ?_
    obtain ⟨x23, h23, h⟩ := gbnd h
    refine g_callS hF my_X9_at kw_1244 kw_1245 (c_X9_at (d := d - 1) (by omega)  h23) (by omega) (Nat.zero_le _) (Nat.zero_le _) rfl rfl (Nat.le_of_ble_eq_true rfl) dX9_readLibrary_52 (g_sameS ?_)
    refine g_istore (ls' := [(5, .int x23), (4, .int v22), (2, .long x15.1), (0, .ref a0)]) hF (by rw [hn]; decide) rfl dX9_readLibrary_55 ?_
    refine g_aload_n hF 3 rfl rfl dX9_readLibrary_57 ?_
    obtain ⟨b24, h24, h⟩ := gbnd h
    obtain ⟨g24, l24, q_b24⟩ := ldr_sp h24
    refine g_get_r hF g24 fl_RX9_28 q0 dX9_readLibrary_58 ?_
    refine g_iload hF 1 rfl dX9_readLibrary_61 ?_
    refine g_lload_n hF 2 rfl rfl dX9_readLibrary_63 ?_
    obtain ⟨M25, h25, h⟩ := gbnd h
    obtain ⟨i25h, e25v⟩ := astl_sp q_b24 h25
    refine g_last hF q_b24 i25h dX9_readLibrary_64 ?_
    rw [← e25v]
    refine g_aload_n hF 3 rfl rfl dX9_readLibrary_65 ?_
    obtain ⟨b26, h26, h⟩ := gbnd h
    obtain ⟨g26, l26, q_b26⟩ := ldr_sp h26
    refine g_get_r hF g26 fl_RX9_20 q0 dX9_readLibrary_66 ?_
    refine g_iload hF 0 rfl dX9_readLibrary_69 ?_
    refine g_iconst (v := (0 : Int32)) hF rfl dX9_readLibrary_71 ?_
    refine g_iadd hF dX9_readLibrary_72 ?_
    refine g_aload_n hF 3 rfl rfl dX9_readLibrary_73 ?_
    refine g_iconst (v := (0 : Int32)) hF rfl dX9_readLibrary_74 ?_
    refine g_sipush (v := (999 : Int32)) hF rfl dX9_readLibrary_75 ?_
    obtain ⟨x27, h27, h⟩ := gbnd h
    refine g_callV hF my_X9_number kw_1247 kw_1249 kw_76 gC_9.1 (by decide) q0 (c_X9_number (d := d - 1) (by omega) q0 h27) (by omega) (Nat.zero_le _) (Nat.zero_le _) rfl rfl (Nat.le_of_ble_eq_true rfl) dX9_readLibrary_78 (g_sameS ?_)
    obtain ⟨M28, h28, h⟩ := gbnd h
    obtain ⟨i28h, e28v⟩ := ast_sp q_b26 h28
    refine g_iast hF q_b26 i28h dX9_readLibrary_81 ?_
    rw [← e28v]
    refine g_aload_n hF 3 rfl rfl dX9_readLibrary_82 ?_
    obtain ⟨b29, h29, h⟩ := gbnd h
    obtain ⟨g29, l29, q_b29⟩ := ldr_sp h29
    refine g_get_r hF g29 fl_RX9_20 q0 dX9_readLibrary_83 ?_
    refine g_iload hF 0 rfl dX9_readLibrary_86 ?_
    refine g_iconst (v := (1 : Int32)) hF rfl dX9_readLibrary_88 ?_
    refine g_iadd hF dX9_readLibrary_89 ?_
    refine g_aload_n hF 3 rfl rfl dX9_readLibrary_90 ?_
    obtain ⟨x30, h30, h⟩ := gbnd h
    refine g_callV hF my_X9_isGood kw_1195 kw_1197 kw_66 gC_9.1 (by decide) q0 (c_X9_isGood (d := d - 1) (by omega) q0 h30) (by omega) (Nat.zero_le _) (Nat.zero_le _) rfl rfl (Nat.le_of_ble_eq_true rfl) dX9_readLibrary_91 (g_sameS ?_)
    refine g_if_eq (tgt := 110) hF dX9_readLibrary_94 (by decide) (fun c31 => ?_) (fun c31 => ?_)
    · replace h := gif_t c31 h
      exact gG_sub [3, 1, 0] rfl (t_X9_readLibrary_110 hF hn hd q0 q_b29 h hR)
    · replace h := gif_f c31 h
      refine g_aload_n hF 3 rfl rfl dX9_readLibrary_97 ?_
      refine g_ldcS (tx := "keeps") (a := gSB + 7) hF (by decide +kernel) (Nat.le_add_right _ _) dX9_readLibrary_98 ?_
      obtain ⟨x32, h32, h⟩ := gbnd h
      refine g_callV hF my_X9_takeWord kw_1191 kw_1193 kw_65 gC_9.1 (by decide) q0 (c_X9_takeWord (d := d - 1) (by omega) q0 h32) (by omega) (Nat.zero_le _) (Nat.zero_le _) rfl rfl (Nat.le_of_ble_eq_true rfl) dX9_readLibrary_100 (g_sameS ?_)
      refine g_if_eq (tgt := 110) hF dX9_readLibrary_103 (by decide) (fun c33 => ?_) (fun c33 => ?_)
      · replace h := gif_t c33 h
        exact gG_sub [3, 1, 0] rfl (t_X9_readLibrary_110 hF hn hd q0 q_b29 h hR)
      · replace h := gif_f c33 h
        refine g_iconst (v := (1 : Int32)) hF rfl dX9_readLibrary_106 ?_
        refine g_goto (tgt := 111) hF dX9_readLibrary_107 (by decide) ?_
        exact gG_sub [3, 1, 0] rfl (t_X9_readLibrary_111 hF hn hd q0 q_b29 h hR)
  · replace h := gif_n c20 h
    cases h
    exact g_ret_v hF rfl dX9_readLibrary_41 hR (Nat.zero_le _) (Nat.zero_le _)
theorem t_X9_readLibrary {Z : gZ} {d mc ms : Nat} {Acc : Option Value → (Nat → Nat) → gT → gM → Prop} {AccX : Nat → (Nat → Nat) → gT → gM → Prop} {ad : Nat → Nat} {T : gT} {M : gM} {m_a0 : Nat} {a0 : Nat} {i1 : Int32} {o : gM} (hF : gFix Z cX9_readLibrary RX9 "readLibrary" none d mc ms Acc AccX) (hn : Z.2.2.2.2.2.1 = 7) (hd : 5 ≤ d) (q0 : T[a0]? = some (9, m_a0)) (h : f_X9_readLibrary T M a0 i1 = some o) (hR : Acc none ad T o) : gG Z ad T M 0 0 0 [(0, .ref a0), (1, .int i1)] [] := by
  unfold f_X9_readLibrary at h
  refine g_aload_n hF 0 rfl rfl dX9_readLibrary_0 ?_
  obtain ⟨b34, h34, h⟩ := gbnd h
  obtain ⟨g34, l34, q_b34⟩ := ldr_sp h34
  refine g_get_r hF g34 fl_RX9_20 q0 dX9_readLibrary_1 ?_
  refine g_iconst (v := (1 : Int32)) hF rfl dX9_readLibrary_4 ?_
  obtain ⟨v35, h35, h⟩ := gbnd h
  obtain ⟨i35h, e35v⟩ := ald_sp q_b34 h35
  refine g_iald hF q_b34 i35h dX9_readLibrary_5 ?_
  rw [← e35v]
  refine g_bipush (v := (8 : Int32)) hF rfl dX9_readLibrary_6 ?_
  refine g_icmp_ne (tgt := 18) hF dX9_readLibrary_8 (by decide) (fun c36 => ?_) (fun c36 => ?_)
  · replace h := gif_t c36 h
    exact gG_sub [0] rfl (t_X9_readLibrary_18 hF hn hd q0 h hR)
  · replace h := gif_n c36 h
    refine g_aload_n hF 0 rfl rfl dX9_readLibrary_11 ?_
    refine g_bipush (v := (-6 : Int32)) hF rfl dX9_readLibrary_12 ?_
    refine g_iload_n hF 1 rfl rfl dX9_readLibrary_14 ?_
    obtain ⟨x37, h37, h⟩ := gbnd h
    refine g_callV hF my_X9_report kw_1209 kw_1211 kw_69 gC_9.1 (by decide) q0 (c_X9_report (d := d - 1) (by omega) q0 h37) (by omega) (Nat.zero_le _) (Nat.zero_le _) rfl rfl (Nat.le_of_ble_eq_true rfl) dX9_readLibrary_15 (g_sameN ?_)
    exact gG_sub [0] rfl (t_X9_readLibrary_18 hF hn hd q0 h hR)
theorem c_X9_readLibrary {d : Nat} {T : gT} {M : gM} {m_a0 : Nat} {a0 : Nat} {i1 : Int32} {r : gM} (hd : 5 ≤ d) (q0 : T[a0]? = some (9, m_a0)) (h : f_X9_readLibrary T M a0 i1 = some (r)) : gRet d yX9_readLibrary cX9_readLibrary 7 none 0 0 [.ref a0, .int i1] T M (gSame T none r) := by
  refine gRet_of (own := RX9) (by decide) rfl (Nat.le_of_ble_eq_true rfl) (fun Z ad0 hn h0 hF => ?_)
  exact t_X9_readLibrary hF hn hd q0 h ⟨rfl, rfl, rfl, rfl⟩
