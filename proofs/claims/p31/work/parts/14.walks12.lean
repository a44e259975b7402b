theorem t_X8_setShare_10 {Z : gZ} {d mc ms : Nat} {Acc : Option Value → (Nat → Nat) → gT → gM → Prop} {AccX : Nat → (Nat → Nat) → gT → gM → Prop} {ad : Nat → Nat} {T : gT} {M : gM} {o : Nat ⊕ (Int32 × gM)} (hF : gFix Z cX8_setShare RX8 "setShare" (some .int) d mc ms Acc AccX) (hn : Z.2.2.2.2.2.1 = 2) (hd : 6 ≤ d)  (h : f_X8_setShare_10 T M  = some o) (hR : ∀ v9, o = .inr v9 → Acc (some (.int v9.1)) ad T v9.2) (hX : ∀ k9, o = .inl k9 → AccX k9 ad T M ∧ 1 ≤ mc ∧ 6 ≤ ms) : gG Z ad T M 0 0 10 [] [] := by
  unfold f_X8_setShare_10 at h
  cases h
  exact g_throw (text := "share is not 0 to 100") (sa := gSB + 109) hF thr_RX8_63 (by decide +kernel) (Nat.le_of_ble_eq_true rfl) (by omega) (hX _ rfl).2.1 (hX _ rfl).2.2 (hX _ rfl).1 dX8_setShare_10 dX8_setShare_13 dX8_setShare_14 dX8_setShare_16 dX8_setShare_19
theorem t_X8_setShare {Z : gZ} {d mc ms : Nat} {Acc : Option Value → (Nat → Nat) → gT → gM → Prop} {AccX : Nat → (Nat → Nat) → gT → gM → Prop} {ad : Nat → Nat} {T : gT} {M : gM} {m_a0 : Nat} {a0 : Nat} {i1 : Int32} {o : Nat ⊕ (Int32 × gM)} (hF : gFix Z cX8_setShare RX8 "setShare" (some .int) d mc ms Acc AccX) (hn : Z.2.2.2.2.2.1 = 2) (hd : 6 ≤ d) (q0 : T[a0]? = some (8, m_a0)) (h : f_X8_setShare T M a0 i1 = some o) (hR : ∀ v9, o = .inr v9 → Acc (some (.int v9.1)) ad T v9.2) (hX : ∀ k9, o = .inl k9 → AccX k9 ad T M ∧ 1 ≤ mc ∧ 6 ≤ ms) : gG Z ad T M 0 0 0 [(0, .ref a0), (1, .int i1)] [] := by
  unfold f_X8_setShare at h
  refine g_iload_n hF 1 rfl rfl dX8_setShare_0 ?_
  refine g_if_lt (tgt := 10) hF dX8_setShare_1 (by decide) (fun c1 => ?_) (fun c1 => ?_)
  · replace h := gif_t c1 h
    exact gG_sub [] rfl (t_X8_setShare_10 hF hn hd  h hR hX)
  · replace h := gif_f c1 h
    refine g_iload_n hF 1 rfl rfl dX8_setShare_4 ?_
    refine g_bipush (v := (100 : Int32)) hF rfl dX8_setShare_5 ?_
    refine g_icmp_le (tgt := 20) hF dX8_setShare_7 (by decide) (fun c2 => ?_) (fun c2 => ?_)
    · replace h := gif_t c2 h
      refine g_aload_n hF 0 rfl rfl dX8_setShare_20 ?_
      obtain ⟨x3, h3, h⟩ := gbnd h
      refine g_callV hF my_X8_beginChange kw_932 kw_934 kw_53 gC_8.1 (by decide) q0 (c_X8_beginChange (d := d - 1) (by omega) q0 h3) (by omega) (Nat.zero_le _) (Nat.zero_le _) rfl rfl (Nat.le_of_ble_eq_true rfl) dX8_setShare_21 (g_sameN ?_)
      refine g_aload_n hF 0 rfl rfl dX8_setShare_24 ?_
      obtain ⟨b4, h4, h⟩ := gbnd h
      obtain ⟨g4, l4, q_b4⟩ := ldr_sp h4
      refine g_get_r hF g4 fl_RX8_30 q0 dX8_setShare_25 ?_
      refine g_iload_n hF 1 rfl rfl dX8_setShare_28 ?_
      refine g_putN_i hF rfl rfl fn_RX8_97 q_b4 dX8_setShare_29 ?_
      refine g_aload_n hF 0 rfl rfl dX8_setShare_32 ?_
      obtain ⟨b5, h5, h⟩ := gbnd h
      obtain ⟨g5, l5, q_b5⟩ := ldr_sp h5
      refine g_get_r hF g5 fl_RX8_37 q0 dX8_setShare_33 ?_
      refine g_aload_n hF 0 rfl rfl dX8_setShare_36 ?_
      obtain ⟨b6, h6, h⟩ := gbnd h
      obtain ⟨g6, l6, q_b6⟩ := ldr_sp h6
      refine g_get_r hF g6 fl_RX8_30 q0 dX8_setShare_37 ?_
      obtain ⟨x7, h7, h⟩ := gbnd h
      refine g_callVN hF my_X1_count kn_401 kw_403 kw_3 gC_1.1 (by decide) q_b5 (c_X1_count (d := d - 1) (by omega) q_b5 q_b6 h7) (by omega) (Nat.zero_le _) (Nat.zero_le _) rfl rfl (Nat.le_of_ble_eq_true rfl) dX8_setShare_40 (g_sameN ?_)
      refine g_aload_n hF 0 rfl rfl dX8_setShare_43 ?_
      obtain ⟨x8, h8, h⟩ := gbnd h
      refine g_callV hF my_X8_changedBindingsOfAll kw_1027 kw_1029 kw_59 gC_8.1 (by decide) q0 (c_X8_changedBindingsOfAll (d := d - 1) (by omega) q0 h8) (by omega) (Nat.zero_le _) (Nat.zero_le _) rfl rfl (Nat.le_of_ble_eq_true rfl) dX8_setShare_44 (g_sameS ?_)
      cases h
      exact g_ret_i hF rfl rfl dX8_setShare_47 (hR _ rfl) (Nat.zero_le _) (Nat.zero_le _)
    · replace h := gif_f c2 h
      exact gG_sub [] rfl (t_X8_setShare_10 hF hn hd  h hR hX)
theorem c_X8_setShare {d : Nat} {T : gT} {M : gM} {m_a0 : Nat} {a0 : Nat} {i1 : Int32} {r : Int32 × gM} (hd : 6 ≤ d) (q0 : T[a0]? = some (8, m_a0)) (h : f_X8_setShare T M a0 i1 = some (.inr r)) : gRet d yX8_setShare cX8_setShare 2 (some .int) 0 0 [.ref a0, .int i1] T M (gSame T (some (.int r.1)) r.2) := by
  refine gRet_of (own := RX8) (by decide) rfl (Nat.le_of_ble_eq_true rfl) (fun Z ad0 hn h0 hF => ?_)
  exact t_X8_setShare hF hn hd q0 h (fun v9 q9 => by cases q9; exact ⟨rfl, rfl, rfl, rfl⟩) (fun k9 q9 => nomatch q9)
theorem cx_X8_setShare {d : Nat} {T : gT} {M : gM} {m_a0 : Nat} {a0 : Nat} {i1 : Int32} {k : Nat} (hd : 6 ≤ d) (q0 : T[a0]? = some (8, m_a0)) (h : f_X8_setShare T M a0 i1 = some (.inl k)) : gRetX d yX8_setShare cX8_setShare 2 (some .int) 1 6 [.ref a0, .int i1] T M k := by
  refine gRetX_of (own := RX8) (by decide) rfl (Nat.le_of_ble_eq_true rfl) (fun Z ad0 hn h0 hF => ?_)
  exact t_X8_setShare hF hn hd q0 h (fun v9 q9 => nomatch q9) (fun k9 q9 => by cases q9; exact ⟨⟨rfl, rfl, rfl, rfl⟩, Nat.le_of_ble_eq_true rfl, Nat.le_of_ble_eq_true rfl⟩)
theorem t_X8_undo {Z : gZ} {d mc ms : Nat} {Acc : Option Value → (Nat → Nat) → gT → gM → Prop} {AccX : Nat → (Nat → Nat) → gT → gM → Prop} {ad : Nat → Nat} {T : gT} {M : gM} {m_a0 : Nat} {a0 : Nat} {o : Int32 × gM} (hF : gFix Z cX8_undo RX8 "undo" (some .int) d mc ms Acc AccX) (hn : Z.2.2.2.2.2.1 = 1) (hd : 6 ≤ d) (q0 : T[a0]? = some (8, m_a0)) (h : f_X8_undo T M a0 = some o) (hR : Acc (some (.int o.1)) ad T o.2) : gG Z ad T M 0 0 0 [(0, .ref a0)] [] := by
  unfold f_X8_undo at h
  refine g_aload_n hF 0 rfl rfl dX8_undo_0 ?_
  obtain ⟨b1, h1, h⟩ := gbnd h
  obtain ⟨g1, l1, q_b1⟩ := ldr_sp h1
  refine g_get_r hF g1 fl_RX8_51 q0 dX8_undo_1 ?_
  refine g_aload_n hF 0 rfl rfl dX8_undo_4 ?_
  obtain ⟨b2, h2, h⟩ := gbnd h
  obtain ⟨g2, l2, q_b2⟩ := ldr_sp h2
  refine g_get_r hF g2 fl_RX8_30 q0 dX8_undo_5 ?_
  obtain ⟨x3, h3, h⟩ := gbnd h
  refine g_callVN hF my_X2_bringBack kn_386 kw_388 kw_0 gC_2.1 (by decide) q_b1 (c_X2_bringBack (d := d - 1) (by omega) q_b1 q_b2 h3) (by omega) (Nat.zero_le _) (Nat.zero_le _) rfl rfl (Nat.le_of_ble_eq_true rfl) dX8_undo_8 (g_sameS ?_)
  refine g_if_ne (tgt := 16) hF dX8_undo_11 (by decide) (fun c4 => ?_) (fun c4 => ?_)
  · replace h := gif_t c4 h
    refine g_aload_n hF 0 rfl rfl dX8_undo_16 ?_
    obtain ⟨b5, h5, h⟩ := gbnd h
    obtain ⟨g5, l5, q_b5⟩ := ldr_sp h5
    refine g_get_r hF g5 fl_RX8_37 q0 dX8_undo_17 ?_
    refine g_aload_n hF 0 rfl rfl dX8_undo_20 ?_
    obtain ⟨b6, h6, h⟩ := gbnd h
    obtain ⟨g6, l6, q_b6⟩ := ldr_sp h6
    refine g_get_r hF g6 fl_RX8_30 q0 dX8_undo_21 ?_
    obtain ⟨x7, h7, h⟩ := gbnd h
    refine g_callVN hF my_X1_count kn_401 kw_403 kw_3 gC_1.1 (by decide) q_b5 (c_X1_count (d := d - 1) (by omega) q_b5 q_b6 h7) (by omega) (Nat.zero_le _) (Nat.zero_le _) rfl rfl (Nat.le_of_ble_eq_true rfl) dX8_undo_24 (g_sameN ?_)
    refine g_aload_n hF 0 rfl rfl dX8_undo_27 ?_
    obtain ⟨b8, h8, h⟩ := gbnd h
    obtain ⟨g8, l8, q_b8⟩ := ldr_sp h8
    refine g_get_r hF g8 fl_RX8_51 q0 dX8_undo_28 ?_
    refine g_get_iN hF fn_RX8_213 q_b8 dX8_undo_31 ?_
    cases h
    exact g_ret_i hF rfl rfl dX8_undo_34 hR (Nat.zero_le _) (Nat.zero_le _)
  · replace h := gif_n c4 h
    refine g_iconst (v := (-1 : Int32)) hF rfl dX8_undo_14 ?_
    cases h
    exact g_ret_i hF rfl rfl dX8_undo_15 hR (Nat.zero_le _) (Nat.zero_le _)
theorem c_X8_undo {d : Nat} {T : gT} {M : gM} {m_a0 : Nat} {a0 : Nat} {r : Int32 × gM} (hd : 6 ≤ d) (q0 : T[a0]? = some (8, m_a0)) (h : f_X8_undo T M a0 = some (r)) : gRet d yX8_undo cX8_undo 1 (some .int) 0 0 [.ref a0] T M (gSame T (some (.int r.1)) r.2) := by
  refine gRet_of (own := RX8) (by decide) rfl (Nat.le_of_ble_eq_true rfl) (fun Z ad0 hn h0 hF => ?_)
  exact t_X8_undo hF hn hd q0 h ⟨rfl, rfl, rfl, rfl⟩
theorem t_X8_checksum_B52 {Z : gZ} {d mc ms : Nat} {Acc : Option Value → (Nat → Nat) → gT → gM → Prop} {AccX : Nat → (Nat → Nat) → gT → gM → Prop} {ad : Nat → Nat} {T : gT} {M : gM} {m_a0 : Nat} {a0 : Nat} {j1 : Int64} {i3 : Int32} {i4 : Int32} {o : (Int64 × gM) ⊕ (Int64 × Int32 × gM)} (hF : gFix Z cX8_checksum RX8 "checksum" (some .long) d mc ms Acc AccX) (hn : Z.2.2.2.2.2.1 = 5) (hd : 8 ≤ d) (q0 : T[a0]? = some (8, m_a0)) (h : f_X8_checksum_B52 T M a0 j1 i3 i4 = some o) (hE : ∀ e9, o = .inl e9 → gG Z ad T e9.2 0 0 115 [(0, .ref a0), (1, .long e9.1), (3, .int i3)] []) (hN : ∀ n9, o = .inr n9 → gG Z ad T n9.2.2 0 0 52 [(0, .ref a0), (1, .long n9.1), (3, .int i3), (4, .int n9.2.1)] []) : gG Z ad T M 0 0 52 [(0, .ref a0), (1, .long j1), (3, .int i3), (4, .int i4)] [] := by
  unfold f_X8_checksum_B52 at h
  refine g_iload hF 3 rfl dX8_checksum_52 ?_
  refine g_aload_n hF 0 rfl rfl dX8_checksum_54 ?_
  obtain ⟨b1, h1, h⟩ := gbnd h
  obtain ⟨g1, l1, q_b1⟩ := ldr_sp h1
  refine g_get_r hF g1 fl_RX8_30 q0 dX8_checksum_55 ?_
  refine g_get_iN hF fn_RX8_94 q_b1 dX8_checksum_58 ?_
  refine g_icmp_ge (tgt := 115) hF dX8_checksum_61 (by decide) (fun c2 => ?_) (fun c2 => ?_)
  · replace h := gif_t c2 h
    exact gG_sub [0, 1, 2] rfl (hE _ (Option.some.inj h).symm)
  · replace h := gif_f c2 h
    refine g_ldc2 (v := (31 : Int64)) hF kw_1435 dX8_checksum_64 ?_
    refine g_lload_n hF 1 rfl rfl dX8_checksum_67 ?_
    refine g_lmul hF dX8_checksum_68 ?_
    refine g_aload_n hF 0 rfl rfl dX8_checksum_69 ?_
    refine g_iload_n hF 2 rfl rfl dX8_checksum_70 ?_
    refine g_iload hF 3 rfl dX8_checksum_71 ?_
    obtain ⟨x3, h3, h⟩ := gbnd h
    rcases x3 with k3 | r3
    · replace h := gcase_l h
      cases h
    · replace h := gcase_r h
      refine g_callV hF my_X8_offer kw_1442 kw_1443 kw_1444 gC_8.1 (by decide) q0 (c_X8_offer (d := d - 1) (by omega) q0 h3) (by omega) (Nat.zero_le _) (Nat.zero_le _) rfl rfl (Nat.le_of_ble_eq_true rfl) dX8_checksum_73 (g_sameS ?_)
      refine g_i2l hF dX8_checksum_76 ?_
      refine g_ladd hF dX8_checksum_77 ?_
      refine g_lstore_n (ls' := [(1, .long (((31 : Int64) * j1) + r3.toInt64)), (0, .ref a0), (3, .int i3), (4, .int i4)]) hF rfl (by rw [hn]; decide) rfl dX8_checksum_78 ?_
      refine g_ldc2 (v := (31 : Int64)) hF kw_1435 dX8_checksum_79 ?_
      refine g_lload_n hF 0 rfl rfl dX8_checksum_82 ?_
      refine g_lmul hF dX8_checksum_83 ?_
      refine g_aload_n hF 1 rfl rfl dX8_checksum_84 ?_
      refine g_iload_n hF 2 rfl rfl dX8_checksum_85 ?_
      refine g_iload hF 3 rfl dX8_checksum_86 ?_
      obtain ⟨x4, h4, h⟩ := gbnd h
      rcases x4 with k4 | r4
      · replace h := gcase_l h
        cases h
      · replace h := gcase_r h
        refine g_callV hF my_X8_binding kw_1446 kw_1447 kw_1448 gC_8.1 (by decide) q0 (c_X8_binding (d := d - 1) (by omega) q0 h4) (by omega) (Nat.zero_le _) (Nat.zero_le _) rfl rfl (Nat.le_of_ble_eq_true rfl) dX8_checksum_88 (g_sameS ?_)
        refine g_i2l hF dX8_checksum_91 ?_
        refine g_ladd hF dX8_checksum_92 ?_
        refine g_lstore_n (ls' := [(1, .long (((31 : Int64) * (((31 : Int64) * j1) + r3.toInt64)) + r4.toInt64)), (0, .ref a0), (3, .int i3), (4, .int i4)]) hF rfl (by rw [hn]; decide) rfl dX8_checksum_93 ?_
        refine g_ldc2 (v := (31 : Int64)) hF kw_1435 dX8_checksum_94 ?_
        refine g_lload_n hF 0 rfl rfl dX8_checksum_97 ?_
        refine g_lmul hF dX8_checksum_98 ?_
        refine g_aload_n hF 1 rfl rfl dX8_checksum_99 ?_
        refine g_iload_n hF 2 rfl rfl dX8_checksum_100 ?_
        refine g_iload hF 3 rfl dX8_checksum_101 ?_
        obtain ⟨x5, h5, h⟩ := gbnd h
        rcases x5 with k5 | r5
        · replace h := gcase_l h
          cases h
        · replace h := gcase_r h
          refine g_callV hF my_X8_call kw_1450 kw_985 kw_986 gC_8.1 (by decide) q0 (c_X8_call (d := d - 1) (by omega) q0 h5) (by omega) (Nat.zero_le _) (Nat.zero_le _) rfl rfl (Nat.le_of_ble_eq_true rfl) dX8_checksum_103 (g_sameS ?_)
          refine g_i2l hF dX8_checksum_106 ?_
          refine g_ladd hF dX8_checksum_107 ?_
          refine g_lstore_n (ls' := [(1, .long (((31 : Int64) * (((31 : Int64) * (((31 : Int64) * j1) + r3.toInt64)) + r4.toInt64)) + r5.1.toInt64)), (0, .ref a0), (3, .int i3), (4, .int i4)]) hF rfl (by rw [hn]; decide) rfl dX8_checksum_108 ?_
          refine g_iinc (n := 1) (v := (i4 + (1 : Int32))) (ls' := [(4, .int (i4 + (1 : Int32))), (1, .long (((31 : Int64) * (((31 : Int64) * (((31 : Int64) * j1) + r3.toInt64)) + r4.toInt64)) + r5.1.toInt64)), (0, .ref a0), (3, .int i3)]) hF 3 rfl rfl (by rw [hn]; decide) rfl dX8_checksum_109 ?_
          refine g_goto (tgt := 52) hF dX8_checksum_112 (by decide) ?_
          exact gG_sub [2, 1, 3, 0] rfl (hN _ (Option.some.inj h).symm)
theorem t_X8_checksum_L52 {Z : gZ} {d mc ms : Nat} {Acc : Option Value → (Nat → Nat) → gT → gM → Prop} {AccX : Nat → (Nat → Nat) → gT → gM → Prop} {ad : Nat → Nat} {T : gT} {M : gM} {m_a0 : Nat} {a0 : Nat} {j1 : Int64} {i3 : Int32} {i4 : Int32} {o : Int64 × gM} (hF : gFix Z cX8_checksum RX8 "checksum" (some .long) d mc ms Acc AccX) (hn : Z.2.2.2.2.2.1 = 5) (hd : 8 ≤ d) (q0 : T[a0]? = some (8, m_a0)) (h : gloop (fun x => f_X8_checksum_B52 T x.2.2 a0 x.1 i3 x.2.1) gFU (j1, i4, M) = some o) (hE : gG Z ad T o.2 0 0 115 [(0, .ref a0), (1, .long o.1), (3, .int i3)] []) : gG Z ad T M 0 0 52 [(0, .ref a0), (1, .long j1), (3, .int i3), (4, .int i4)] [] := by
  refine gloop_ind (P := fun x0 : Int64 × Int32 × gM => gG Z ad T x0.2.2 0 0 52 [(0, .ref a0), (1, .long x0.1), (3, .int i3), (4, .int x0.2.1)] []) (e := o) (fun x0 y hy hl hr => ?_) gFU (j1, i4, M) h
  exact t_X8_checksum_B52 hF hn hd q0 hy (fun e9 q9 => by rw [hl _ q9]; exact hE) (fun n9 q9 => hr n9 q9)
theorem t_X8_checksum_B22 {Z : gZ} {d mc ms : Nat} {Acc : Option Value → (Nat → Nat) → gT → gM → Prop} {AccX : Nat → (Nat → Nat) → gT → gM → Prop} {ad : Nat → Nat} {T : gT} {M : gM} {m_a0 : Nat} {a0 : Nat} {j1 : Int64} {i3 : Int32} {i4 : Int32} {o : (Int64) ⊕ (Int64 × Int32)} (hF : gFix Z cX8_checksum RX8 "checksum" (some .long) d mc ms Acc AccX) (hn : Z.2.2.2.2.2.1 = 5) (hd : 8 ≤ d) (q0 : T[a0]? = some (8, m_a0)) (h : f_X8_checksum_B22 T M a0 j1 i3 i4 = some o) (hE : ∀ e9, o = .inl e9 → gG Z ad T M 0 0 49 [(0, .ref a0), (1, .long e9), (3, .int i3)] []) (hN : ∀ n9, o = .inr n9 → gG Z ad T M 0 0 22 [(0, .ref a0), (1, .long n9.1), (3, .int i3), (4, .int n9.2)] []) : gG Z ad T M 0 0 22 [(0, .ref a0), (1, .long j1), (3, .int i3), (4, .int i4)] [] := by
  unfold f_X8_checksum_B22 at h
  refine g_iload hF 3 rfl dX8_checksum_22 ?_
  refine g_iconst (v := (5 : Int32)) hF rfl dX8_checksum_24 ?_
  refine g_icmp_gt (tgt := 49) hF dX8_checksum_25 (by decide) (fun c6 => ?_) (fun c6 => ?_)
  · replace h := gif_t c6 h
    exact gG_sub [0, 1, 2] rfl (hE _ (Option.some.inj h).symm)
  · replace h := gif_f c6 h
    refine g_ldc2 (v := (31 : Int64)) hF kw_1435 dX8_checksum_28 ?_
    refine g_lload_n hF 1 rfl rfl dX8_checksum_31 ?_
    refine g_lmul hF dX8_checksum_32 ?_
    refine g_aload_n hF 0 rfl rfl dX8_checksum_33 ?_
    refine g_iload_n hF 2 rfl rfl dX8_checksum_34 ?_
    refine g_iload hF 3 rfl dX8_checksum_35 ?_
    obtain ⟨x7, h7, h⟩ := gbnd h
    rcases x7 with k7 | r7
    · replace h := gcase_l h
      cases h
    · replace h := gcase_r h
      refine g_callV hF my_X8_library kw_1436 kw_1437 kw_1438 gC_8.1 (by decide) q0 (c_X8_library (d := d - 1) (by omega) q0 h7) (by omega) (Nat.zero_le _) (Nat.zero_le _) rfl rfl (Nat.le_of_ble_eq_true rfl) dX8_checksum_37 (g_sameS ?_)
      refine g_i2l hF dX8_checksum_40 ?_
      refine g_ladd hF dX8_checksum_41 ?_
      refine g_lstore_n (ls' := [(1, .long (((31 : Int64) * j1) + r7.toInt64)), (0, .ref a0), (3, .int i3), (4, .int i4)]) hF rfl (by rw [hn]; decide) rfl dX8_checksum_42 ?_
      refine g_iinc (n := 1) (v := (i4 + (1 : Int32))) (ls' := [(4, .int (i4 + (1 : Int32))), (1, .long (((31 : Int64) * j1) + r7.toInt64)), (0, .ref a0), (3, .int i3)]) hF 3 rfl rfl (by rw [hn]; decide) rfl dX8_checksum_43 ?_
      refine g_goto (tgt := 22) hF dX8_checksum_46 (by decide) ?_
      exact gG_sub [2, 1, 3, 0] rfl (hN _ (Option.some.inj h).symm)
theorem t_X8_checksum_L22 {Z : gZ} {d mc ms : Nat} {Acc : Option Value → (Nat → Nat) → gT → gM → Prop} {AccX : Nat → (Nat → Nat) → gT → gM → Prop} {ad : Nat → Nat} {T : gT} {M : gM} {m_a0 : Nat} {a0 : Nat} {j1 : Int64} {i3 : Int32} {i4 : Int32} {o : Int64} (hF : gFix Z cX8_checksum RX8 "checksum" (some .long) d mc ms Acc AccX) (hn : Z.2.2.2.2.2.1 = 5) (hd : 8 ≤ d) (q0 : T[a0]? = some (8, m_a0)) (h : gloop (fun x => f_X8_checksum_B22 T M a0 x.1 i3 x.2) gFU (j1, i4) = some o) (hE : gG Z ad T M 0 0 49 [(0, .ref a0), (1, .long o), (3, .int i3)] []) : gG Z ad T M 0 0 22 [(0, .ref a0), (1, .long j1), (3, .int i3), (4, .int i4)] [] := by
  refine gloop_ind (P := fun x0 : Int64 × Int32 => gG Z ad T M 0 0 22 [(0, .ref a0), (1, .long x0.1), (3, .int i3), (4, .int x0.2)] []) (e := o) (fun x0 y hy hl hr => ?_) gFU (j1, i4) h
  exact t_X8_checksum_B22 hF hn hd q0 hy (fun e9 q9 => by rw [hl _ q9]; exact hE) (fun n9 q9 => hr n9 q9)
theorem t_X8_checksum_B8 {Z : gZ} {d mc ms : Nat} {Acc : Option Value → (Nat → Nat) → gT → gM → Prop} {AccX : Nat → (Nat → Nat) → gT → gM → Prop} {ad : Nat → Nat} {T : gT} {M : gM} {m_a0 : Nat} {a0 : Nat} {j1 : Int64} {i3 : Int32} {o : (Int64 × gM) ⊕ (Int64 × Int32 × gM)} (hF : gFix Z cX8_checksum RX8 "checksum" (some .long) d mc ms Acc AccX) (hn : Z.2.2.2.2.2.1 = 5) (hd : 8 ≤ d) (q0 : T[a0]? = some (8, m_a0)) (h : f_X8_checksum_B8 T M a0 j1 i3 = some o) (hE : ∀ e9, o = .inl e9 → gG Z ad T e9.2 0 0 121 [(1, .long e9.1)] []) (hN : ∀ n9, o = .inr n9 → gG Z ad T n9.2.2 0 0 8 [(0, .ref a0), (1, .long n9.1), (3, .int n9.2.1)] []) : gG Z ad T M 0 0 8 [(0, .ref a0), (1, .long j1), (3, .int i3)] [] := by
  unfold f_X8_checksum_B8 at h
  refine g_iload_n hF 2 rfl rfl dX8_checksum_8 ?_
  refine g_aload_n hF 0 rfl rfl dX8_checksum_9 ?_
  obtain ⟨b8, h8, h⟩ := gbnd h
  obtain ⟨g8, l8, q_b8⟩ := ldr_sp h8
  refine g_get_r hF g8 fl_RX8_30 q0 dX8_checksum_10 ?_
  refine g_get_iN hF fn_RX8_91 q_b8 dX8_checksum_13 ?_
  refine g_icmp_ge (tgt := 121) hF dX8_checksum_16 (by decide) (fun c9 => ?_) (fun c9 => ?_)
  · replace h := gif_t c9 h
    exact gG_sub [1] rfl (hE _ (Option.some.inj h).symm)
  · replace h := gif_f c9 h
    refine g_iconst (v := (0 : Int32)) hF rfl dX8_checksum_19 ?_
    refine g_istore (ls' := [(4, .int (0 : Int32)), (0, .ref a0), (1, .long j1), (3, .int i3)]) hF (by rw [hn]; decide) rfl dX8_checksum_20 ?_
    obtain ⟨x10, h10, h⟩ := gbnd h
    refine gG_sub [1, 2, 3, 0] rfl (t_X8_checksum_L22 hF hn hd q0 h10 ?_)
    refine g_iconst (v := (0 : Int32)) hF rfl dX8_checksum_49 ?_
    refine g_istore (ls' := [(4, .int (0 : Int32)), (0, .ref a0), (1, .long x10), (3, .int i3)]) hF (by rw [hn]; decide) rfl dX8_checksum_50 ?_
    obtain ⟨x11, h11, h⟩ := gbnd h
    refine gG_sub [1, 2, 3, 0] rfl (t_X8_checksum_L52 hF hn hd q0 h11 ?_)
    refine g_iinc (n := 1) (v := (i3 + (1 : Int32))) (ls' := [(3, .int (i3 + (1 : Int32))), (0, .ref a0), (1, .long x11.1)]) hF 2 rfl rfl (by rw [hn]; decide) rfl dX8_checksum_115 ?_
    refine g_goto (tgt := 8) hF dX8_checksum_118 (by decide) ?_
    exact gG_sub [1, 2, 0] rfl (hN _ (Option.some.inj h).symm)
theorem t_X8_checksum_L8 {Z : gZ} {d mc ms : Nat} {Acc : Option Value → (Nat → Nat) → gT → gM → Prop} {AccX : Nat → (Nat → Nat) → gT → gM → Prop} {ad : Nat → Nat} {T : gT} {M : gM} {m_a0 : Nat} {a0 : Nat} {j1 : Int64} {i3 : Int32} {o : Int64 × gM} (hF : gFix Z cX8_checksum RX8 "checksum" (some .long) d mc ms Acc AccX) (hn : Z.2.2.2.2.2.1 = 5) (hd : 8 ≤ d) (q0 : T[a0]? = some (8, m_a0)) (h : gloop (fun x => f_X8_checksum_B8 T x.2.2 a0 x.1 x.2.1) gFU (j1, i3, M) = some o) (hE : gG Z ad T o.2 0 0 121 [(1, .long o.1)] []) : gG Z ad T M 0 0 8 [(0, .ref a0), (1, .long j1), (3, .int i3)] [] := by
  refine gloop_ind (P := fun x0 : Int64 × Int32 × gM => gG Z ad T x0.2.2 0 0 8 [(0, .ref a0), (1, .long x0.1), (3, .int x0.2.1)] []) (e := o) (fun x0 y hy hl hr => ?_) gFU (j1, i3, M) h
  exact t_X8_checksum_B8 hF hn hd q0 hy (fun e9 q9 => by rw [hl _ q9]; exact hE) (fun n9 q9 => hr n9 q9)
theorem t_X8_checksum {Z : gZ} {d mc ms : Nat} {Acc : Option Value → (Nat → Nat) → gT → gM → Prop} {AccX : Nat → (Nat → Nat) → gT → gM → Prop} {ad : Nat → Nat} {T : gT} {M : gM} {m_a0 : Nat} {a0 : Nat} {o : Int64 × gM} (hF : gFix Z cX8_checksum RX8 "checksum" (some .long) d mc ms Acc AccX) (hn : Z.2.2.2.2.2.1 = 5) (hd : 8 ≤ d) (q0 : T[a0]? = some (8, m_a0)) (h : f_X8_checksum T M a0 = some o) (hR : Acc (some (.long o.1)) ad T o.2) : gG Z ad T M 0 0 0 [(0, .ref a0)] [] := by
  unfold f_X8_checksum at h
  refine g_aload_n hF 0 rfl rfl dX8_checksum_0 ?_
  obtain ⟨x12, h12, h⟩ := gbnd h
  refine g_callV hF my_X8_share kw_1434 kw_379 kw_380 gC_8.1 (by decide) q0 (c_X8_share (d := d - 1) (by omega) q0 h12) (by omega) (Nat.zero_le _) (Nat.zero_le _) rfl rfl (Nat.le_of_ble_eq_true rfl) dX8_checksum_1 (g_sameS ?_)
  refine g_i2l hF dX8_checksum_4 ?_
  refine g_lstore_n (ls' := [(1, .long x12.toInt64), (0, .ref a0)]) hF rfl (by rw [hn]; decide) rfl dX8_checksum_5 ?_
  refine g_iconst (v := (0 : Int32)) hF rfl dX8_checksum_6 ?_
  refine g_istore_n (ls' := [(3, .int (0 : Int32)), (1, .long x12.toInt64), (0, .ref a0)]) hF rfl (by rw [hn]; decide) rfl dX8_checksum_7 ?_
  obtain ⟨x13, h13, h⟩ := gbnd h
  refine gG_sub [2, 1, 0] rfl (t_X8_checksum_L8 hF hn hd q0 h13 ?_)
  refine g_lload_n hF 0 rfl rfl dX8_checksum_121 ?_
  cases h
  exact g_ret_l hF rfl dX8_checksum_122 hR (Nat.zero_le _) (Nat.zero_le _)
theorem c_X8_checksum {d : Nat} {T : gT} {M : gM} {m_a0 : Nat} {a0 : Nat} {r : Int64 × gM} (hd : 8 ≤ d) (q0 : T[a0]? = some (8, m_a0)) (h : f_X8_checksum T M a0 = some (r)) : gRet d yX8_checksum cX8_checksum 5 (some .long) 0 0 [.ref a0] T M (gSame T (some (.long r.1)) r.2) := by
  refine gRet_of (own := RX8) (by decide) rfl (Nat.le_of_ble_eq_true rfl) (fun Z ad0 hn h0 hF => ?_)
  exact t_X8_checksum hF hn hd q0 h ⟨rfl, rfl, rfl, rfl⟩
theorem t_L_load {Z : gZ} {d mc ms : Nat} {Acc : Option Value → (Nat → Nat) → gT → gM → Prop} {AccX : Nat → (Nat → Nat) → gT → gM → Prop} {ad : Nat → Nat} {T : gT} {M : gM} {m_a0 : Nat} {a0 : Nat} {i1 : Int32} {o : Int32 × gT × gM} (hFH : gFixH Z cL_load RL "load" (some .int) [(0, 5, 6, 40)] d mc ms Acc AccX) (hn : Z.2.2.2.2.2.1 = 3) (hd : 57 ≤ d) (hmc : 3 ≤ mc) (hms : 813 ≤ ms) (q0 : T[a0]? = some (8, m_a0)) (h : f_L_load T M a0 i1 = some o) (hR : ∀ ad1 : Nat → Nat, gExt T o.2.1 → (∀ a : Nat, a < T.length → ad1 a = ad a) → Acc (some (.int o.1)) ad1 o.2.1 o.2.2) : gG Z ad T M 0 0 0 [(0, .ref a0), (1, .int i1)] [] := by
  have hF := hFH.fix
  unfold f_L_load at h
  refine g_aload_n hF 0 rfl rfl dL_load_0 ?_
  refine g_iload_n hF 1 rfl rfl dL_load_1 ?_
  obtain ⟨x1, h1, h⟩ := gbnd h
  rcases x1 with k1 | r1
  · replace h := gcase_l h
    by_cases e1_0 : k1 = 1
    · replace h := gif_t e1_0 h
      subst e1_0
      refine g_callVC hFH my_X8_load kw_645 kw_646 kw_647 gC_8.1 (by decide) q0 (cx_X8_load (d := d - 1) (by omega) q0 h1) (by omega) (by omega) (by omega) rfl rfl (Nat.le_of_ble_eq_true rfl) dL_load_2 [] (0, 5, 6, 40) [] rfl (by decide) (by decide) (fun z hz => nomatch hz) kw_644 kn_651 (Or.inl ⟨⟨2, by decide⟩, dL_load_6, rfl, rfl⟩) (by rw [hn]; decide) (ls' := [(0, .ref a0), (1, .int i1)]) rfl ?_
      refine g_ldc (v := (-2000000098 : Int32)) hF kw_942 dL_load_7 ?_
      cases h
      exact g_ret_i hF rfl rfl dL_load_9 (hR ad gExt.rf (fun _ _ => rfl)) (by omega) (by omega)
    · replace h := gif_f e1_0 h
      cases h
  · replace h := gcase_r h
    refine g_callV hF my_X8_load kw_645 kw_646 kw_647 gC_8.1 (by decide) q0 (c_X8_load (d := d - 1) (by omega) q0 h1) (by omega) (by omega) (by omega) rfl rfl (Nat.le_of_ble_eq_true rfl) dL_load_2 (g_madeS (gOld_r (gT_lt q0) (gOld_i gOld_0)) gOld_0 (fun ad1 e1 y1 => ?_))
    have X1 := gExt.tr gExt.rf e1
    have W1 := gad_call y1 gExt.rf (fun _ _ => rfl)
    have q_2 := e1 _ _ q0
    cases h
    exact g_ret_i hF rfl rfl dL_load_5 (hR ad1 X1 W1) (by omega) (by omega)
theorem c_L_load {d : Nat} {T : gT} {M : gM} {m_a0 : Nat} {a0 : Nat} {i1 : Int32} {r : Int32 × gT × gM} (hd : 57 ≤ d) (q0 : T[a0]? = some (8, m_a0)) (h : f_L_load T M a0 i1 = some (r)) : gRetH d yL_load cL_load 3 (some .int) [(0, 5, 6, 40)] 3 813 [.ref a0, .int i1] T M (gMade T (some (.int r.1)) r.2.1 r.2.2) := by
  refine gRetH_of (own := RL) (by decide) rfl (Nat.le_of_ble_eq_true rfl) (fun Z ad0 hn h0 hF => ?_)
  exact t_L_load hF hn hd (Nat.le_refl _) (Nat.le_refl _) q0 h (fun ad1 x1 y1 => ⟨rfl, rfl, rfl, x1, y1⟩)
theorem t_L_library {Z : gZ} {d mc ms : Nat} {Acc : Option Value → (Nat → Nat) → gT → gM → Prop} {AccX : Nat → (Nat → Nat) → gT → gM → Prop} {ad : Nat → Nat} {T : gT} {M : gM} {m_a0 : Nat} {a0 : Nat} {i1 : Int32} {i2 : Int32} {o : Int32} (hFH : gFixH Z cL_library RL "library" (some .int) [(0, 6, 7, 47), (0, 6, 11, 40)] d mc ms Acc AccX) (hn : Z.2.2.2.2.2.1 = 4) (hd : 8 ≤ d) (hmc : 1 ≤ mc) (hms : 6 ≤ ms) (q0 : T[a0]? = some (8, m_a0)) (h : f_L_library T M a0 i1 i2 = some o) (hR : Acc (some (.int o)) ad T M) : gG Z ad T M 0 0 0 [(0, .ref a0), (1, .int i1), (2, .int i2)] [] := by
  have hF := hFH.fix
  unfold f_L_library at h
  refine g_aload_n hF 0 rfl rfl dL_library_0 ?_
  refine g_iload_n hF 1 rfl rfl dL_library_1 ?_
  refine g_iload_n hF 2 rfl rfl dL_library_2 ?_
  obtain ⟨x1, h1, h⟩ := gbnd h
  rcases x1 with k1 | r1
  · replace h := gcase_l h
    by_cases e1_0 : k1 = 2
    · replace h := gif_t e1_0 h
      subst e1_0
      refine g_callVC hFH my_X8_library kw_1469 kw_1437 kw_1438 gC_8.1 (by decide) q0 (cx_X8_library (d := d - 1) (by omega) q0 h1) (by omega) (by omega) (by omega) rfl rfl (Nat.le_of_ble_eq_true rfl) dL_library_3 [] (0, 6, 7, 47) [(0, 6, 11, 40)] rfl (by decide) (by decide) (fun z hz => nomatch hz) kw_946 kn_957 (Or.inl ⟨⟨3, by decide⟩, dL_library_7, rfl, rfl⟩) (by rw [hn]; decide) (ls' := [(0, .ref a0), (1, .int i1), (2, .int i2)]) rfl ?_
      refine g_ldc (v := (-2000000097 : Int32)) hF kw_971 dL_library_8 ?_
      cases h
      exact g_ret_i hF rfl rfl dL_library_10 hR (by omega) (by omega)
    · replace h := gif_f e1_0 h
      by_cases e1_1 : k1 = 1
      · replace h := gif_t e1_1 h
        subst e1_1
        refine g_callVC hFH my_X8_library kw_1469 kw_1437 kw_1438 gC_8.1 (by decide) q0 (cx_X8_library (d := d - 1) (by omega) q0 h1) (by omega) (by omega) (by omega) rfl rfl (Nat.le_of_ble_eq_true rfl) dL_library_3 [(0, 6, 7, 47)] (0, 6, 11, 40) [] rfl (by decide) (by decide) (fun z hz => by rcases List.mem_singleton.mp hz with rfl; exact ⟨by decide, _, kw_946, by decide⟩) kw_644 kn_651 (Or.inl ⟨⟨3, by decide⟩, dL_library_11, rfl, rfl⟩) (by rw [hn]; decide) (ls' := [(0, .ref a0), (1, .int i1), (2, .int i2)]) rfl ?_
        refine g_ldc (v := (-2000000098 : Int32)) hF kw_942 dL_library_12 ?_
        cases h
        exact g_ret_i hF rfl rfl dL_library_14 hR (by omega) (by omega)
      · replace h := gif_f e1_1 h
        cases h
  · replace h := gcase_r h
    refine g_callV hF my_X8_library kw_1469 kw_1437 kw_1438 gC_8.1 (by decide) q0 (c_X8_library (d := d - 1) (by omega) q0 h1) (by omega) (by omega) (by omega) rfl rfl (Nat.le_of_ble_eq_true rfl) dL_library_3 (g_sameS ?_)
    cases h
    exact g_ret_i hF rfl rfl dL_library_6 hR (by omega) (by omega)
theorem c_L_library {d : Nat} {T : gT} {M : gM} {m_a0 : Nat} {a0 : Nat} {i1 : Int32} {i2 : Int32} {r : Int32} (hd : 8 ≤ d) (q0 : T[a0]? = some (8, m_a0)) (h : f_L_library T M a0 i1 i2 = some (r)) : gRetH d yL_library cL_library 4 (some .int) [(0, 6, 7, 47), (0, 6, 11, 40)] 1 6 [.ref a0, .int i1, .int i2] T M (gSame T (some (.int r)) M) := by
  refine gRetH_of (own := RL) (by decide) rfl (Nat.le_of_ble_eq_true rfl) (fun Z ad0 hn h0 hF => ?_)
  exact t_L_library hF hn hd (Nat.le_refl _) (Nat.le_refl _) q0 h ⟨rfl, rfl, rfl, rfl⟩
theorem t_L_offer {Z : gZ} {d mc ms : Nat} {Acc : Option Value → (Nat → Nat) → gT → gM → Prop} {AccX : Nat → (Nat → Nat) → gT → gM → Prop} {ad : Nat → Nat} {T : gT} {M : gM} {m_a0 : Nat} {a0 : Nat} {i1 : Int32} {i2 : Int32} {o : Int32} (hFH : gFixH Z cL_offer RL "offer" (some .int) [(0, 6, 7, 47)] d mc ms Acc AccX) (hn : Z.2.2.2.2.2.1 = 4) (hd : 8 ≤ d) (hmc : 1 ≤ mc) (hms : 6 ≤ ms) (q0 : T[a0]? = some (8, m_a0)) (h : f_L_offer T M a0 i1 i2 = some o) (hR : Acc (some (.int o)) ad T M) : gG Z ad T M 0 0 0 [(0, .ref a0), (1, .int i1), (2, .int i2)] [] := by
  have hF := hFH.fix
  unfold f_L_offer at h
  refine g_aload_n hF 0 rfl rfl dL_offer_0 ?_
  refine g_iload_n hF 1 rfl rfl dL_offer_1 ?_
  refine g_iload_n hF 2 rfl rfl dL_offer_2 ?_
  obtain ⟨x1, h1, h⟩ := gbnd h
  rcases x1 with k1 | r1
  · replace h := gcase_l h
    by_cases e1_0 : k1 = 2
    · replace h := gif_t e1_0 h
      subst e1_0
      refine g_callVC hFH my_X8_offer kw_1474 kw_1443 kw_1444 gC_8.1 (by decide) q0 (cx_X8_offer (d := d - 1) (by omega) q0 h1) (by omega) (by omega) (by omega) rfl rfl (Nat.le_of_ble_eq_true rfl) dL_offer_3 [] (0, 6, 7, 47) [] rfl (by decide) (by decide) (fun z hz => nomatch hz) kw_946 kn_957 (Or.inl ⟨⟨3, by decide⟩, dL_offer_7, rfl, rfl⟩) (by rw [hn]; decide) (ls' := [(0, .ref a0), (1, .int i1), (2, .int i2)]) rfl ?_
      refine g_ldc (v := (-2000000097 : Int32)) hF kw_971 dL_offer_8 ?_
      cases h
      exact g_ret_i hF rfl rfl dL_offer_10 hR (by omega) (by omega)
    · replace h := gif_f e1_0 h
      cases h
  · replace h := gcase_r h
    refine g_callV hF my_X8_offer kw_1474 kw_1443 kw_1444 gC_8.1 (by decide) q0 (c_X8_offer (d := d - 1) (by omega) q0 h1) (by omega) (by omega) (by omega) rfl rfl (Nat.le_of_ble_eq_true rfl) dL_offer_3 (g_sameS ?_)
    cases h
    exact g_ret_i hF rfl rfl dL_offer_6 hR (by omega) (by omega)
theorem c_L_offer {d : Nat} {T : gT} {M : gM} {m_a0 : Nat} {a0 : Nat} {i1 : Int32} {i2 : Int32} {r : Int32} (hd : 8 ≤ d) (q0 : T[a0]? = some (8, m_a0)) (h : f_L_offer T M a0 i1 i2 = some (r)) : gRetH d yL_offer cL_offer 4 (some .int) [(0, 6, 7, 47)] 1 6 [.ref a0, .int i1, .int i2] T M (gSame T (some (.int r)) M) := by
  refine gRetH_of (own := RL) (by decide) rfl (Nat.le_of_ble_eq_true rfl) (fun Z ad0 hn h0 hF => ?_)
  exact t_L_offer hF hn hd (Nat.le_refl _) (Nat.le_refl _) q0 h ⟨rfl, rfl, rfl, rfl⟩
theorem t_L_candidates {Z : gZ} {d mc ms : Nat} {Acc : Option Value → (Nat → Nat) → gT → gM → Prop} {AccX : Nat → (Nat → Nat) → gT → gM → Prop} {ad : Nat → Nat} {T : gT} {M : gM} {m_a0 : Nat} {a0 : Nat} {i1 : Int32} {o : Int32} (hFH : gFixH Z cL_candidates RL "candidates" (some .int) [(0, 5, 6, 47)] d mc ms Acc AccX) (hn : Z.2.2.2.2.2.1 = 3) (hd : 8 ≤ d) (hmc : 1 ≤ mc) (hms : 6 ≤ ms) (q0 : T[a0]? = some (8, m_a0)) (h : f_L_candidates T M a0 i1 = some o) (hR : Acc (some (.int o)) ad T M) : gG Z ad T M 0 0 0 [(0, .ref a0), (1, .int i1)] [] := by
  have hF := hFH.fix
  unfold f_L_candidates at h
  refine g_aload_n hF 0 rfl rfl dL_candidates_0 ?_
  refine g_iload_n hF 1 rfl rfl dL_candidates_1 ?_
  obtain ⟨x1, h1, h⟩ := gbnd h
  rcases x1 with k1 | r1
  · replace h := gcase_l h
    by_cases e1_0 : k1 = 2
    · replace h := gif_t e1_0 h
      subst e1_0
      refine g_callVC hFH my_X8_candidates kw_947 kw_948 kw_949 gC_8.1 (by decide) q0 (cx_X8_candidates (d := d - 1) (by omega) q0 h1) (by omega) (by omega) (by omega) rfl rfl (Nat.le_of_ble_eq_true rfl) dL_candidates_2 [] (0, 5, 6, 47) [] rfl (by decide) (by decide) (fun z hz => nomatch hz) kw_946 kn_957 (Or.inl ⟨⟨2, by decide⟩, dL_candidates_6, rfl, rfl⟩) (by rw [hn]; decide) (ls' := [(0, .ref a0), (1, .int i1)]) rfl ?_
      refine g_ldc (v := (-2000000097 : Int32)) hF kw_971 dL_candidates_7 ?_
      cases h
      exact g_ret_i hF rfl rfl dL_candidates_9 hR (by omega) (by omega)
    · replace h := gif_f e1_0 h
      cases h
  · replace h := gcase_r h
    refine g_callV hF my_X8_candidates kw_947 kw_948 kw_949 gC_8.1 (by decide) q0 (c_X8_candidates (d := d - 1) (by omega) q0 h1) (by omega) (by omega) (by omega) rfl rfl (Nat.le_of_ble_eq_true rfl) dL_candidates_2 (g_sameS ?_)
    cases h
    exact g_ret_i hF rfl rfl dL_candidates_5 hR (by omega) (by omega)
theorem c_L_candidates {d : Nat} {T : gT} {M : gM} {m_a0 : Nat} {a0 : Nat} {i1 : Int32} {r : Int32} (hd : 8 ≤ d) (q0 : T[a0]? = some (8, m_a0)) (h : f_L_candidates T M a0 i1 = some (r)) : gRetH d yL_candidates cL_candidates 3 (some .int) [(0, 5, 6, 47)] 1 6 [.ref a0, .int i1] T M (gSame T (some (.int r)) M) := by
  refine gRetH_of (own := RL) (by decide) rfl (Nat.le_of_ble_eq_true rfl) (fun Z ad0 hn h0 hF => ?_)
  exact t_L_candidates hF hn hd (Nat.le_refl _) (Nat.le_refl _) q0 h ⟨rfl, rfl, rfl, rfl⟩
theorem t_L_winner {Z : gZ} {d mc ms : Nat} {Acc : Option Value → (Nat → Nat) → gT → gM → Prop} {AccX : Nat → (Nat → Nat) → gT → gM → Prop} {ad : Nat → Nat} {T : gT} {M : gM} {m_a0 : Nat} {a0 : Nat} {i1 : Int32} {o : Int32} (hFH : gFixH Z cL_winner RL "winner" (some .int) [(0, 5, 6, 47)] d mc ms Acc AccX) (hn : Z.2.2.2.2.2.1 = 3) (hd : 8 ≤ d) (hmc : 1 ≤ mc) (hms : 6 ≤ ms) (q0 : T[a0]? = some (8, m_a0)) (h : f_L_winner T M a0 i1 = some o) (hR : Acc (some (.int o)) ad T M) : gG Z ad T M 0 0 0 [(0, .ref a0), (1, .int i1)] [] := by
  have hF := hFH.fix
  unfold f_L_winner at h
  refine g_aload_n hF 0 rfl rfl dL_winner_0 ?_
  refine g_iload_n hF 1 rfl rfl dL_winner_1 ?_
  obtain ⟨x1, h1, h⟩ := gbnd h
  rcases x1 with k1 | r1
  · replace h := gcase_l h
    by_cases e1_0 : k1 = 2
    · replace h := gif_t e1_0 h
      subst e1_0
      refine g_callVC hFH my_X8_winner kw_1482 kw_1483 kw_1484 gC_8.1 (by decide) q0 (cx_X8_winner (d := d - 1) (by omega) q0 h1) (by omega) (by omega) (by omega) rfl rfl (Nat.le_of_ble_eq_true rfl) dL_winner_2 [] (0, 5, 6, 47) [] rfl (by decide) (by decide) (fun z hz => nomatch hz) kw_946 kn_957 (Or.inl ⟨⟨2, by decide⟩, dL_winner_6, rfl, rfl⟩) (by rw [hn]; decide) (ls' := [(0, .ref a0), (1, .int i1)]) rfl ?_
      refine g_ldc (v := (-2000000097 : Int32)) hF kw_971 dL_winner_7 ?_
      cases h
      exact g_ret_i hF rfl rfl dL_winner_9 hR (by omega) (by omega)
    · replace h := gif_f e1_0 h
      cases h
  · replace h := gcase_r h
    refine g_callV hF my_X8_winner kw_1482 kw_1483 kw_1484 gC_8.1 (by decide) q0 (c_X8_winner (d := d - 1) (by omega) q0 h1) (by omega) (by omega) (by omega) rfl rfl (Nat.le_of_ble_eq_true rfl) dL_winner_2 (g_sameS ?_)
    cases h
    exact g_ret_i hF rfl rfl dL_winner_5 hR (by omega) (by omega)
theorem c_L_winner {d : Nat} {T : gT} {M : gM} {m_a0 : Nat} {a0 : Nat} {i1 : Int32} {r : Int32} (hd : 8 ≤ d) (q0 : T[a0]? = some (8, m_a0)) (h : f_L_winner T M a0 i1 = some (r)) : gRetH d yL_winner cL_winner 3 (some .int) [(0, 5, 6, 47)] 1 6 [.ref a0, .int i1] T M (gSame T (some (.int r)) M) := by
  refine gRetH_of (own := RL) (by decide) rfl (Nat.le_of_ble_eq_true rfl) (fun Z ad0 hn h0 hF => ?_)
  exact t_L_winner hF hn hd (Nat.le_refl _) (Nat.le_refl _) q0 h ⟨rfl, rfl, rfl, rfl⟩
theorem t_L_binding {Z : gZ} {d mc ms : Nat} {Acc : Option Value → (Nat → Nat) → gT → gM → Prop} {AccX : Nat → (Nat → Nat) → gT → gM → Prop} {ad : Nat → Nat} {T : gT} {M : gM} {m_a0 : Nat} {a0 : Nat} {i1 : Int32} {i2 : Int32} {o : Int32} (hFH : gFixH Z cL_binding RL "binding" (some .int) [(0, 6, 7, 47)] d mc ms Acc AccX) (hn : Z.2.2.2.2.2.1 = 4) (hd : 8 ≤ d) (hmc : 1 ≤ mc) (hms : 6 ≤ ms) (q0 : T[a0]? = some (8, m_a0)) (h : f_L_binding T M a0 i1 i2 = some o) (hR : Acc (some (.int o)) ad T M) : gG Z ad T M 0 0 0 [(0, .ref a0), (1, .int i1), (2, .int i2)] [] := by
  have hF := hFH.fix
  unfold f_L_binding at h
  refine g_aload_n hF 0 rfl rfl dL_binding_0 ?_
  refine g_iload_n hF 1 rfl rfl dL_binding_1 ?_
  refine g_iload_n hF 2 rfl rfl dL_binding_2 ?_
  obtain ⟨x1, h1, h⟩ := gbnd h
  rcases x1 with k1 | r1
  · replace h := gcase_l h
    by_cases e1_0 : k1 = 2
    · replace h := gif_t e1_0 h
      subst e1_0
      refine g_callVC hFH my_X8_binding kw_1478 kw_1447 kw_1448 gC_8.1 (by decide) q0 (cx_X8_binding (d := d - 1) (by omega) q0 h1) (by omega) (by omega) (by omega) rfl rfl (Nat.le_of_ble_eq_true rfl) dL_binding_3 [] (0, 6, 7, 47) [] rfl (by decide) (by decide) (fun z hz => nomatch hz) kw_946 kn_957 (Or.inl ⟨⟨3, by decide⟩, dL_binding_7, rfl, rfl⟩) (by rw [hn]; decide) (ls' := [(0, .ref a0), (1, .int i1), (2, .int i2)]) rfl ?_
      refine g_ldc (v := (-2000000097 : Int32)) hF kw_971 dL_binding_8 ?_
      cases h
      exact g_ret_i hF rfl rfl dL_binding_10 hR (by omega) (by omega)
    · replace h := gif_f e1_0 h
      cases h
  · replace h := gcase_r h
    refine g_callV hF my_X8_binding kw_1478 kw_1447 kw_1448 gC_8.1 (by decide) q0 (c_X8_binding (d := d - 1) (by omega) q0 h1) (by omega) (by omega) (by omega) rfl rfl (Nat.le_of_ble_eq_true rfl) dL_binding_3 (g_sameS ?_)
    cases h
    exact g_ret_i hF rfl rfl dL_binding_6 hR (by omega) (by omega)
theorem c_L_binding {d : Nat} {T : gT} {M : gM} {m_a0 : Nat} {a0 : Nat} {i1 : Int32} {i2 : Int32} {r : Int32} (hd : 8 ≤ d) (q0 : T[a0]? = some (8, m_a0)) (h : f_L_binding T M a0 i1 i2 = some (r)) : gRetH d yL_binding cL_binding 4 (some .int) [(0, 6, 7, 47)] 1 6 [.ref a0, .int i1, .int i2] T M (gSame T (some (.int r)) M) := by
  refine gRetH_of (own := RL) (by decide) rfl (Nat.le_of_ble_eq_true rfl) (fun Z ad0 hn h0 hF => ?_)
  exact t_L_binding hF hn hd (Nat.le_refl _) (Nat.le_refl _) q0 h ⟨rfl, rfl, rfl, rfl⟩
theorem t_L_minority {Z : gZ} {d mc ms : Nat} {Acc : Option Value → (Nat → Nat) → gT → gM → Prop} {AccX : Nat → (Nat → Nat) → gT → gM → Prop} {ad : Nat → Nat} {T : gT} {M : gM} {m_a0 : Nat} {a0 : Nat} {i1 : Int32} {o : Int32} (hFH : gFixH Z cL_minority RL "minority" (some .int) [(0, 5, 6, 47)] d mc ms Acc AccX) (hn : Z.2.2.2.2.2.1 = 3) (hd : 8 ≤ d) (hmc : 1 ≤ mc) (hms : 6 ≤ ms) (q0 : T[a0]? = some (8, m_a0)) (h : f_L_minority T M a0 i1 = some o) (hR : Acc (some (.int o)) ad T M) : gG Z ad T M 0 0 0 [(0, .ref a0), (1, .int i1)] [] := by
  have hF := hFH.fix
  unfold f_L_minority at h
  refine g_aload_n hF 0 rfl rfl dL_minority_0 ?_
  refine g_iload_n hF 1 rfl rfl dL_minority_1 ?_
  obtain ⟨x1, h1, h⟩ := gbnd h
  rcases x1 with k1 | r1
  · replace h := gcase_l h
    by_cases e1_0 : k1 = 2
    · replace h := gif_t e1_0 h
      subst e1_0
      refine g_callVC hFH my_X8_minority kw_975 kw_976 kw_977 gC_8.1 (by decide) q0 (cx_X8_minority (d := d - 1) (by omega) q0 h1) (by omega) (by omega) (by omega) rfl rfl (Nat.le_of_ble_eq_true rfl) dL_minority_2 [] (0, 5, 6, 47) [] rfl (by decide) (by decide) (fun z hz => nomatch hz) kw_946 kn_957 (Or.inl ⟨⟨2, by decide⟩, dL_minority_6, rfl, rfl⟩) (by rw [hn]; decide) (ls' := [(0, .ref a0), (1, .int i1)]) rfl ?_
      refine g_ldc (v := (-2000000097 : Int32)) hF kw_971 dL_minority_7 ?_
      cases h
      exact g_ret_i hF rfl rfl dL_minority_9 hR (by omega) (by omega)
    · replace h := gif_f e1_0 h
      cases h
  · replace h := gcase_r h
    refine g_callV hF my_X8_minority kw_975 kw_976 kw_977 gC_8.1 (by decide) q0 (c_X8_minority (d := d - 1) (by omega) q0 h1) (by omega) (by omega) (by omega) rfl rfl (Nat.le_of_ble_eq_true rfl) dL_minority_2 (g_sameS ?_)
    cases h
    exact g_ret_i hF rfl rfl dL_minority_5 hR (by omega) (by omega)
theorem c_L_minority {d : Nat} {T : gT} {M : gM} {m_a0 : Nat} {a0 : Nat} {i1 : Int32} {r : Int32} (hd : 8 ≤ d) (q0 : T[a0]? = some (8, m_a0)) (h : f_L_minority T M a0 i1 = some (r)) : gRetH d yL_minority cL_minority 3 (some .int) [(0, 5, 6, 47)] 1 6 [.ref a0, .int i1] T M (gSame T (some (.int r)) M) := by
  refine gRetH_of (own := RL) (by decide) rfl (Nat.le_of_ble_eq_true rfl) (fun Z ad0 hn h0 hF => ?_)
  exact t_L_minority hF hn hd (Nat.le_refl _) (Nat.le_refl _) q0 h ⟨rfl, rfl, rfl, rfl⟩
theorem t_L_call {Z : gZ} {d mc ms : Nat} {Acc : Option Value → (Nat → Nat) → gT → gM → Prop} {AccX : Nat → (Nat → Nat) → gT → gM → Prop} {ad : Nat → Nat} {T : gT} {M : gM} {m_a0 : Nat} {a0 : Nat} {i1 : Int32} {i2 : Int32} {o : Int32 × gM} (hFH : gFixH Z cL_call RL "call" (some .int) [(0, 6, 7, 47)] d mc ms Acc AccX) (hn : Z.2.2.2.2.2.1 = 4) (hd : 8 ≤ d) (hmc : 1 ≤ mc) (hms : 6 ≤ ms) (q0 : T[a0]? = some (8, m_a0)) (h : f_L_call T M a0 i1 i2 = some o) (hR : Acc (some (.int o.1)) ad T o.2) : gG Z ad T M 0 0 0 [(0, .ref a0), (1, .int i1), (2, .int i2)] [] := by
  have hF := hFH.fix
  unfold f_L_call at h
  refine g_aload_n hF 0 rfl rfl dL_call_0 ?_
  refine g_iload_n hF 1 rfl rfl dL_call_1 ?_
  refine g_iload_n hF 2 rfl rfl dL_call_2 ?_
  obtain ⟨x1, h1, h⟩ := gbnd h
  rcases x1 with k1 | r1
  · replace h := gcase_l h
    by_cases e1_0 : k1 = 2
    · replace h := gif_t e1_0 h
      subst e1_0
      refine g_callVC hFH my_X8_call kw_984 kw_985 kw_986 gC_8.1 (by decide) q0 (cx_X8_call (d := d - 1) (by omega) q0 h1) (by omega) (by omega) (by omega) rfl rfl (Nat.le_of_ble_eq_true rfl) dL_call_3 [] (0, 6, 7, 47) [] rfl (by decide) (by decide) (fun z hz => nomatch hz) kw_946 kn_957 (Or.inl ⟨⟨3, by decide⟩, dL_call_7, rfl, rfl⟩) (by rw [hn]; decide) (ls' := [(0, .ref a0), (1, .int i1), (2, .int i2)]) rfl ?_
      refine g_ldc (v := (-2000000097 : Int32)) hF kw_971 dL_call_8 ?_
      cases h
      exact g_ret_i hF rfl rfl dL_call_10 hR (by omega) (by omega)
    · replace h := gif_f e1_0 h
      cases h
  · replace h := gcase_r h
    refine g_callV hF my_X8_call kw_984 kw_985 kw_986 gC_8.1 (by decide) q0 (c_X8_call (d := d - 1) (by omega) q0 h1) (by omega) (by omega) (by omega) rfl rfl (Nat.le_of_ble_eq_true rfl) dL_call_3 (g_sameS ?_)
    cases h
    exact g_ret_i hF rfl rfl dL_call_6 hR (by omega) (by omega)
theorem c_L_call {d : Nat} {T : gT} {M : gM} {m_a0 : Nat} {a0 : Nat} {i1 : Int32} {i2 : Int32} {r : Int32 × gM} (hd : 8 ≤ d) (q0 : T[a0]? = some (8, m_a0)) (h : f_L_call T M a0 i1 i2 = some (r)) : gRetH d yL_call cL_call 4 (some .int) [(0, 6, 7, 47)] 1 6 [.ref a0, .int i1, .int i2] T M (gSame T (some (.int r.1)) r.2) := by
  refine gRetH_of (own := RL) (by decide) rfl (Nat.le_of_ble_eq_true rfl) (fun Z ad0 hn h0 hF => ?_)
  exact t_L_call hF hn hd (Nat.le_refl _) (Nat.le_refl _) q0 h ⟨rfl, rfl, rfl, rfl⟩
theorem t_L_unload {Z : gZ} {d mc ms : Nat} {Acc : Option Value → (Nat → Nat) → gT → gM → Prop} {AccX : Nat → (Nat → Nat) → gT → gM → Prop} {ad : Nat → Nat} {T : gT} {M : gM} {m_a0 : Nat} {a0 : Nat} {i1 : Int32} {o : Int32 × gM} (hFH : gFixH Z cL_unload RL "unload" (some .int) [(0, 5, 6, 47), (0, 5, 10, 86)] d mc ms Acc AccX) (hn : Z.2.2.2.2.2.1 = 3) (hd : 8 ≤ d) (hmc : 1 ≤ mc) (hms : 6 ≤ ms) (q0 : T[a0]? = some (8, m_a0)) (h : f_L_unload T M a0 i1 = some o) (hR : Acc (some (.int o.1)) ad T o.2) : gG Z ad T M 0 0 0 [(0, .ref a0), (1, .int i1)] [] := by
  have hF := hFH.fix
  unfold f_L_unload at h
  refine g_aload_n hF 0 rfl rfl dL_unload_0 ?_
  refine g_iload_n hF 1 rfl rfl dL_unload_1 ?_
  obtain ⟨x1, h1, h⟩ := gbnd h
  rcases x1 with k1 | r1
  · replace h := gcase_l h
    by_cases e1_0 : k1 = 2
    · replace h := gif_t e1_0 h
      subst e1_0
      refine g_callVC hFH my_X8_unload kw_1003 kw_1004 kw_1005 gC_8.1 (by decide) q0 (cx_X8_unload (d := d - 1) (by omega) q0 h1) (by omega) (by omega) (by omega) rfl rfl (Nat.le_of_ble_eq_true rfl) dL_unload_2 [] (0, 5, 6, 47) [(0, 5, 10, 86)] rfl (by decide) (by decide) (fun z hz => nomatch hz) kw_946 kn_957 (Or.inl ⟨⟨2, by decide⟩, dL_unload_6, rfl, rfl⟩) (by rw [hn]; decide) (ls' := [(0, .ref a0), (1, .int i1)]) rfl ?_
      refine g_ldc (v := (-2000000097 : Int32)) hF kw_971 dL_unload_7 ?_
      cases h
      exact g_ret_i hF rfl rfl dL_unload_9 hR (by omega) (by omega)
    · replace h := gif_f e1_0 h
      by_cases e1_1 : k1 = 3
      · replace h := gif_t e1_1 h
        subst e1_1
        refine g_callVC hFH my_X8_unload kw_1003 kw_1004 kw_1005 gC_8.1 (by decide) q0 (cx_X8_unload (d := d - 1) (by omega) q0 h1) (by omega) (by omega) (by omega) rfl rfl (Nat.le_of_ble_eq_true rfl) dL_unload_2 [(0, 5, 6, 47)] (0, 5, 10, 86) [] rfl (by decide) (by decide) (fun z hz => by rcases List.mem_singleton.mp hz with rfl; exact ⟨by decide, _, kw_946, by decide⟩) kw_1002 kn_1009 (Or.inl ⟨⟨2, by decide⟩, dL_unload_10, rfl, rfl⟩) (by rw [hn]; decide) (ls' := [(0, .ref a0), (1, .int i1)]) rfl ?_
        refine g_ldc (v := (-2000000099 : Int32)) hF kw_1035 dL_unload_11 ?_
        cases h
        exact g_ret_i hF rfl rfl dL_unload_13 hR (by omega) (by omega)
      · replace h := gif_f e1_1 h
        cases h
  · replace h := gcase_r h
    refine g_callV hF my_X8_unload kw_1003 kw_1004 kw_1005 gC_8.1 (by decide) q0 (c_X8_unload (d := d - 1) (by omega) q0 h1) (by omega) (by omega) (by omega) rfl rfl (Nat.le_of_ble_eq_true rfl) dL_unload_2 (g_sameS ?_)
    cases h
    exact g_ret_i hF rfl rfl dL_unload_5 hR (by omega) (by omega)
theorem c_L_unload {d : Nat} {T : gT} {M : gM} {m_a0 : Nat} {a0 : Nat} {i1 : Int32} {r : Int32 × gM} (hd : 8 ≤ d) (q0 : T[a0]? = some (8, m_a0)) (h : f_L_unload T M a0 i1 = some (r)) : gRetH d yL_unload cL_unload 3 (some .int) [(0, 5, 6, 47), (0, 5, 10, 86)] 1 6 [.ref a0, .int i1] T M (gSame T (some (.int r.1)) r.2) := by
  refine gRetH_of (own := RL) (by decide) rfl (Nat.le_of_ble_eq_true rfl) (fun Z ad0 hn h0 hF => ?_)
  exact t_L_unload hF hn hd (Nat.le_refl _) (Nat.le_refl _) q0 h ⟨rfl, rfl, rfl, rfl⟩
theorem t_L_reload {Z : gZ} {d mc ms : Nat} {Acc : Option Value → (Nat → Nat) → gT → gM → Prop} {AccX : Nat → (Nat → Nat) → gT → gM → Prop} {ad : Nat → Nat} {T : gT} {M : gM} {m_a0 : Nat} {a0 : Nat} {i1 : Int32} {o : Int32 × gM} (hFH : gFixH Z cL_reload RL "reload" (some .int) [(0, 5, 6, 47), (0, 5, 10, 86)] d mc ms Acc AccX) (hn : Z.2.2.2.2.2.1 = 3) (hd : 8 ≤ d) (hmc : 1 ≤ mc) (hms : 6 ≤ ms) (q0 : T[a0]? = some (8, m_a0)) (h : f_L_reload T M a0 i1 = some o) (hR : Acc (some (.int o.1)) ad T o.2) : gG Z ad T M 0 0 0 [(0, .ref a0), (1, .int i1)] [] := by
  have hF := hFH.fix
  unfold f_L_reload at h
  refine g_aload_n hF 0 rfl rfl dL_reload_0 ?_
  refine g_iload_n hF 1 rfl rfl dL_reload_1 ?_
  obtain ⟨x1, h1, h⟩ := gbnd h
  rcases x1 with k1 | r1
  · replace h := gcase_l h
    by_cases e1_0 : k1 = 2
    · replace h := gif_t e1_0 h
      subst e1_0
      refine g_callVC hFH my_X8_reload kw_1039 kw_1040 kw_1041 gC_8.1 (by decide) q0 (cx_X8_reload (d := d - 1) (by omega) q0 h1) (by omega) (by omega) (by omega) rfl rfl (Nat.le_of_ble_eq_true rfl) dL_reload_2 [] (0, 5, 6, 47) [(0, 5, 10, 86)] rfl (by decide) (by decide) (fun z hz => nomatch hz) kw_946 kn_957 (Or.inl ⟨⟨2, by decide⟩, dL_reload_6, rfl, rfl⟩) (by rw [hn]; decide) (ls' := [(0, .ref a0), (1, .int i1)]) rfl ?_
      refine g_ldc (v := (-2000000097 : Int32)) hF kw_971 dL_reload_7 ?_
      cases h
      exact g_ret_i hF rfl rfl dL_reload_9 hR (by omega) (by omega)
    · replace h := gif_f e1_0 h
      by_cases e1_1 : k1 = 3
      · replace h := gif_t e1_1 h
        subst e1_1
        refine g_callVC hFH my_X8_reload kw_1039 kw_1040 kw_1041 gC_8.1 (by decide) q0 (cx_X8_reload (d := d - 1) (by omega) q0 h1) (by omega) (by omega) (by omega) rfl rfl (Nat.le_of_ble_eq_true rfl) dL_reload_2 [(0, 5, 6, 47)] (0, 5, 10, 86) [] rfl (by decide) (by decide) (fun z hz => by rcases List.mem_singleton.mp hz with rfl; exact ⟨by decide, _, kw_946, by decide⟩) kw_1002 kn_1009 (Or.inl ⟨⟨2, by decide⟩, dL_reload_10, rfl, rfl⟩) (by rw [hn]; decide) (ls' := [(0, .ref a0), (1, .int i1)]) rfl ?_
        refine g_ldc (v := (-2000000099 : Int32)) hF kw_1035 dL_reload_11 ?_
        cases h
        exact g_ret_i hF rfl rfl dL_reload_13 hR (by omega) (by omega)
      · replace h := gif_f e1_1 h
        cases h
  · replace h := gcase_r h
    refine g_callV hF my_X8_reload kw_1039 kw_1040 kw_1041 gC_8.1 (by decide) q0 (c_X8_reload (d := d - 1) (by omega) q0 h1) (by omega) (by omega) (by omega) rfl rfl (Nat.le_of_ble_eq_true rfl) dL_reload_2 (g_sameS ?_)
    cases h
    exact g_ret_i hF rfl rfl dL_reload_5 hR (by omega) (by omega)
theorem c_L_reload {d : Nat} {T : gT} {M : gM} {m_a0 : Nat} {a0 : Nat} {i1 : Int32} {r : Int32 × gM} (hd : 8 ≤ d) (q0 : T[a0]? = some (8, m_a0)) (h : f_L_reload T M a0 i1 = some (r)) : gRetH d yL_reload cL_reload 3 (some .int) [(0, 5, 6, 47), (0, 5, 10, 86)] 1 6 [.ref a0, .int i1] T M (gSame T (some (.int r.1)) r.2) := by
  refine gRetH_of (own := RL) (by decide) rfl (Nat.le_of_ble_eq_true rfl) (fun Z ad0 hn h0 hF => ?_)
  exact t_L_reload hF hn hd (Nat.le_refl _) (Nat.le_refl _) q0 h ⟨rfl, rfl, rfl, rfl⟩
