theorem t_X5_readNumber {Z : gZ} {d mc ms : Nat} {Acc : Option Value → (Nat → Nat) → gT → gM → Prop} {AccX : Nat → (Nat → Nat) → gT → gM → Prop} {ad : Nat → Nat} {T : gT} {M : gM} {m_a0 : Nat} {a0 : Nat} {i1 : Int32} {o : Int32 × gM} (hF : gFix Z cX5_readNumber RX5 "readNumber" (some .boolean) d mc ms Acc AccX) (hn : Z.2.2.2.2.2.1 = 2) (hd : 3 ≤ d) (q0 : T[a0]? = some (5, m_a0)) (h : f_X5_readNumber T M a0 i1 = some o) (hR : Acc (some (.int o.1)) ad T o.2) : gG Z ad T M 0 0 0 [(0, .ref a0), (1, .int i1)] [] := by
  unfold f_X5_readNumber at h
  refine g_aload_n hF 0 rfl rfl dX5_readNumber_0 ?_
  obtain ⟨b1, h1, h⟩ := gbnd h
  obtain ⟨g1, l1, q_b1⟩ := ldr_sp h1
  refine g_get_r hF g1 fl_RX5_12 q0 dX5_readNumber_1 ?_
  refine g_get_iN hF fn_RX5_79 q_b1 dX5_readNumber_4 ?_
  refine g_iconst (v := (2 : Int32)) hF rfl dX5_readNumber_7 ?_
  refine g_icmp_eq (tgt := 16) hF dX5_readNumber_8 (by decide) (fun c2 => ?_) (fun c2 => ?_)
  · replace h := gif_t c2 h
    refine g_aload_n hF 0 rfl rfl dX5_readNumber_16 ?_
    obtain ⟨b3, h3, h⟩ := gbnd h
    obtain ⟨g3, l3, q_b3⟩ := ldr_sp h3
    refine g_get_r hF g3 fl_RX5_12 q0 dX5_readNumber_17 ?_
    refine g_get_iN hF fn_RX5_213 q_b3 dX5_readNumber_20 ?_
    refine g_iload_n hF 1 rfl rfl dX5_readNumber_23 ?_
    refine g_icmp_le (tgt := 34) hF dX5_readNumber_24 (by decide) (fun c4 => ?_) (fun c4 => ?_)
    · replace h := gif_t c4 h
      refine g_aload_n hF 0 rfl rfl dX5_readNumber_34 ?_
      refine g_aload_n hF 0 rfl rfl dX5_readNumber_35 ?_
      obtain ⟨b5, h5, h⟩ := gbnd h
      obtain ⟨g5, l5, q_b5⟩ := ldr_sp h5
      refine g_get_r hF g5 fl_RX5_12 q0 dX5_readNumber_36 ?_
      refine g_get_iN hF fn_RX5_213 q_b5 dX5_readNumber_39 ?_
      refine g_put_i hF rfl rfl fl_RX5_47 q0 dX5_readNumber_42 ?_
      refine g_aload_n hF 0 rfl rfl dX5_readNumber_45 ?_
      obtain ⟨b6, h6, h⟩ := gbnd h
      obtain ⟨g6, l6, q_b6⟩ := ldr_sp h6
      refine g_get_r hF g6 fl_RX5_12 q0 dX5_readNumber_46 ?_
      obtain ⟨x7, h7, h⟩ := gbnd h
      refine g_callVN hF my_X6_advance kn_821 kw_738 kw_24 gC_6.1 (by decide) q_b6 (c_X6_advance (d := d - 1) (by omega) q_b6 h7) (by omega) (Nat.zero_le _) (Nat.zero_le _) rfl rfl (Nat.le_of_ble_eq_true rfl) dX5_readNumber_49 (g_sameN ?_)
      refine g_iconst (v := (1 : Int32)) hF rfl dX5_readNumber_52 ?_
      cases h
      exact g_ret_i hF rfl rfl dX5_readNumber_53 hR (Nat.zero_le _) (Nat.zero_le _)
    · replace h := gif_f c4 h
      refine g_aload_n hF 0 rfl rfl dX5_readNumber_27 ?_
      refine g_bipush (v := (-3 : Int32)) hF rfl dX5_readNumber_28 ?_
      obtain ⟨x8, h8, h⟩ := gbnd h
      refine g_callV hF my_X5_error kw_817 kw_819 kw_31 gC_5.1 (by decide) q0 (c_X5_error (d := d - 1) (by omega) q0 h8) (by omega) (Nat.zero_le _) (Nat.zero_le _) rfl rfl (Nat.le_of_ble_eq_true rfl) dX5_readNumber_30 (g_sameS ?_)
      obtain ⟨_, h9, h⟩ := gbnd h
      cases h
      exact g_ret_i hF rfl (gbool (chk_sp h9)) dX5_readNumber_33 hR (Nat.zero_le _) (Nat.zero_le _)
  · replace h := gif_f c2 h
    refine g_aload_n hF 0 rfl rfl dX5_readNumber_11 ?_
    obtain ⟨x10, h10, h⟩ := gbnd h
    refine g_callV hF my_X5_syntaxError kw_813 kw_815 kw_30 gC_5.1 (by decide) q0 (c_X5_syntaxError (d := d - 1) (by omega) q0 h10) (by omega) (Nat.zero_le _) (Nat.zero_le _) rfl rfl (Nat.le_of_ble_eq_true rfl) dX5_readNumber_12 (g_sameS ?_)
    obtain ⟨_, h11, h⟩ := gbnd h
    cases h
    exact g_ret_i hF rfl (gbool (chk_sp h11)) dX5_readNumber_15 hR (Nat.zero_le _) (Nat.zero_le _)
theorem c_X5_readNumber {d : Nat} {T : gT} {M : gM} {m_a0 : Nat} {a0 : Nat} {i1 : Int32} {r : Int32 × gM} (hd : 3 ≤ d) (q0 : T[a0]? = some (5, m_a0)) (h : f_X5_readNumber T M a0 i1 = some (r)) : gRet d yX5_readNumber cX5_readNumber 2 (some .boolean) 0 0 [.ref a0, .int i1] T M (gSame T (some (.int r.1)) r.2) := by
  refine gRet_of (own := RX5) (by decide) rfl (Nat.le_of_ble_eq_true rfl) (fun Z ad0 hn h0 hF => ?_)
  exact t_X5_readNumber hF hn hd q0 h ⟨rfl, rfl, rfl, rfl⟩
theorem t_X5_readNewLibrary {Z : gZ} {d mc ms : Nat} {Acc : Option Value → (Nat → Nat) → gT → gM → Prop} {AccX : Nat → (Nat → Nat) → gT → gM → Prop} {ad : Nat → Nat} {T : gT} {M : gM} {m_a0 : Nat} {a0 : Nat} {o : Int32 × gM} (hF : gFix Z cX5_readNewLibrary RX5 "readNewLibrary" (some .boolean) d mc ms Acc AccX) (hn : Z.2.2.2.2.2.1 = 2) (hd : 6 ≤ d) (q0 : T[a0]? = some (5, m_a0)) (h : f_X5_readNewLibrary T M a0 = some o) (hR : Acc (some (.int o.1)) ad T o.2) : gG Z ad T M 0 0 0 [(0, .ref a0)] [] := by
  unfold f_X5_readNewLibrary at h
  refine g_aload_n hF 0 rfl rfl dX5_readNewLibrary_0 ?_
  obtain ⟨b1, h1, h⟩ := gbnd h
  obtain ⟨g1, l1, q_b1⟩ := ldr_sp h1
  refine g_get_r hF g1 fl_RX5_21 q0 dX5_readNewLibrary_1 ?_
  refine g_get_iN hF fn_RX5_148 q_b1 dX5_readNewLibrary_4 ?_
  refine g_bipush (v := (8 : Int32)) hF rfl dX5_readNewLibrary_7 ?_
  refine g_icmp_lt (tgt := 19) hF dX5_readNewLibrary_9 (by decide) (fun c2 => ?_) (fun c2 => ?_)
  · replace h := gif_t c2 h
    refine g_aload_n hF 0 rfl rfl dX5_readNewLibrary_19 ?_
    obtain ⟨b3, h3, h⟩ := gbnd h
    obtain ⟨g3, l3, q_b3⟩ := ldr_sp h3
    refine g_get_r hF g3 fl_RX5_12 q0 dX5_readNewLibrary_20 ?_
    obtain ⟨x4, h4, h⟩ := gbnd h
    refine g_callVN hF my_X6_advance kn_821 kw_738 kw_24 gC_6.1 (by decide) q_b3 (c_X6_advance (d := d - 1) (by omega) q_b3 h4) (by omega) (Nat.zero_le _) (Nat.zero_le _) rfl rfl (Nat.le_of_ble_eq_true rfl) dX5_readNewLibrary_23 (g_sameN ?_)
    refine g_aload_n hF 0 rfl rfl dX5_readNewLibrary_26 ?_
    refine g_aload_n hF 0 rfl rfl dX5_readNewLibrary_27 ?_
    obtain ⟨b5, h5, h⟩ := gbnd h
    obtain ⟨g5, l5, q_b5⟩ := ldr_sp h5
    refine g_get_r hF g5 fl_RX5_25 q0 dX5_readNewLibrary_28 ?_
    refine g_aload_n hF 0 rfl rfl dX5_readNewLibrary_31 ?_
    obtain ⟨b6, h6, h⟩ := gbnd h
    obtain ⟨g6, l6, q_b6⟩ := ldr_sp h6
    refine g_get_r hF g6 fl_RX5_21 q0 dX5_readNewLibrary_32 ?_
    refine g_get_iN hF fn_RX5_148 q_b6 dX5_readNewLibrary_35 ?_
    obtain ⟨x7, h7, h⟩ := gbnd h
    refine g_callV hF my_X5_readNewWord kw_839 kw_841 kw_36 gC_5.1 (by decide) q0 (c_X5_readNewWord (d := d - 1) (by omega) q0 q_b5 h7) (by omega) (Nat.zero_le _) (Nat.zero_le _) rfl rfl (Nat.le_of_ble_eq_true rfl) dX5_readNewLibrary_38 (g_sameS ?_)
    refine g_if_eq (tgt := 54) hF dX5_readNewLibrary_41 (by decide) (fun c8 => ?_) (fun c8 => ?_)
    · replace h := gif_t c8 h
      refine g_iconst (v := (0 : Int32)) hF rfl dX5_readNewLibrary_54 ?_
      cases h
      exact g_ret_i hF rfl rfl dX5_readNewLibrary_55 hR (Nat.zero_le _) (Nat.zero_le _)
    · replace h := gif_f c8 h
      refine g_aload_n hF 0 rfl rfl dX5_readNewLibrary_44 ?_
      refine g_sipush (v := (999 : Int32)) hF rfl dX5_readNewLibrary_45 ?_
      obtain ⟨x9, h9, h⟩ := gbnd h
      refine g_callV hF my_X5_readNumber kw_852 kw_854 kw_39 gC_5.1 (by decide) q0 (c_X5_readNumber (d := d - 1) (by omega) q0 h9) (by omega) (Nat.zero_le _) (Nat.zero_le _) rfl rfl (Nat.le_of_ble_eq_true rfl) dX5_readNewLibrary_48 (g_sameS ?_)
      refine g_if_ne (tgt := 56) hF dX5_readNewLibrary_51 (by decide) (fun c10 => ?_) (fun c10 => ?_)
      · replace h := gif_t c10 h
        refine g_aload_n hF 0 rfl rfl dX5_readNewLibrary_56 ?_
        obtain ⟨b11, h11, h⟩ := gbnd h
        obtain ⟨g11, l11, q_b11⟩ := ldr_sp h11
        refine g_get_r hF g11 fl_RX5_21 q0 dX5_readNewLibrary_57 ?_
        obtain ⟨b12, h12, h⟩ := gbnd h
        obtain ⟨g12, l12, q_b12⟩ := ldr_sp h12
        refine g_get_rN hF g12 fn_RX5_154 q_b11 dX5_readNewLibrary_60 ?_
        refine g_aload_n hF 0 rfl rfl dX5_readNewLibrary_63 ?_
        obtain ⟨b13, h13, h⟩ := gbnd h
        obtain ⟨g13, l13, q_b13⟩ := ldr_sp h13
        refine g_get_r hF g13 fl_RX5_21 q0 dX5_readNewLibrary_64 ?_
        refine g_get_iN hF fn_RX5_148 q_b13 dX5_readNewLibrary_67 ?_
        obtain ⟨b14, h14, h⟩ := gbnd h
        obtain ⟨i14h, g14, l14, q_b14⟩ := aldr_sp q_b12 h14
        refine g_aald hF q_b12 (Or.inr (Or.inl ⟨rfl, rfl⟩)) i14h g14 dX5_readNewLibrary_70 ?_
        refine g_astore_n (ls' := [(1, .ref b14), (0, .ref a0)]) hF rfl (by rw [hn]; decide) rfl dX5_readNewLibrary_71 ?_
        refine g_aload_n hF 0 rfl rfl dX5_readNewLibrary_72 ?_
        refine g_aload_n hF 1 rfl rfl dX5_readNewLibrary_73 ?_
        refine g_get_i hF fl_RX5_47 q0 dX5_readNewLibrary_74 ?_
        refine g_aload_n hF 1 rfl rfl dX5_readNewLibrary_77 ?_
        obtain ⟨b15, h15, h⟩ := gbnd h
        obtain ⟨g15, l15, q_b15⟩ := ldr_sp h15
        refine g_get_r hF g15 fl_RX5_21 q0 dX5_readNewLibrary_78 ?_
        refine g_get_iN hF fn_RX5_148 q_b15 dX5_readNewLibrary_81 ?_
        obtain ⟨x16, h16, h⟩ := gbnd h
        refine g_callVN hF my_X3_startAs kn_856 kw_858 kw_40 gC_3.1 (by decide) q_b14 (c_X3_startAs (d := d - 1) (by omega) q_b14 h16) (by omega) (Nat.zero_le _) (Nat.zero_le _) rfl rfl (Nat.le_of_ble_eq_true rfl) dX5_readNewLibrary_84 (g_sameN ?_)
        refine g_aload_n hF 1 rfl rfl dX5_readNewLibrary_87 ?_
        obtain ⟨b17, h17, h⟩ := gbnd h
        obtain ⟨g17, l17, q_b17⟩ := ldr_sp h17
        refine g_get_r hF g17 fl_RX5_21 q0 dX5_readNewLibrary_88 ?_
        refine g_dup hF rfl dX5_readNewLibrary_91 ?_
        refine g_get_iN hF fn_RX5_148 q_b17 dX5_readNewLibrary_92 ?_
        refine g_iconst (v := (1 : Int32)) hF rfl dX5_readNewLibrary_95 ?_
        refine g_iadd hF dX5_readNewLibrary_96 ?_
        refine g_putN_i hF rfl rfl fn_RX5_148 q_b17 dX5_readNewLibrary_97 ?_
        refine g_aload_n hF 1 rfl rfl dX5_readNewLibrary_100 ?_
        obtain ⟨b18, h18, h⟩ := gbnd h
        obtain ⟨g18, l18, q_b18⟩ := ldr_sp h18
        refine g_get_r hF g18 fl_RX5_12 q0 dX5_readNewLibrary_101 ?_
        refine g_ldcS (tx := "keeps") (a := gSB + 7) hF (by decide +kernel) (Nat.le_add_right _ _) dX5_readNewLibrary_104 ?_
        obtain ⟨x19, h19, h⟩ := gbnd h
        refine g_callVN hF my_X6_isWord kn_758 kw_760 kw_29 gC_6.1 (by decide) q_b18 (c_X6_isWord (d := d - 1) (by omega) q_b18 h19) (by omega) (Nat.zero_le _) (Nat.zero_le _) rfl rfl (Nat.le_of_ble_eq_true rfl) dX5_readNewLibrary_106 (g_sameS ?_)
        refine g_if_eq (tgt := 124) hF dX5_readNewLibrary_109 (by decide) (fun c20 => ?_) (fun c20 => ?_)
        · replace h := gif_t c20 h
          refine g_iconst (v := (1 : Int32)) hF rfl dX5_readNewLibrary_124 ?_
          cases h
          exact g_ret_i hF rfl rfl dX5_readNewLibrary_125 hR (Nat.zero_le _) (Nat.zero_le _)
        · replace h := gif_f c20 h
          refine g_aload_n hF 0 rfl rfl dX5_readNewLibrary_112 ?_
          refine g_iconst (v := (1 : Int32)) hF rfl dX5_readNewLibrary_113 ?_
          refine g_putN_i hF rfl rfl fn_RX5_166 q_b14 dX5_readNewLibrary_114 ?_
          refine g_aload_n hF 1 rfl rfl dX5_readNewLibrary_117 ?_
          obtain ⟨b21, h21, h⟩ := gbnd h
          obtain ⟨g21, l21, q_b21⟩ := ldr_sp h21
          refine g_get_r hF g21 fl_RX5_12 q0 dX5_readNewLibrary_118 ?_
          obtain ⟨x22, h22, h⟩ := gbnd h
          refine g_callVN hF my_X6_advance kn_821 kw_738 kw_24 gC_6.1 (by decide) q_b21 (c_X6_advance (d := d - 1) (by omega) q_b21 h22) (by omega) (Nat.zero_le _) (Nat.zero_le _) rfl rfl (Nat.le_of_ble_eq_true rfl) dX5_readNewLibrary_121 (g_sameN ?_)
          refine g_iconst (v := (1 : Int32)) hF rfl dX5_readNewLibrary_124 ?_
          cases h
          exact g_ret_i hF rfl rfl dX5_readNewLibrary_125 hR (Nat.zero_le _) (Nat.zero_le _)
      · replace h := gif_n c10 h
        refine g_iconst (v := (0 : Int32)) hF rfl dX5_readNewLibrary_54 ?_
        cases h
        exact g_ret_i hF rfl rfl dX5_readNewLibrary_55 hR (Nat.zero_le _) (Nat.zero_le _)
  · replace h := gif_f c2 h
    refine g_aload_n hF 0 rfl rfl dX5_readNewLibrary_12 ?_
    refine g_bipush (v := (-6 : Int32)) hF rfl dX5_readNewLibrary_13 ?_
    obtain ⟨x23, h23, h⟩ := gbnd h
    refine g_callV hF my_X5_error kw_817 kw_819 kw_31 gC_5.1 (by decide) q0 (c_X5_error (d := d - 1) (by omega) q0 h23) (by omega) (Nat.zero_le _) (Nat.zero_le _) rfl rfl (Nat.le_of_ble_eq_true rfl) dX5_readNewLibrary_15 (g_sameS ?_)
    obtain ⟨_, h24, h⟩ := gbnd h
    cases h
    exact g_ret_i hF rfl (gbool (chk_sp h24)) dX5_readNewLibrary_18 hR (Nat.zero_le _) (Nat.zero_le _)
theorem c_X5_readNewLibrary {d : Nat} {T : gT} {M : gM} {m_a0 : Nat} {a0 : Nat} {r : Int32 × gM} (hd : 6 ≤ d) (q0 : T[a0]? = some (5, m_a0)) (h : f_X5_readNewLibrary T M a0 = some (r)) : gRet d yX5_readNewLibrary cX5_readNewLibrary 2 (some .boolean) 0 0 [.ref a0] T M (gSame T (some (.int r.1)) r.2) := by
  refine gRet_of (own := RX5) (by decide) rfl (Nat.le_of_ble_eq_true rfl) (fun Z ad0 hn h0 hF => ?_)
  exact t_X5_readNewLibrary hF hn hd q0 h ⟨rfl, rfl, rfl, rfl⟩
theorem t_X5_findWord {Z : gZ} {d mc ms : Nat} {Acc : Option Value → (Nat → Nat) → gT → gM → Prop} {AccX : Nat → (Nat → Nat) → gT → gM → Prop} {ad : Nat → Nat} {T : gT} {M : gM} {m_a0 m_a1 : Nat} {a0 : Nat} {a1 : Nat} {i2 : Int32} {o : Int32 × gM} (hF : gFix Z cX5_findWord RX5 "findWord" (some .boolean) d mc ms Acc AccX) (hn : Z.2.2.2.2.2.1 = 4) (hd : 3 ≤ d) (q0 : T[a0]? = some (5, m_a0)) (q1 : T[a1]? = some (12, m_a1)) (h : f_X5_findWord T M a0 a1 i2 = some o) (hR : Acc (some (.int o.1)) ad T o.2) : gG Z ad T M 0 0 0 [(0, .ref a0), (1, .ref a1), (2, .int i2)] [] := by
  unfold f_X5_findWord at h
  refine g_aload_n hF 0 rfl rfl dX5_findWord_0 ?_
  obtain ⟨b1, h1, h⟩ := gbnd h
  obtain ⟨g1, l1, q_b1⟩ := ldr_sp h1
  refine g_get_r hF g1 fl_RX5_12 q0 dX5_findWord_1 ?_
  refine g_get_iN hF fn_RX5_79 q_b1 dX5_findWord_4 ?_
  refine g_iconst (v := (1 : Int32)) hF rfl dX5_findWord_7 ?_
  refine g_icmp_eq (tgt := 16) hF dX5_findWord_8 (by decide) (fun c2 => ?_) (fun c2 => ?_)
  · replace h := gif_t c2 h
    refine g_aload_n hF 0 rfl rfl dX5_findWord_16 ?_
    refine g_aload_n hF 1 rfl rfl dX5_findWord_17 ?_
    refine g_iload_n hF 2 rfl rfl dX5_findWord_18 ?_
    obtain ⟨x3, h3, h⟩ := gbnd h
    refine g_callV hF my_X5_indexOfWord kw_843 kw_845 kw_37 gC_5.1 (by decide) q0 (c_X5_indexOfWord (d := d - 1) (by omega) q0 q1 h3) (by omega) (Nat.zero_le _) (Nat.zero_le _) rfl rfl (Nat.le_of_ble_eq_true rfl) dX5_findWord_19 (g_sameS ?_)
    refine g_istore_n (ls' := [(3, .int x3), (0, .ref a0), (1, .ref a1), (2, .int i2)]) hF rfl (by rw [hn]; decide) rfl dX5_findWord_22 ?_
    refine g_iload_n hF 0 rfl rfl dX5_findWord_23 ?_
    refine g_iconst (v := (-1 : Int32)) hF rfl dX5_findWord_24 ?_
    refine g_icmp_ne (tgt := 35) hF dX5_findWord_25 (by decide) (fun c4 => ?_) (fun c4 => ?_)
    · replace h := gif_t c4 h
      refine g_aload_n hF 1 rfl rfl dX5_findWord_35 ?_
      refine g_iload_n hF 0 rfl rfl dX5_findWord_36 ?_
      refine g_put_i hF rfl rfl fl_RX5_47 q0 dX5_findWord_37 ?_
      refine g_iconst (v := (1 : Int32)) hF rfl dX5_findWord_40 ?_
      cases h
      exact g_ret_i hF rfl rfl dX5_findWord_41 hR (Nat.zero_le _) (Nat.zero_le _)
    · replace h := gif_n c4 h
      refine g_aload_n hF 1 rfl rfl dX5_findWord_28 ?_
      refine g_bipush (v := (-4 : Int32)) hF rfl dX5_findWord_29 ?_
      obtain ⟨x5, h5, h⟩ := gbnd h
      refine g_callV hF my_X5_error kw_817 kw_819 kw_31 gC_5.1 (by decide) q0 (c_X5_error (d := d - 1) (by omega) q0 h5) (by omega) (Nat.zero_le _) (Nat.zero_le _) rfl rfl (Nat.le_of_ble_eq_true rfl) dX5_findWord_31 (g_sameS ?_)
      obtain ⟨_, h6, h⟩ := gbnd h
      cases h
      exact g_ret_i hF rfl (gbool (chk_sp h6)) dX5_findWord_34 hR (Nat.zero_le _) (Nat.zero_le _)
  · replace h := gif_f c2 h
    refine g_aload_n hF 0 rfl rfl dX5_findWord_11 ?_
    obtain ⟨x7, h7, h⟩ := gbnd h
    refine g_callV hF my_X5_syntaxError kw_813 kw_815 kw_30 gC_5.1 (by decide) q0 (c_X5_syntaxError (d := d - 1) (by omega) q0 h7) (by omega) (Nat.zero_le _) (Nat.zero_le _) rfl rfl (Nat.le_of_ble_eq_true rfl) dX5_findWord_12 (g_sameS ?_)
    obtain ⟨_, h8, h⟩ := gbnd h
    cases h
    exact g_ret_i hF rfl (gbool (chk_sp h8)) dX5_findWord_15 hR (Nat.zero_le _) (Nat.zero_le _)
theorem c_X5_findWord {d : Nat} {T : gT} {M : gM} {m_a0 m_a1 : Nat} {a0 : Nat} {a1 : Nat} {i2 : Int32} {r : Int32 × gM} (hd : 3 ≤ d) (q0 : T[a0]? = some (5, m_a0)) (q1 : T[a1]? = some (12, m_a1)) (h : f_X5_findWord T M a0 a1 i2 = some (r)) : gRet d yX5_findWord cX5_findWord 4 (some .boolean) 0 0 [.ref a0, .ref a1, .int i2] T M (gSame T (some (.int r.1)) r.2) := by
  refine gRet_of (own := RX5) (by decide) rfl (Nat.le_of_ble_eq_true rfl) (fun Z ad0 hn h0 hF => ?_)
  exact t_X5_findWord hF hn hd q0 q1 h ⟨rfl, rfl, rfl, rfl⟩
theorem t_X5_findLibrary {Z : gZ} {d mc ms : Nat} {Acc : Option Value → (Nat → Nat) → gT → gM → Prop} {AccX : Nat → (Nat → Nat) → gT → gM → Prop} {ad : Nat → Nat} {T : gT} {M : gM} {m_a0 : Nat} {a0 : Nat} {o : Int32 × gM} (hF : gFix Z cX5_findLibrary RX5 "findLibrary" (some .boolean) d mc ms Acc AccX) (hn : Z.2.2.2.2.2.1 = 1) (hd : 4 ≤ d) (q0 : T[a0]? = some (5, m_a0)) (h : f_X5_findLibrary T M a0 = some o) (hR : Acc (some (.int o.1)) ad T o.2) : gG Z ad T M 0 0 0 [(0, .ref a0)] [] := by
  unfold f_X5_findLibrary at h
  refine g_aload_n hF 0 rfl rfl dX5_findLibrary_0 ?_
  refine g_aload_n hF 0 rfl rfl dX5_findLibrary_1 ?_
  obtain ⟨b1, h1, h⟩ := gbnd h
  obtain ⟨g1, l1, q_b1⟩ := ldr_sp h1
  refine g_get_r hF g1 fl_RX5_25 q0 dX5_findLibrary_2 ?_
  refine g_aload_n hF 0 rfl rfl dX5_findLibrary_5 ?_
  obtain ⟨b2, h2, h⟩ := gbnd h
  obtain ⟨g2, l2, q_b2⟩ := ldr_sp h2
  refine g_get_r hF g2 fl_RX5_21 q0 dX5_findLibrary_6 ?_
  refine g_get_iN hF fn_RX5_148 q_b2 dX5_findLibrary_9 ?_
  obtain ⟨x3, h3, h⟩ := gbnd h
  refine g_callV hF my_X5_findWord kw_873 kw_875 kw_43 gC_5.1 (by decide) q0 (c_X5_findWord (d := d - 1) (by omega) q0 q_b1 h3) (by omega) (Nat.zero_le _) (Nat.zero_le _) rfl rfl (Nat.le_of_ble_eq_true rfl) dX5_findLibrary_12 (g_sameS ?_)
  obtain ⟨_, h4, h⟩ := gbnd h
  cases h
  exact g_ret_i hF rfl (gbool (chk_sp h4)) dX5_findLibrary_15 hR (Nat.zero_le _) (Nat.zero_le _)
theorem c_X5_findLibrary {d : Nat} {T : gT} {M : gM} {m_a0 : Nat} {a0 : Nat} {r : Int32 × gM} (hd : 4 ≤ d) (q0 : T[a0]? = some (5, m_a0)) (h : f_X5_findLibrary T M a0 = some (r)) : gRet d yX5_findLibrary cX5_findLibrary 1 (some .boolean) 0 0 [.ref a0] T M (gSame T (some (.int r.1)) r.2) := by
  refine gRet_of (own := RX5) (by decide) rfl (Nat.le_of_ble_eq_true rfl) (fun Z ad0 hn h0 hF => ?_)
  exact t_X5_findLibrary hF hn hd q0 h ⟨rfl, rfl, rfl, rfl⟩
theorem t_X5_findName {Z : gZ} {d mc ms : Nat} {Acc : Option Value → (Nat → Nat) → gT → gM → Prop} {AccX : Nat → (Nat → Nat) → gT → gM → Prop} {ad : Nat → Nat} {T : gT} {M : gM} {m_a0 : Nat} {a0 : Nat} {o : Int32 × gM} (hF : gFix Z cX5_findName RX5 "findName" (some .boolean) d mc ms Acc AccX) (hn : Z.2.2.2.2.2.1 = 1) (hd : 4 ≤ d) (q0 : T[a0]? = some (5, m_a0)) (h : f_X5_findName T M a0 = some o) (hR : Acc (some (.int o.1)) ad T o.2) : gG Z ad T M 0 0 0 [(0, .ref a0)] [] := by
  unfold f_X5_findName at h
  refine g_aload_n hF 0 rfl rfl dX5_findName_0 ?_
  refine g_aload_n hF 0 rfl rfl dX5_findName_1 ?_
  obtain ⟨b1, h1, h⟩ := gbnd h
  obtain ⟨g1, l1, q_b1⟩ := ldr_sp h1
  refine g_get_r hF g1 fl_RX5_29 q0 dX5_findName_2 ?_
  refine g_aload_n hF 0 rfl rfl dX5_findName_5 ?_
  obtain ⟨b2, h2, h⟩ := gbnd h
  obtain ⟨g2, l2, q_b2⟩ := ldr_sp h2
  refine g_get_r hF g2 fl_RX5_21 q0 dX5_findName_6 ?_
  refine g_get_iN hF fn_RX5_134 q_b2 dX5_findName_9 ?_
  obtain ⟨x3, h3, h⟩ := gbnd h
  refine g_callV hF my_X5_findWord kw_873 kw_875 kw_43 gC_5.1 (by decide) q0 (c_X5_findWord (d := d - 1) (by omega) q0 q_b1 h3) (by omega) (Nat.zero_le _) (Nat.zero_le _) rfl rfl (Nat.le_of_ble_eq_true rfl) dX5_findName_12 (g_sameS ?_)
  obtain ⟨_, h4, h⟩ := gbnd h
  cases h
  exact g_ret_i hF rfl (gbool (chk_sp h4)) dX5_findName_15 hR (Nat.zero_le _) (Nat.zero_le _)
theorem c_X5_findName {d : Nat} {T : gT} {M : gM} {m_a0 : Nat} {a0 : Nat} {r : Int32 × gM} (hd : 4 ≤ d) (q0 : T[a0]? = some (5, m_a0)) (h : f_X5_findName T M a0 = some (r)) : gRet d yX5_findName cX5_findName 1 (some .boolean) 0 0 [.ref a0] T M (gSame T (some (.int r.1)) r.2) := by
  refine gRet_of (own := RX5) (by decide) rfl (Nat.le_of_ble_eq_true rfl) (fun Z ad0 hn h0 hF => ?_)
  exact t_X5_findName hF hn hd q0 h ⟨rfl, rfl, rfl, rfl⟩
theorem t_X5_readOffer {Z : gZ} {d mc ms : Nat} {Acc : Option Value → (Nat → Nat) → gT → gM → Prop} {AccX : Nat → (Nat → Nat) → gT → gM → Prop} {ad : Nat → Nat} {T : gT} {M : gM} {m_a0 : Nat} {a0 : Nat} {o : Int32 × gM} (hF : gFix Z cX5_readOffer RX5 "readOffer" (some .boolean) d mc ms Acc AccX) (hn : Z.2.2.2.2.2.1 = 3) (hd : 7 ≤ d) (q0 : T[a0]? = some (5, m_a0)) (h : f_X5_readOffer T M a0 = some o) (hR : Acc (some (.int o.1)) ad T o.2) : gG Z ad T M 0 0 0 [(0, .ref a0)] [] := by
  unfold f_X5_readOffer at h
  refine g_aload_n hF 0 rfl rfl dX5_readOffer_0 ?_
  obtain ⟨b1, h1, h⟩ := gbnd h
  obtain ⟨g1, l1, q_b1⟩ := ldr_sp h1
  refine g_get_r hF g1 fl_RX5_12 q0 dX5_readOffer_1 ?_
  obtain ⟨x2, h2, h⟩ := gbnd h
  refine g_callVN hF my_X6_advance kn_821 kw_738 kw_24 gC_6.1 (by decide) q_b1 (c_X6_advance (d := d - 1) (by omega) q_b1 h2) (by omega) (Nat.zero_le _) (Nat.zero_le _) rfl rfl (Nat.le_of_ble_eq_true rfl) dX5_readOffer_4 (g_sameN ?_)
  refine g_aload_n hF 0 rfl rfl dX5_readOffer_7 ?_
  obtain ⟨x3, h3, h⟩ := gbnd h
  refine g_callV hF my_X5_findLibrary kw_869 kw_871 kw_42 gC_5.1 (by decide) q0 (c_X5_findLibrary (d := d - 1) (by omega) q0 h3) (by omega) (Nat.zero_le _) (Nat.zero_le _) rfl rfl (Nat.le_of_ble_eq_true rfl) dX5_readOffer_8 (g_sameS ?_)
  refine g_if_ne (tgt := 16) hF dX5_readOffer_11 (by decide) (fun c4 => ?_) (fun c4 => ?_)
  · replace h := gif_t c4 h
    refine g_aload_n hF 0 rfl rfl dX5_readOffer_16 ?_
    obtain ⟨b5, h5, h⟩ := gbnd h
    obtain ⟨g5, l5, q_b5⟩ := ldr_sp h5
    refine g_get_r hF g5 fl_RX5_21 q0 dX5_readOffer_17 ?_
    obtain ⟨b6, h6, h⟩ := gbnd h
    obtain ⟨g6, l6, q_b6⟩ := ldr_sp h6
    refine g_get_rN hF g6 fn_RX5_154 q_b5 dX5_readOffer_20 ?_
    refine g_aload_n hF 0 rfl rfl dX5_readOffer_23 ?_
    refine g_get_i hF fl_RX5_47 q0 dX5_readOffer_24 ?_
    obtain ⟨b7, h7, h⟩ := gbnd h
    obtain ⟨i7h, g7, l7, q_b7⟩ := aldr_sp q_b6 h7
    refine g_aald hF q_b6 (Or.inr (Or.inl ⟨rfl, rfl⟩)) i7h g7 dX5_readOffer_27 ?_
    refine g_astore_n (ls' := [(1, .ref b7), (0, .ref a0)]) hF rfl (by rw [hn]; decide) rfl dX5_readOffer_28 ?_
    refine g_aload_n hF 1 rfl rfl dX5_readOffer_29 ?_
    obtain ⟨b8, h8, h⟩ := gbnd h
    obtain ⟨g8, l8, q_b8⟩ := ldr_sp h8
    refine g_get_r hF g8 fl_RX5_12 q0 dX5_readOffer_30 ?_
    obtain ⟨x9, h9, h⟩ := gbnd h
    refine g_callVN hF my_X6_advance kn_821 kw_738 kw_24 gC_6.1 (by decide) q_b8 (c_X6_advance (d := d - 1) (by omega) q_b8 h9) (by omega) (Nat.zero_le _) (Nat.zero_le _) rfl rfl (Nat.le_of_ble_eq_true rfl) dX5_readOffer_33 (g_sameN ?_)
    refine g_aload_n hF 1 rfl rfl dX5_readOffer_36 ?_
    obtain ⟨x10, h10, h⟩ := gbnd h
    refine g_callV hF my_X5_findName kw_877 kw_879 kw_44 gC_5.1 (by decide) q0 (c_X5_findName (d := d - 1) (by omega) q0 h10) (by omega) (Nat.zero_le _) (Nat.zero_le _) rfl rfl (Nat.le_of_ble_eq_true rfl) dX5_readOffer_37 (g_sameS ?_)
    refine g_if_ne (tgt := 45) hF dX5_readOffer_40 (by decide) (fun c11 => ?_) (fun c11 => ?_)
    · replace h := gif_t c11 h
      refine g_aload_n hF 1 rfl rfl dX5_readOffer_45 ?_
      refine g_get_i hF fl_RX5_47 q0 dX5_readOffer_46 ?_
      refine g_istore_n (ls' := [(2, .int (gi x10.2 a0 8)), (1, .ref b7), (0, .ref a0)]) hF rfl (by rw [hn]; decide) rfl dX5_readOffer_49 ?_
      refine g_aload_n hF 1 rfl rfl dX5_readOffer_50 ?_
      refine g_iload_n hF 0 rfl rfl dX5_readOffer_51 ?_
      obtain ⟨x12, h12, h⟩ := gbnd h
      refine g_callVN hF my_X3_hasOffer kn_881 kw_419 kw_7 gC_3.1 (by decide) q_b7 (c_X3_hasOffer (d := d - 1) (by omega) q_b7 h12) (by omega) (Nat.zero_le _) (Nat.zero_le _) rfl rfl (Nat.le_of_ble_eq_true rfl) dX5_readOffer_52 (g_sameS ?_)
      refine g_if_eq (tgt := 65) hF dX5_readOffer_55 (by decide) (fun c13 => ?_) (fun c13 => ?_)
      · replace h := gif_t c13 h
        refine g_aload_n hF 2 rfl rfl dX5_readOffer_65 ?_
        obtain ⟨b14, h14, h⟩ := gbnd h
        obtain ⟨g14, l14, q_b14⟩ := ldr_sp h14
        refine g_get_r hF g14 fl_RX5_12 q0 dX5_readOffer_66 ?_
        obtain ⟨x15, h15, h⟩ := gbnd h
        refine g_callVN hF my_X6_advance kn_821 kw_738 kw_24 gC_6.1 (by decide) q_b14 (c_X6_advance (d := d - 1) (by omega) q_b14 h15) (by omega) (Nat.zero_le _) (Nat.zero_le _) rfl rfl (Nat.le_of_ble_eq_true rfl) dX5_readOffer_69 (g_sameN ?_)
        refine g_aload_n hF 2 rfl rfl dX5_readOffer_72 ?_
        obtain ⟨b16, h16, h⟩ := gbnd h
        obtain ⟨g16, l16, q_b16⟩ := ldr_sp h16
        refine g_get_r hF g16 fl_RX5_12 q0 dX5_readOffer_73 ?_
        refine g_get_iN hF fn_RX5_79 q_b16 dX5_readOffer_76 ?_
        refine g_iconst (v := (2 : Int32)) hF rfl dX5_readOffer_79 ?_
        refine g_icmp_ne (tgt := 107) hF dX5_readOffer_80 (by decide) (fun c17 => ?_) (fun c17 => ?_)
        · replace h := gif_t c17 h
          refine g_aload_n hF 2 rfl rfl dX5_readOffer_107 ?_
          refine g_ldcS (tx := "to") (a := gSB + 8) hF (by decide +kernel) (Nat.le_add_right _ _) dX5_readOffer_108 ?_
          obtain ⟨x18, h18, h⟩ := gbnd h
          refine g_callV hF my_X5_readKeyword kw_754 kw_756 kw_28 gC_5.1 (by decide) q0 (c_X5_readKeyword (d := d - 1) (by omega) q0 h18) (by omega) (Nat.zero_le _) (Nat.zero_le _) rfl rfl (Nat.le_of_ble_eq_true rfl) dX5_readOffer_110 (g_sameS ?_)
          refine g_if_eq (tgt := 123) hF dX5_readOffer_113 (by decide) (fun c19 => ?_) (fun c19 => ?_)
          · replace h := gif_t c19 h
            refine g_iconst (v := (0 : Int32)) hF rfl dX5_readOffer_123 ?_
            cases h
            exact g_ret_i hF rfl rfl dX5_readOffer_124 hR (Nat.zero_le _) (Nat.zero_le _)
          · replace h := gif_f c19 h
            refine g_aload_n hF 2 rfl rfl dX5_readOffer_116 ?_
            obtain ⟨x20, h20, h⟩ := gbnd h
            refine g_callV hF my_X5_findName kw_877 kw_879 kw_44 gC_5.1 (by decide) q0 (c_X5_findName (d := d - 1) (by omega) q0 h20) (by omega) (Nat.zero_le _) (Nat.zero_le _) rfl rfl (Nat.le_of_ble_eq_true rfl) dX5_readOffer_117 (g_sameS ?_)
            refine g_if_ne (tgt := 125) hF dX5_readOffer_120 (by decide) (fun c21 => ?_) (fun c21 => ?_)
            · replace h := gif_t c21 h
              refine g_aload_n hF 1 rfl rfl dX5_readOffer_125 ?_
              obtain ⟨b22, h22, h⟩ := gbnd h
              obtain ⟨g22, l22, q_b22⟩ := ldr_sp h22
              refine g_get_rN hF g22 fn_RX5_177 q_b7 dX5_readOffer_126 ?_
              refine g_iload_n hF 0 rfl rfl dX5_readOffer_129 ?_
              refine g_bipush (v := (-2 : Int32)) hF rfl dX5_readOffer_130 ?_
              refine g_aload_n hF 2 rfl rfl dX5_readOffer_132 ?_
              refine g_get_i hF fl_RX5_47 q0 dX5_readOffer_133 ?_
              refine g_isub hF dX5_readOffer_136 ?_
              obtain ⟨M23, h23, h⟩ := gbnd h
              obtain ⟨i23h, e23v⟩ := ast_sp q_b22 h23
              refine g_iast hF q_b22 i23h dX5_readOffer_137 ?_
              rw [← e23v]
              refine g_aload_n hF 2 rfl rfl dX5_readOffer_138 ?_
              obtain ⟨b24, h24, h⟩ := gbnd h
              obtain ⟨g24, l24, q_b24⟩ := ldr_sp h24
              refine g_get_r hF g24 fl_RX5_12 q0 dX5_readOffer_139 ?_
              obtain ⟨x25, h25, h⟩ := gbnd h
              refine g_callVN hF my_X6_advance kn_821 kw_738 kw_24 gC_6.1 (by decide) q_b24 (c_X6_advance (d := d - 1) (by omega) q_b24 h25) (by omega) (Nat.zero_le _) (Nat.zero_le _) rfl rfl (Nat.le_of_ble_eq_true rfl) dX5_readOffer_142 (g_sameN ?_)
              refine g_iconst (v := (1 : Int32)) hF rfl dX5_readOffer_145 ?_
              cases h
              exact g_ret_i hF rfl rfl dX5_readOffer_146 hR (Nat.zero_le _) (Nat.zero_le _)
            · replace h := gif_n c21 h
              refine g_iconst (v := (0 : Int32)) hF rfl dX5_readOffer_123 ?_
              cases h
              exact g_ret_i hF rfl rfl dX5_readOffer_124 hR (Nat.zero_le _) (Nat.zero_le _)
        · replace h := gif_n c17 h
          refine g_aload_n hF 2 rfl rfl dX5_readOffer_83 ?_
          refine g_sipush (v := (9999 : Int32)) hF rfl dX5_readOffer_84 ?_
          obtain ⟨x26, h26, h⟩ := gbnd h
          refine g_callV hF my_X5_readNumber kw_852 kw_854 kw_39 gC_5.1 (by decide) q0 (c_X5_readNumber (d := d - 1) (by omega) q0 h26) (by omega) (Nat.zero_le _) (Nat.zero_le _) rfl rfl (Nat.le_of_ble_eq_true rfl) dX5_readOffer_87 (g_sameS ?_)
          refine g_if_ne (tgt := 95) hF dX5_readOffer_90 (by decide) (fun c27 => ?_) (fun c27 => ?_)
          · replace h := gif_t c27 h
            refine g_aload_n hF 1 rfl rfl dX5_readOffer_95 ?_
            obtain ⟨b28, h28, h⟩ := gbnd h
            obtain ⟨g28, l28, q_b28⟩ := ldr_sp h28
            refine g_get_rN hF g28 fn_RX5_177 q_b7 dX5_readOffer_96 ?_
            refine g_iload_n hF 0 rfl rfl dX5_readOffer_99 ?_
            refine g_aload_n hF 2 rfl rfl dX5_readOffer_100 ?_
            refine g_get_i hF fl_RX5_47 q0 dX5_readOffer_101 ?_
            obtain ⟨M29, h29, h⟩ := gbnd h
            obtain ⟨i29h, e29v⟩ := ast_sp q_b28 h29
            refine g_iast hF q_b28 i29h dX5_readOffer_104 ?_
            rw [← e29v]
            refine g_iconst (v := (1 : Int32)) hF rfl dX5_readOffer_105 ?_
            cases h
            exact g_ret_i hF rfl rfl dX5_readOffer_106 hR (Nat.zero_le _) (Nat.zero_le _)
          · replace h := gif_n c27 h
            refine g_iconst (v := (0 : Int32)) hF rfl dX5_readOffer_93 ?_
            cases h
            exact g_ret_i hF rfl rfl dX5_readOffer_94 hR (Nat.zero_le _) (Nat.zero_le _)
      · replace h := gif_f c13 h
        refine g_aload_n hF 2 rfl rfl dX5_readOffer_58 ?_
        refine g_bipush (v := (-5 : Int32)) hF rfl dX5_readOffer_59 ?_
        obtain ⟨x30, h30, h⟩ := gbnd h
        refine g_callV hF my_X5_error kw_817 kw_819 kw_31 gC_5.1 (by decide) q0 (c_X5_error (d := d - 1) (by omega) q0 h30) (by omega) (Nat.zero_le _) (Nat.zero_le _) rfl rfl (Nat.le_of_ble_eq_true rfl) dX5_readOffer_61 (g_sameS ?_)
        obtain ⟨_, h31, h⟩ := gbnd h
        cases h
        exact g_ret_i hF rfl (gbool (chk_sp h31)) dX5_readOffer_64 hR (Nat.zero_le _) (Nat.zero_le _)
    · replace h := gif_n c11 h
      refine g_iconst (v := (0 : Int32)) hF rfl dX5_readOffer_43 ?_
      cases h
      exact g_ret_i hF rfl rfl dX5_readOffer_44 hR (Nat.zero_le _) (Nat.zero_le _)
  · replace h := gif_n c4 h
    refine g_iconst (v := (0 : Int32)) hF rfl dX5_readOffer_14 ?_
    cases h
    exact g_ret_i hF rfl rfl dX5_readOffer_15 hR (Nat.zero_le _) (Nat.zero_le _)
theorem c_X5_readOffer {d : Nat} {T : gT} {M : gM} {m_a0 : Nat} {a0 : Nat} {r : Int32 × gM} (hd : 7 ≤ d) (q0 : T[a0]? = some (5, m_a0)) (h : f_X5_readOffer T M a0 = some (r)) : gRet d yX5_readOffer cX5_readOffer 3 (some .boolean) 0 0 [.ref a0] T M (gSame T (some (.int r.1)) r.2) := by
  refine gRet_of (own := RX5) (by decide) rfl (Nat.le_of_ble_eq_true rfl) (fun Z ad0 hn h0 hF => ?_)
  exact t_X5_readOffer hF hn hd q0 h ⟨rfl, rfl, rfl, rfl⟩
theorem t_X5_readPrefer_64 {Z : gZ} {d mc ms : Nat} {Acc : Option Value → (Nat → Nat) → gT → gM → Prop} {AccX : Nat → (Nat → Nat) → gT → gM → Prop} {ad : Nat → Nat} {T : gT} {M : gM} {m_a0 : Nat} {a0 : Nat} {o : Int32 × gM} (hF : gFix Z cX5_readPrefer RX5 "readPrefer" (some .boolean) d mc ms Acc AccX) (hn : Z.2.2.2.2.2.1 = 2) (hd : 5 ≤ d) (q0 : T[a0]? = some (5, m_a0)) (h : f_X5_readPrefer_64 T M a0 = some o) (hR : Acc (some (.int o.1)) ad T o.2) : gG Z ad T M 0 0 64 [(0, .ref a0)] [] := by
  unfold f_X5_readPrefer_64 at h
  refine g_aload_n hF 0 rfl rfl dX5_readPrefer_64 ?_
  refine g_bipush (v := (-5 : Int32)) hF rfl dX5_readPrefer_65 ?_
  obtain ⟨x1, h1, h⟩ := gbnd h
  refine g_callV hF my_X5_error kw_817 kw_819 kw_31 gC_5.1 (by decide) q0 (c_X5_error (d := d - 1) (by omega) q0 h1) (by omega) (Nat.zero_le _) (Nat.zero_le _) rfl rfl (Nat.le_of_ble_eq_true rfl) dX5_readPrefer_67 (g_sameS ?_)
  obtain ⟨_, h2, h⟩ := gbnd h
  cases h
  exact g_ret_i hF rfl (gbool (chk_sp h2)) dX5_readPrefer_70 hR (Nat.zero_le _) (Nat.zero_le _)
theorem t_X5_readPrefer {Z : gZ} {d mc ms : Nat} {Acc : Option Value → (Nat → Nat) → gT → gM → Prop} {AccX : Nat → (Nat → Nat) → gT → gM → Prop} {ad : Nat → Nat} {T : gT} {M : gM} {m_a0 : Nat} {a0 : Nat} {o : Int32 × gM} (hF : gFix Z cX5_readPrefer RX5 "readPrefer" (some .boolean) d mc ms Acc AccX) (hn : Z.2.2.2.2.2.1 = 2) (hd : 5 ≤ d) (q0 : T[a0]? = some (5, m_a0)) (h : f_X5_readPrefer T M a0 = some o) (hR : Acc (some (.int o.1)) ad T o.2) : gG Z ad T M 0 0 0 [(0, .ref a0)] [] := by
  unfold f_X5_readPrefer at h
  refine g_aload_n hF 0 rfl rfl dX5_readPrefer_0 ?_
  obtain ⟨b3, h3, h⟩ := gbnd h
  obtain ⟨g3, l3, q_b3⟩ := ldr_sp h3
  refine g_get_r hF g3 fl_RX5_12 q0 dX5_readPrefer_1 ?_
  obtain ⟨x4, h4, h⟩ := gbnd h
  refine g_callVN hF my_X6_advance kn_821 kw_738 kw_24 gC_6.1 (by decide) q_b3 (c_X6_advance (d := d - 1) (by omega) q_b3 h4) (by omega) (Nat.zero_le _) (Nat.zero_le _) rfl rfl (Nat.le_of_ble_eq_true rfl) dX5_readPrefer_4 (g_sameN ?_)
  refine g_aload_n hF 0 rfl rfl dX5_readPrefer_7 ?_
  obtain ⟨x5, h5, h⟩ := gbnd h
  refine g_callV hF my_X5_findLibrary kw_869 kw_871 kw_42 gC_5.1 (by decide) q0 (c_X5_findLibrary (d := d - 1) (by omega) q0 h5) (by omega) (Nat.zero_le _) (Nat.zero_le _) rfl rfl (Nat.le_of_ble_eq_true rfl) dX5_readPrefer_8 (g_sameS ?_)
  refine g_if_ne (tgt := 16) hF dX5_readPrefer_11 (by decide) (fun c6 => ?_) (fun c6 => ?_)
  · replace h := gif_t c6 h
    refine g_aload_n hF 0 rfl rfl dX5_readPrefer_16 ?_
    refine g_get_i hF fl_RX5_47 q0 dX5_readPrefer_17 ?_
    refine g_istore_n (ls' := [(1, .int (gi x5.2 a0 8)), (0, .ref a0)]) hF rfl (by rw [hn]; decide) rfl dX5_readPrefer_20 ?_
    refine g_aload_n hF 1 rfl rfl dX5_readPrefer_21 ?_
    obtain ⟨b7, h7, h⟩ := gbnd h
    obtain ⟨g7, l7, q_b7⟩ := ldr_sp h7
    refine g_get_r hF g7 fl_RX5_12 q0 dX5_readPrefer_22 ?_
    obtain ⟨x8, h8, h⟩ := gbnd h
    refine g_callVN hF my_X6_advance kn_821 kw_738 kw_24 gC_6.1 (by decide) q_b7 (c_X6_advance (d := d - 1) (by omega) q_b7 h8) (by omega) (Nat.zero_le _) (Nat.zero_le _) rfl rfl (Nat.le_of_ble_eq_true rfl) dX5_readPrefer_25 (g_sameN ?_)
    refine g_aload_n hF 1 rfl rfl dX5_readPrefer_28 ?_
    obtain ⟨x9, h9, h⟩ := gbnd h
    refine g_callV hF my_X5_findLibrary kw_869 kw_871 kw_42 gC_5.1 (by decide) q0 (c_X5_findLibrary (d := d - 1) (by omega) q0 h9) (by omega) (Nat.zero_le _) (Nat.zero_le _) rfl rfl (Nat.le_of_ble_eq_true rfl) dX5_readPrefer_29 (g_sameS ?_)
    refine g_if_ne (tgt := 37) hF dX5_readPrefer_32 (by decide) (fun c10 => ?_) (fun c10 => ?_)
    · replace h := gif_t c10 h
      refine g_aload_n hF 1 rfl rfl dX5_readPrefer_37 ?_
      refine g_get_i hF fl_RX5_47 q0 dX5_readPrefer_38 ?_
      refine g_iload_n hF 0 rfl rfl dX5_readPrefer_41 ?_
      refine g_icmp_eq (tgt := 64) hF dX5_readPrefer_42 (by decide) (fun c11 => ?_) (fun c11 => ?_)
      · replace h := gif_t c11 h
        exact gG_sub [1] rfl (t_X5_readPrefer_64 hF hn hd q0 h hR)
      · replace h := gif_f c11 h
        refine g_aload_n hF 1 rfl rfl dX5_readPrefer_45 ?_
        obtain ⟨b12, h12, h⟩ := gbnd h
        obtain ⟨g12, l12, q_b12⟩ := ldr_sp h12
        refine g_get_r hF g12 fl_RX5_21 q0 dX5_readPrefer_46 ?_
        obtain ⟨b13, h13, h⟩ := gbnd h
        obtain ⟨g13, l13, q_b13⟩ := ldr_sp h13
        refine g_get_rN hF g13 fn_RX5_154 q_b12 dX5_readPrefer_49 ?_
        refine g_iload_n hF 0 rfl rfl dX5_readPrefer_52 ?_
        obtain ⟨b14, h14, h⟩ := gbnd h
        obtain ⟨i14h, g14, l14, q_b14⟩ := aldr_sp q_b13 h14
        refine g_aald hF q_b13 (Or.inr (Or.inl ⟨rfl, rfl⟩)) i14h g14 dX5_readPrefer_53 ?_
        refine g_aload_n hF 1 rfl rfl dX5_readPrefer_54 ?_
        refine g_get_i hF fl_RX5_47 q0 dX5_readPrefer_55 ?_
        obtain ⟨x15, h15, h⟩ := gbnd h
        refine g_callVN hF my_X3_prefers kn_888 kw_428 kw_9 gC_3.1 (by decide) q_b14 (c_X3_prefers (d := d - 1) (by omega) q_b14 h15) (by omega) (Nat.zero_le _) (Nat.zero_le _) rfl rfl (Nat.le_of_ble_eq_true rfl) dX5_readPrefer_58 (g_sameS ?_)
        refine g_if_eq (tgt := 71) hF dX5_readPrefer_61 (by decide) (fun c16 => ?_) (fun c16 => ?_)
        · replace h := gif_t c16 h
          refine g_aload_n hF 1 rfl rfl dX5_readPrefer_71 ?_
          obtain ⟨b17, h17, h⟩ := gbnd h
          obtain ⟨g17, l17, q_b17⟩ := ldr_sp h17
          refine g_get_r hF g17 fl_RX5_21 q0 dX5_readPrefer_72 ?_
          obtain ⟨b18, h18, h⟩ := gbnd h
          obtain ⟨g18, l18, q_b18⟩ := ldr_sp h18
          refine g_get_rN hF g18 fn_RX5_154 q_b17 dX5_readPrefer_75 ?_
          refine g_iload_n hF 0 rfl rfl dX5_readPrefer_78 ?_
          obtain ⟨b19, h19, h⟩ := gbnd h
          obtain ⟨i19h, g19, l19, q_b19⟩ := aldr_sp q_b18 h19
          refine g_aald hF q_b18 (Or.inr (Or.inl ⟨rfl, rfl⟩)) i19h g19 dX5_readPrefer_79 ?_
          refine g_aload_n hF 1 rfl rfl dX5_readPrefer_80 ?_
          refine g_get_i hF fl_RX5_47 q0 dX5_readPrefer_81 ?_
          obtain ⟨x20, h20, h⟩ := gbnd h
          refine g_callVN hF my_X3_addPreference kn_889 kw_891 kw_46 gC_3.1 (by decide) q_b19 (c_X3_addPreference (d := d - 1) (by omega) q_b19 h20) (by omega) (Nat.zero_le _) (Nat.zero_le _) rfl rfl (Nat.le_of_ble_eq_true rfl) dX5_readPrefer_84 (g_sameN ?_)
          refine g_aload_n hF 1 rfl rfl dX5_readPrefer_87 ?_
          obtain ⟨b21, h21, h⟩ := gbnd h
          obtain ⟨g21, l21, q_b21⟩ := ldr_sp h21
          refine g_get_r hF g21 fl_RX5_12 q0 dX5_readPrefer_88 ?_
          obtain ⟨x22, h22, h⟩ := gbnd h
          refine g_callVN hF my_X6_advance kn_821 kw_738 kw_24 gC_6.1 (by decide) q_b21 (c_X6_advance (d := d - 1) (by omega) q_b21 h22) (by omega) (Nat.zero_le _) (Nat.zero_le _) rfl rfl (Nat.le_of_ble_eq_true rfl) dX5_readPrefer_91 (g_sameN ?_)
          refine g_iconst (v := (1 : Int32)) hF rfl dX5_readPrefer_94 ?_
          cases h
          exact g_ret_i hF rfl rfl dX5_readPrefer_95 hR (Nat.zero_le _) (Nat.zero_le _)
        · replace h := gif_f c16 h
          exact gG_sub [1] rfl (t_X5_readPrefer_64 hF hn hd q0 h hR)
    · replace h := gif_n c10 h
      refine g_iconst (v := (0 : Int32)) hF rfl dX5_readPrefer_35 ?_
      cases h
      exact g_ret_i hF rfl rfl dX5_readPrefer_36 hR (Nat.zero_le _) (Nat.zero_le _)
  · replace h := gif_n c6 h
    refine g_iconst (v := (0 : Int32)) hF rfl dX5_readPrefer_14 ?_
    cases h
    exact g_ret_i hF rfl rfl dX5_readPrefer_15 hR (Nat.zero_le _) (Nat.zero_le _)
theorem c_X5_readPrefer {d : Nat} {T : gT} {M : gM} {m_a0 : Nat} {a0 : Nat} {r : Int32 × gM} (hd : 5 ≤ d) (q0 : T[a0]? = some (5, m_a0)) (h : f_X5_readPrefer T M a0 = some (r)) : gRet d yX5_readPrefer cX5_readPrefer 2 (some .boolean) 0 0 [.ref a0] T M (gSame T (some (.int r.1)) r.2) := by
  refine gRet_of (own := RX5) (by decide) rfl (Nat.le_of_ble_eq_true rfl) (fun Z ad0 hn h0 hF => ?_)
  exact t_X5_readPrefer hF hn hd q0 h ⟨rfl, rfl, rfl, rfl⟩
theorem t_X5_readShare {Z : gZ} {d mc ms : Nat} {Acc : Option Value → (Nat → Nat) → gT → gM → Prop} {AccX : Nat → (Nat → Nat) → gT → gM → Prop} {ad : Nat → Nat} {T : gT} {M : gM} {m_a0 : Nat} {a0 : Nat} {o : Int32 × gM} (hF : gFix Z cX5_readShare RX5 "readShare" (some .boolean) d mc ms Acc AccX) (hn : Z.2.2.2.2.2.1 = 1) (hd : 4 ≤ d) (q0 : T[a0]? = some (5, m_a0)) (h : f_X5_readShare T M a0 = some o) (hR : Acc (some (.int o.1)) ad T o.2) : gG Z ad T M 0 0 0 [(0, .ref a0)] [] := by
  unfold f_X5_readShare at h
  refine g_aload_n hF 0 rfl rfl dX5_readShare_0 ?_
  refine g_iconst (v := (1 : Int32)) hF rfl dX5_readShare_1 ?_
  refine g_put_i hF rfl rfl fl_RX5_40 q0 dX5_readShare_2 ?_
  refine g_aload_n hF 0 rfl rfl dX5_readShare_5 ?_
  obtain ⟨b1, h1, h⟩ := gbnd h
  obtain ⟨g1, l1, q_b1⟩ := ldr_sp h1
  refine g_get_r hF g1 fl_RX5_12 q0 dX5_readShare_6 ?_
  obtain ⟨x2, h2, h⟩ := gbnd h
  refine g_callVN hF my_X6_advance kn_821 kw_738 kw_24 gC_6.1 (by decide) q_b1 (c_X6_advance (d := d - 1) (by omega) q_b1 h2) (by omega) (Nat.zero_le _) (Nat.zero_le _) rfl rfl (Nat.le_of_ble_eq_true rfl) dX5_readShare_9 (g_sameN ?_)
  refine g_aload_n hF 0 rfl rfl dX5_readShare_12 ?_
  refine g_bipush (v := (100 : Int32)) hF rfl dX5_readShare_13 ?_
  obtain ⟨x3, h3, h⟩ := gbnd h
  refine g_callV hF my_X5_readNumber kw_852 kw_854 kw_39 gC_5.1 (by decide) q0 (c_X5_readNumber (d := d - 1) (by omega) q0 h3) (by omega) (Nat.zero_le _) (Nat.zero_le _) rfl rfl (Nat.le_of_ble_eq_true rfl) dX5_readShare_15 (g_sameS ?_)
  refine g_if_ne (tgt := 23) hF dX5_readShare_18 (by decide) (fun c4 => ?_) (fun c4 => ?_)
  · replace h := gif_t c4 h
    refine g_aload_n hF 0 rfl rfl dX5_readShare_23 ?_
    obtain ⟨b5, h5, h⟩ := gbnd h
    obtain ⟨g5, l5, q_b5⟩ := ldr_sp h5
    refine g_get_r hF g5 fl_RX5_21 q0 dX5_readShare_24 ?_
    refine g_aload_n hF 0 rfl rfl dX5_readShare_27 ?_
    refine g_get_i hF fl_RX5_47 q0 dX5_readShare_28 ?_
    refine g_putN_i hF rfl rfl fn_RX5_188 q_b5 dX5_readShare_31 ?_
    refine g_iconst (v := (1 : Int32)) hF rfl dX5_readShare_34 ?_
    cases h
    exact g_ret_i hF rfl rfl dX5_readShare_35 hR (Nat.zero_le _) (Nat.zero_le _)
  · replace h := gif_n c4 h
    refine g_iconst (v := (0 : Int32)) hF rfl dX5_readShare_21 ?_
    cases h
    exact g_ret_i hF rfl rfl dX5_readShare_22 hR (Nat.zero_le _) (Nat.zero_le _)
theorem c_X5_readShare {d : Nat} {T : gT} {M : gM} {m_a0 : Nat} {a0 : Nat} {r : Int32 × gM} (hd : 4 ≤ d) (q0 : T[a0]? = some (5, m_a0)) (h : f_X5_readShare T M a0 = some (r)) : gRet d yX5_readShare cX5_readShare 1 (some .boolean) 0 0 [.ref a0] T M (gSame T (some (.int r.1)) r.2) := by
  refine gRet_of (own := RX5) (by decide) rfl (Nat.le_of_ble_eq_true rfl) (fun Z ad0 hn h0 hF => ?_)
  exact t_X5_readShare hF hn hd q0 h ⟨rfl, rfl, rfl, rfl⟩
theorem t_X5_quantityCode {Z : gZ} {d mc ms : Nat} {Acc : Option Value → (Nat → Nat) → gT → gM → Prop} {AccX : Nat → (Nat → Nat) → gT → gM → Prop} {ad : Nat → Nat} {T : gT} {M : gM} {m_a0 : Nat} {a0 : Nat} {o : Int32} (hF : gFix Z cX5_quantityCode RX5 "quantityCode" (some .int) d mc ms Acc AccX) (hn : Z.2.2.2.2.2.1 = 1) (hd : 6 ≤ d) (q0 : T[a0]? = some (5, m_a0)) (h : f_X5_quantityCode T M a0 = some o) (hR : Acc (some (.int o)) ad T M) : gG Z ad T M 0 0 0 [(0, .ref a0)] [] := by
  unfold f_X5_quantityCode at h
  refine g_aload_n hF 0 rfl rfl dX5_quantityCode_0 ?_
  obtain ⟨b1, h1, h⟩ := gbnd h
  obtain ⟨g1, l1, q_b1⟩ := ldr_sp h1
  refine g_get_r hF g1 fl_RX5_12 q0 dX5_quantityCode_1 ?_
  refine g_ldcS (tx := "trust") (a := gSB + 9) hF (by decide +kernel) (Nat.le_add_right _ _) dX5_quantityCode_4 ?_
  obtain ⟨x2, h2, h⟩ := gbnd h
  refine g_callVN hF my_X6_isWord kn_758 kw_760 kw_29 gC_6.1 (by decide) q_b1 (c_X6_isWord (d := d - 1) (by omega) q_b1 h2) (by omega) (Nat.zero_le _) (Nat.zero_le _) rfl rfl (Nat.le_of_ble_eq_true rfl) dX5_quantityCode_6 (g_sameS ?_)
  refine g_if_eq (tgt := 14) hF dX5_quantityCode_9 (by decide) (fun c3 => ?_) (fun c3 => ?_)
  · replace h := gif_t c3 h
    refine g_aload_n hF 0 rfl rfl dX5_quantityCode_14 ?_
    obtain ⟨b4, h4, h⟩ := gbnd h
    obtain ⟨g4, l4, q_b4⟩ := ldr_sp h4
    refine g_get_r hF g4 fl_RX5_12 q0 dX5_quantityCode_15 ?_
    refine g_ldcS (tx := "rank") (a := gSB + 10) hF (by decide +kernel) (Nat.le_add_right _ _) dX5_quantityCode_18 ?_
    obtain ⟨x5, h5, h⟩ := gbnd h
    refine g_callVN hF my_X6_isWord kn_758 kw_760 kw_29 gC_6.1 (by decide) q_b4 (c_X6_isWord (d := d - 1) (by omega) q_b4 h5) (by omega) (Nat.zero_le _) (Nat.zero_le _) rfl rfl (Nat.le_of_ble_eq_true rfl) dX5_quantityCode_20 (g_sameS ?_)
    refine g_if_eq (tgt := 29) hF dX5_quantityCode_23 (by decide) (fun c6 => ?_) (fun c6 => ?_)
    · replace h := gif_t c6 h
      refine g_aload_n hF 0 rfl rfl dX5_quantityCode_29 ?_
      obtain ⟨b7, h7, h⟩ := gbnd h
      obtain ⟨g7, l7, q_b7⟩ := ldr_sp h7
      refine g_get_r hF g7 fl_RX5_12 q0 dX5_quantityCode_30 ?_
      refine g_ldcS (tx := "offers") (a := gSB + 11) hF (by decide +kernel) (Nat.le_add_right _ _) dX5_quantityCode_33 ?_
      obtain ⟨x8, h8, h⟩ := gbnd h
      refine g_callVN hF my_X6_isWord kn_758 kw_760 kw_29 gC_6.1 (by decide) q_b7 (c_X6_isWord (d := d - 1) (by omega) q_b7 h8) (by omega) (Nat.zero_le _) (Nat.zero_le _) rfl rfl (Nat.le_of_ble_eq_true rfl) dX5_quantityCode_35 (g_sameS ?_)
      refine g_if_eq (tgt := 44) hF dX5_quantityCode_38 (by decide) (fun c9 => ?_) (fun c9 => ?_)
      · replace h := gif_t c9 h
        refine g_aload_n hF 0 rfl rfl dX5_quantityCode_44 ?_
        obtain ⟨b10, h10, h⟩ := gbnd h
        obtain ⟨g10, l10, q_b10⟩ := ldr_sp h10
        refine g_get_r hF g10 fl_RX5_12 q0 dX5_quantityCode_45 ?_
        refine g_ldcS (tx := "friends") (a := gSB + 12) hF (by decide +kernel) (Nat.le_add_right _ _) dX5_quantityCode_48 ?_
        obtain ⟨x11, h11, h⟩ := gbnd h
        refine g_callVN hF my_X6_isWord kn_758 kw_760 kw_29 gC_6.1 (by decide) q_b10 (c_X6_isWord (d := d - 1) (by omega) q_b10 h11) (by omega) (Nat.zero_le _) (Nat.zero_le _) rfl rfl (Nat.le_of_ble_eq_true rfl) dX5_quantityCode_50 (g_sameS ?_)
        refine g_if_eq (tgt := 61) hF dX5_quantityCode_53 (by decide) (fun c12 => ?_) (fun c12 => ?_)
        · replace h := gif_t c12 h
          refine g_iconst (v := (0 : Int32)) hF rfl dX5_quantityCode_61 ?_
          cases h
          exact g_ret_i hF rfl rfl dX5_quantityCode_62 hR (Nat.zero_le _) (Nat.zero_le _)
        · replace h := gif_f c12 h
          refine g_bipush (v := (-4 : Int32)) hF rfl dX5_quantityCode_56 ?_
          refine g_goto (tgt := 62) hF dX5_quantityCode_58 (by decide) ?_
          cases h
          exact g_ret_i hF rfl rfl dX5_quantityCode_62 hR (Nat.zero_le _) (Nat.zero_le _)
      · replace h := gif_f c9 h
        refine g_bipush (v := (-3 : Int32)) hF rfl dX5_quantityCode_41 ?_
        cases h
        exact g_ret_i hF rfl rfl dX5_quantityCode_43 hR (Nat.zero_le _) (Nat.zero_le _)
    · replace h := gif_f c6 h
      refine g_bipush (v := (-2 : Int32)) hF rfl dX5_quantityCode_26 ?_
      cases h
      exact g_ret_i hF rfl rfl dX5_quantityCode_28 hR (Nat.zero_le _) (Nat.zero_le _)
  · replace h := gif_f c3 h
    refine g_iconst (v := (-1 : Int32)) hF rfl dX5_quantityCode_12 ?_
    cases h
    exact g_ret_i hF rfl rfl dX5_quantityCode_13 hR (Nat.zero_le _) (Nat.zero_le _)
theorem c_X5_quantityCode {d : Nat} {T : gT} {M : gM} {m_a0 : Nat} {a0 : Nat} {r : Int32} (hd : 6 ≤ d) (q0 : T[a0]? = some (5, m_a0)) (h : f_X5_quantityCode T M a0 = some (r)) : gRet d yX5_quantityCode cX5_quantityCode 1 (some .int) 0 0 [.ref a0] T M (gSame T (some (.int r)) M) := by
  refine gRet_of (own := RX5) (by decide) rfl (Nat.le_of_ble_eq_true rfl) (fun Z ad0 hn h0 hF => ?_)
  exact t_X5_quantityCode hF hn hd q0 h ⟨rfl, rfl, rfl, rfl⟩
