def gRecOk_X5_readSum (dr : Nat) (rec : gRecT_X5_readSum) : Prop := ∀ {d : Nat} {T : gT} {M : gM} {m_a0 : Nat} {a0 : Nat} {i1 : Int32} {r : Int32 × gM}, dr ≤ d → T[a0]? = some (5, m_a0) → rec T M a0 i1 = some r → gRet d yX5_readSum cX5_readSum 4 (some .boolean) 0 0 [.ref a0, .int i1] T M (gSame T (some (.int r.1)) r.2)
theorem t_X5_readFactor_54 {Z : gZ} {d mc ms : Nat} {Acc : Option Value → (Nat → Nat) → gT → gM → Prop} {AccX : Nat → (Nat → Nat) → gT → gM → Prop} {ad : Nat → Nat} {T : gT} {M : gM} {rec : gRecT_X5_readSum} {o : Int32 × gM} (hF : gFix Z cX5_readFactor RX5 "readFactor" (some .boolean) d mc ms Acc AccX) (hn : Z.2.2.2.2.2.1 = 3) (hd : 20 ≤ d) {dr : Nat} (hrec : gRecOk_X5_readSum dr rec) (hdr : dr + 1 ≤ d)  (h : f_X5_readFactor_54 rec T M  = some o) (hR : Acc (some (.int o.1)) ad T o.2) : gG Z ad T M 0 0 54 [] [] := by
  unfold f_X5_readFactor_54 at h
  refine g_iconst (v := (0 : Int32)) hF rfl dX5_readFactor_54 ?_
  cases h
  exact g_ret_i hF rfl rfl dX5_readFactor_55 hR (Nat.zero_le _) (Nat.zero_le _)
theorem t_X5_readFactor {Z : gZ} {d mc ms : Nat} {Acc : Option Value → (Nat → Nat) → gT → gM → Prop} {AccX : Nat → (Nat → Nat) → gT → gM → Prop} {ad : Nat → Nat} {T : gT} {M : gM} {rec : gRecT_X5_readSum} {m_a0 : Nat} {a0 : Nat} {i1 : Int32} {o : Int32 × gM} (hF : gFix Z cX5_readFactor RX5 "readFactor" (some .boolean) d mc ms Acc AccX) (hn : Z.2.2.2.2.2.1 = 3) (hd : 20 ≤ d) {dr : Nat} (hrec : gRecOk_X5_readSum dr rec) (hdr : dr + 1 ≤ d) (q0 : T[a0]? = some (5, m_a0)) (h : f_X5_readFactor rec T M a0 i1 = some o) (hR : Acc (some (.int o.1)) ad T o.2) : gG Z ad T M 0 0 0 [(0, .ref a0), (1, .int i1)] [] := by
  unfold f_X5_readFactor at h
  refine g_aload_n hF 0 rfl rfl dX5_readFactor_0 ?_
  obtain ⟨b1, h1, h⟩ := gbnd h
  obtain ⟨g1, l1, q_b1⟩ := ldr_sp h1
  refine g_get_r hF g1 fl_RX5_12 q0 dX5_readFactor_1 ?_
  refine g_bipush (v := (40 : Int32)) hF rfl dX5_readFactor_4 ?_
  obtain ⟨x2, h2, h⟩ := gbnd h
  refine g_callVN hF my_X6_isSign kn_826 kw_828 kw_33 gC_6.1 (by decide) q_b1 (c_X6_isSign (d := d - 1) (by omega) q_b1 h2) (by omega) (Nat.zero_le _) (Nat.zero_le _) rfl rfl (Nat.le_of_ble_eq_true rfl) dX5_readFactor_6 (g_sameS ?_)
  refine g_if_eq (tgt := 56) hF dX5_readFactor_9 (by decide) (fun c3 => ?_) (fun c3 => ?_)
  · replace h := gif_t c3 h
    refine g_aload_n hF 0 rfl rfl dX5_readFactor_56 ?_
    obtain ⟨b4, h4, h⟩ := gbnd h
    obtain ⟨g4, l4, q_b4⟩ := ldr_sp h4
    refine g_get_r hF g4 fl_RX5_12 q0 dX5_readFactor_57 ?_
    refine g_get_iN hF fn_RX5_79 q_b4 dX5_readFactor_60 ?_
    refine g_iconst (v := (2 : Int32)) hF rfl dX5_readFactor_63 ?_
    refine g_icmp_ne (tgt := 89) hF dX5_readFactor_64 (by decide) (fun c5 => ?_) (fun c5 => ?_)
    · replace h := gif_t c5 h
      refine g_aload_n hF 0 rfl rfl dX5_readFactor_89 ?_
      obtain ⟨x6, h6, h⟩ := gbnd h
      refine g_callV hF my_X5_quantityCode kw_915 kw_917 kw_52 gC_5.1 (by decide) q0 (c_X5_quantityCode (d := d - 1) (by omega) q0 h6) (by omega) (Nat.zero_le _) (Nat.zero_le _) rfl rfl (Nat.le_of_ble_eq_true rfl) dX5_readFactor_90 (g_sameS ?_)
      refine g_istore_n (ls' := [(2, .int x6), (0, .ref a0), (1, .int i1)]) hF rfl (by rw [hn]; decide) rfl dX5_readFactor_93 ?_
      refine g_iload_n hF 0 rfl rfl dX5_readFactor_94 ?_
      refine g_if_ne (tgt := 103) hF dX5_readFactor_95 (by decide) (fun c7 => ?_) (fun c7 => ?_)
      · replace h := gif_t c7 h
        refine g_aload_n hF 1 rfl rfl dX5_readFactor_103 ?_
        refine g_iload_n hF 0 rfl rfl dX5_readFactor_104 ?_
        obtain ⟨x8, h8, h⟩ := gbnd h
        refine g_callV hF my_X5_addCode kw_724 kw_726 kw_22 gC_5.1 (by decide) q0 (c_X5_addCode (d := d - 1) (by omega) q0 h8) (by omega) (Nat.zero_le _) (Nat.zero_le _) rfl rfl (Nat.le_of_ble_eq_true rfl) dX5_readFactor_105 (g_sameN ?_)
        refine g_aload_n hF 1 rfl rfl dX5_readFactor_108 ?_
        obtain ⟨b9, h9, h⟩ := gbnd h
        obtain ⟨g9, l9, q_b9⟩ := ldr_sp h9
        refine g_get_r hF g9 fl_RX5_12 q0 dX5_readFactor_109 ?_
        obtain ⟨x10, h10, h⟩ := gbnd h
        refine g_callVN hF my_X6_advance kn_821 kw_738 kw_24 gC_6.1 (by decide) q_b9 (c_X6_advance (d := d - 1) (by omega) q_b9 h10) (by omega) (Nat.zero_le _) (Nat.zero_le _) rfl rfl (Nat.le_of_ble_eq_true rfl) dX5_readFactor_112 (g_sameN ?_)
        refine g_iconst (v := (1 : Int32)) hF rfl dX5_readFactor_115 ?_
        cases h
        exact g_ret_i hF rfl rfl dX5_readFactor_116 hR (Nat.zero_le _) (Nat.zero_le _)
      · replace h := gif_n c7 h
        refine g_aload_n hF 1 rfl rfl dX5_readFactor_98 ?_
        obtain ⟨x11, h11, h⟩ := gbnd h
        refine g_callV hF my_X5_syntaxError kw_813 kw_815 kw_30 gC_5.1 (by decide) q0 (c_X5_syntaxError (d := d - 1) (by omega) q0 h11) (by omega) (Nat.zero_le _) (Nat.zero_le _) rfl rfl (Nat.le_of_ble_eq_true rfl) dX5_readFactor_99 (g_sameS ?_)
        obtain ⟨_, h12, h⟩ := gbnd h
        cases h
        exact g_ret_i hF rfl (gbool (chk_sp h12)) dX5_readFactor_102 hR (Nat.zero_le _) (Nat.zero_le _)
    · replace h := gif_n c5 h
      refine g_aload_n hF 0 rfl rfl dX5_readFactor_67 ?_
      refine g_sipush (v := (9999 : Int32)) hF rfl dX5_readFactor_68 ?_
      obtain ⟨x13, h13, h⟩ := gbnd h
      refine g_callV hF my_X5_readNumber kw_852 kw_854 kw_39 gC_5.1 (by decide) q0 (c_X5_readNumber (d := d - 1) (by omega) q0 h13) (by omega) (Nat.zero_le _) (Nat.zero_le _) rfl rfl (Nat.le_of_ble_eq_true rfl) dX5_readFactor_71 (g_sameS ?_)
      refine g_if_ne (tgt := 79) hF dX5_readFactor_74 (by decide) (fun c14 => ?_) (fun c14 => ?_)
      · replace h := gif_t c14 h
        refine g_aload_n hF 0 rfl rfl dX5_readFactor_79 ?_
        refine g_aload_n hF 0 rfl rfl dX5_readFactor_80 ?_
        refine g_get_i hF fl_RX5_47 q0 dX5_readFactor_81 ?_
        obtain ⟨x15, h15, h⟩ := gbnd h
        refine g_callV hF my_X5_addCode kw_724 kw_726 kw_22 gC_5.1 (by decide) q0 (c_X5_addCode (d := d - 1) (by omega) q0 h15) (by omega) (Nat.zero_le _) (Nat.zero_le _) rfl rfl (Nat.le_of_ble_eq_true rfl) dX5_readFactor_84 (g_sameN ?_)
        refine g_iconst (v := (1 : Int32)) hF rfl dX5_readFactor_87 ?_
        cases h
        exact g_ret_i hF rfl rfl dX5_readFactor_88 hR (Nat.zero_le _) (Nat.zero_le _)
      · replace h := gif_n c14 h
        refine g_iconst (v := (0 : Int32)) hF rfl dX5_readFactor_77 ?_
        cases h
        exact g_ret_i hF rfl rfl dX5_readFactor_78 hR (Nat.zero_le _) (Nat.zero_le _)
  · replace h := gif_f c3 h
    refine g_iload_n hF 1 rfl rfl dX5_readFactor_12 ?_
    refine g_iconst (v := (4 : Int32)) hF rfl dX5_readFactor_13 ?_
    refine g_icmp_lt (tgt := 24) hF dX5_readFactor_14 (by decide) (fun c16 => ?_) (fun c16 => ?_)
    · replace h := gif_t c16 h
      refine g_aload_n hF 0 rfl rfl dX5_readFactor_24 ?_
      obtain ⟨b17, h17, h⟩ := gbnd h
      obtain ⟨g17, l17, q_b17⟩ := ldr_sp h17
      refine g_get_r hF g17 fl_RX5_12 q0 dX5_readFactor_25 ?_
      obtain ⟨x18, h18, h⟩ := gbnd h
      refine g_callVN hF my_X6_advance kn_821 kw_738 kw_24 gC_6.1 (by decide) q_b17 (c_X6_advance (d := d - 1) (by omega) q_b17 h18) (by omega) (Nat.zero_le _) (Nat.zero_le _) rfl rfl (Nat.le_of_ble_eq_true rfl) dX5_readFactor_28 (g_sameN ?_)
      refine g_aload_n hF 0 rfl rfl dX5_readFactor_31 ?_
      refine g_iload_n hF 1 rfl rfl dX5_readFactor_32 ?_
      refine g_iconst (v := (1 : Int32)) hF rfl dX5_readFactor_33 ?_
      refine g_iadd hF dX5_readFactor_34 ?_
      obtain ⟨x19, h19, h⟩ := gbnd h
      refine g_callV hF my_X5_readSum kw_903 kw_905 kw_49 gC_5.1 (by decide) q0 (hrec (d := d - 1) (by omega) q0 h19) (by omega) (Nat.zero_le _) (Nat.zero_le _) rfl rfl (Nat.le_of_ble_eq_true rfl) dX5_readFactor_35 (g_sameS ?_)
      refine g_if_eq (tgt := 54) hF dX5_readFactor_38 (by decide) (fun c20 => ?_) (fun c20 => ?_)
      · replace h := gif_t c20 h
        exact gG_sub [] rfl (t_X5_readFactor_54 hF hn hd hrec hdr  h hR)
      · replace h := gif_f c20 h
        refine g_aload_n hF 0 rfl rfl dX5_readFactor_41 ?_
        refine g_bipush (v := (41 : Int32)) hF rfl dX5_readFactor_42 ?_
        obtain ⟨x21, h21, h⟩ := gbnd h
        refine g_callV hF my_X5_readSign kw_822 kw_824 kw_32 gC_5.1 (by decide) q0 (c_X5_readSign (d := d - 1) (by omega) q0 h21) (by omega) (Nat.zero_le _) (Nat.zero_le _) rfl rfl (Nat.le_of_ble_eq_true rfl) dX5_readFactor_44 (g_sameS ?_)
        refine g_if_eq (tgt := 54) hF dX5_readFactor_47 (by decide) (fun c22 => ?_) (fun c22 => ?_)
        · replace h := gif_t c22 h
          exact gG_sub [] rfl (t_X5_readFactor_54 hF hn hd hrec hdr  h hR)
        · replace h := gif_f c22 h
          refine g_iconst (v := (1 : Int32)) hF rfl dX5_readFactor_50 ?_
          refine g_goto (tgt := 55) hF dX5_readFactor_51 (by decide) ?_
          cases h
          exact g_ret_i hF rfl rfl dX5_readFactor_55 hR (Nat.zero_le _) (Nat.zero_le _)
    · replace h := gif_f c16 h
      refine g_aload_n hF 0 rfl rfl dX5_readFactor_17 ?_
      refine g_bipush (v := (-7 : Int32)) hF rfl dX5_readFactor_18 ?_
      obtain ⟨x23, h23, h⟩ := gbnd h
      refine g_callV hF my_X5_error kw_817 kw_819 kw_31 gC_5.1 (by decide) q0 (c_X5_error (d := d - 1) (by omega) q0 h23) (by omega) (Nat.zero_le _) (Nat.zero_le _) rfl rfl (Nat.le_of_ble_eq_true rfl) dX5_readFactor_20 (g_sameS ?_)
      obtain ⟨_, h24, h⟩ := gbnd h
      cases h
      exact g_ret_i hF rfl (gbool (chk_sp h24)) dX5_readFactor_23 hR (Nat.zero_le _) (Nat.zero_le _)
theorem c_X5_readFactor {d : Nat} {T : gT} {M : gM} {rec : gRecT_X5_readSum} {m_a0 : Nat} {a0 : Nat} {i1 : Int32} {r : Int32 × gM} (hd : 20 ≤ d) {dr : Nat} (hrec : gRecOk_X5_readSum dr rec) (hdr : dr + 1 ≤ d) (q0 : T[a0]? = some (5, m_a0)) (h : f_X5_readFactor rec T M a0 i1 = some (r)) : gRet d yX5_readFactor cX5_readFactor 3 (some .boolean) 0 0 [.ref a0, .int i1] T M (gSame T (some (.int r.1)) r.2) := by
  refine gRet_of (own := RX5) (by decide) rfl (Nat.le_of_ble_eq_true rfl) (fun Z ad0 hn h0 hF => ?_)
  exact t_X5_readFactor hF hn hd hrec hdr q0 h ⟨rfl, rfl, rfl, rfl⟩
theorem t_X5_readTerm_62 {Z : gZ} {d mc ms : Nat} {Acc : Option Value → (Nat → Nat) → gT → gM → Prop} {AccX : Nat → (Nat → Nat) → gT → gM → Prop} {ad : Nat → Nat} {T : gT} {M : gM} {rec : gRecT_X5_readSum} {m_a0 : Nat} {a0 : Nat} {i1 : Int32} {i2 : Int32} {k0 : Int32} {o : (Int32 × gM) ⊕ (Int32 × gM)} (hF : gFix Z cX5_readTerm RX5 "readTerm" (some .boolean) d mc ms Acc AccX) (hn : Z.2.2.2.2.2.1 = 4) (hd : 21 ≤ d) {dr : Nat} (hrec : gRecOk_X5_readSum dr rec) (hdr : dr + 2 ≤ d) (q0 : T[a0]? = some (5, m_a0)) (h : f_X5_readTerm_62 rec T M a0 i1 i2 k0 = some o) (hR : ∀ r9, o = .inl r9 → Acc (some (.int r9.1)) ad T r9.2) (hN : ∀ n9, o = .inr n9 → gG Z ad T n9.2 0 0 12 [(0, .ref a0), (1, .int i1), (2, .int n9.1)] []) : gG Z ad T M 0 0 62 [(0, .ref a0), (1, .int i1), (2, .int i2)] [.int k0] := by
  unfold f_X5_readTerm_62 at h
  refine g_istore_n (ls' := [(3, .int k0), (0, .ref a0), (1, .int i1), (2, .int i2)]) hF rfl (by rw [hn]; decide) rfl dX5_readTerm_62 ?_
  refine g_aload_n hF 1 rfl rfl dX5_readTerm_63 ?_
  obtain ⟨b1, h1, h⟩ := gbnd h
  obtain ⟨g1, l1, q_b1⟩ := ldr_sp h1
  refine g_get_r hF g1 fl_RX5_12 q0 dX5_readTerm_64 ?_
  obtain ⟨x2, h2, h⟩ := gbnd h
  refine g_callVN hF my_X6_advance kn_821 kw_738 kw_24 gC_6.1 (by decide) q_b1 (c_X6_advance (d := d - 1) (by omega) q_b1 h2) (by omega) (Nat.zero_le _) (Nat.zero_le _) rfl rfl (Nat.le_of_ble_eq_true rfl) dX5_readTerm_67 (g_sameN ?_)
  refine g_aload_n hF 1 rfl rfl dX5_readTerm_70 ?_
  refine g_iload_n hF 2 rfl rfl dX5_readTerm_71 ?_
  obtain ⟨x3, h3, h⟩ := gbnd h
  refine g_callV hF my_X5_readFactor kw_911 kw_913 kw_51 gC_5.1 (by decide) q0 (c_X5_readFactor (d := d - 1) (by omega) hrec (by omega) q0 h3) (by omega) (Nat.zero_le _) (Nat.zero_le _) rfl rfl (Nat.le_of_ble_eq_true rfl) dX5_readTerm_72 (g_sameS ?_)
  refine g_if_ne (tgt := 80) hF dX5_readTerm_75 (by decide) (fun c4 => ?_) (fun c4 => ?_)
  · replace h := gif_t c4 h
    refine g_aload_n hF 1 rfl rfl dX5_readTerm_80 ?_
    refine g_iload_n hF 0 rfl rfl dX5_readTerm_81 ?_
    obtain ⟨x5, h5, h⟩ := gbnd h
    refine g_callV hF my_X5_addCode kw_724 kw_726 kw_22 gC_5.1 (by decide) q0 (c_X5_addCode (d := d - 1) (by omega) q0 h5) (by omega) (Nat.zero_le _) (Nat.zero_le _) rfl rfl (Nat.le_of_ble_eq_true rfl) dX5_readTerm_82 (g_sameN ?_)
    refine g_iinc (n := 1) (v := (i2 + (1 : Int32))) (ls' := [(2, .int (i2 + (1 : Int32))), (3, .int k0), (0, .ref a0), (1, .int i1)]) hF 3 rfl rfl (by rw [hn]; decide) rfl dX5_readTerm_85 ?_
    refine g_goto (tgt := 12) hF dX5_readTerm_88 (by decide) ?_
    exact gG_sub [2, 3, 0] rfl (hN _ (Option.some.inj h).symm)
  · replace h := gif_n c4 h
    refine g_iconst (v := (0 : Int32)) hF rfl dX5_readTerm_78 ?_
    cases h
    exact g_ret_i hF rfl rfl dX5_readTerm_79 (hR _ rfl) (Nat.zero_le _) (Nat.zero_le _)
theorem t_X5_readTerm_43 {Z : gZ} {d mc ms : Nat} {Acc : Option Value → (Nat → Nat) → gT → gM → Prop} {AccX : Nat → (Nat → Nat) → gT → gM → Prop} {ad : Nat → Nat} {T : gT} {M : gM} {rec : gRecT_X5_readSum} {m_a0 : Nat} {a0 : Nat} {i1 : Int32} {i2 : Int32} {o : (Int32 × gM) ⊕ (Int32 × gM)} (hF : gFix Z cX5_readTerm RX5 "readTerm" (some .boolean) d mc ms Acc AccX) (hn : Z.2.2.2.2.2.1 = 4) (hd : 21 ≤ d) {dr : Nat} (hrec : gRecOk_X5_readSum dr rec) (hdr : dr + 2 ≤ d) (q0 : T[a0]? = some (5, m_a0)) (h : f_X5_readTerm_43 rec T M a0 i1 i2 = some o) (hR : ∀ r9, o = .inl r9 → Acc (some (.int r9.1)) ad T r9.2) (hN : ∀ n9, o = .inr n9 → gG Z ad T n9.2 0 0 12 [(0, .ref a0), (1, .int i1), (2, .int n9.1)] []) : gG Z ad T M 0 0 43 [(0, .ref a0), (1, .int i1), (2, .int i2)] [] := by
  unfold f_X5_readTerm_43 at h
  refine g_aload_n hF 0 rfl rfl dX5_readTerm_43 ?_
  obtain ⟨b6, h6, h⟩ := gbnd h
  obtain ⟨g6, l6, q_b6⟩ := ldr_sp h6
  refine g_get_r hF g6 fl_RX5_12 q0 dX5_readTerm_44 ?_
  refine g_bipush (v := (42 : Int32)) hF rfl dX5_readTerm_47 ?_
  obtain ⟨x7, h7, h⟩ := gbnd h
  refine g_callVN hF my_X6_isSign kn_826 kw_828 kw_33 gC_6.1 (by decide) q_b6 (c_X6_isSign (d := d - 1) (by omega) q_b6 h7) (by omega) (Nat.zero_le _) (Nat.zero_le _) rfl rfl (Nat.le_of_ble_eq_true rfl) dX5_readTerm_49 (g_sameS ?_)
  refine g_if_eq (tgt := 60) hF dX5_readTerm_52 (by decide) (fun c8 => ?_) (fun c8 => ?_)
  · replace h := gif_t c8 h
    refine g_bipush (v := (-8 : Int32)) hF rfl dX5_readTerm_60 ?_
    exact gG_sub [0, 1, 2] rfl (t_X5_readTerm_62 hF hn hd hrec hdr q0 h hR hN)
  · replace h := gif_f c8 h
    refine g_bipush (v := (-7 : Int32)) hF rfl dX5_readTerm_55 ?_
    refine g_goto (tgt := 62) hF dX5_readTerm_57 (by decide) ?_
    exact gG_sub [0, 1, 2] rfl (t_X5_readTerm_62 hF hn hd hrec hdr q0 h hR hN)
theorem t_X5_readTerm_B12 {Z : gZ} {d mc ms : Nat} {Acc : Option Value → (Nat → Nat) → gT → gM → Prop} {AccX : Nat → (Nat → Nat) → gT → gM → Prop} {ad : Nat → Nat} {T : gT} {M : gM} {rec : gRecT_X5_readSum} {m_a0 : Nat} {a0 : Nat} {i1 : Int32} {i2 : Int32} {o : (Int32 × gM) ⊕ (Int32 × gM)} (hF : gFix Z cX5_readTerm RX5 "readTerm" (some .boolean) d mc ms Acc AccX) (hn : Z.2.2.2.2.2.1 = 4) (hd : 21 ≤ d) {dr : Nat} (hrec : gRecOk_X5_readSum dr rec) (hdr : dr + 2 ≤ d) (q0 : T[a0]? = some (5, m_a0)) (h : f_X5_readTerm_B12 rec T M a0 i1 i2 = some o) (hR : ∀ r9, o = .inl r9 → Acc (some (.int r9.1)) ad T r9.2) (hN : ∀ n9, o = .inr n9 → gG Z ad T n9.2 0 0 12 [(0, .ref a0), (1, .int i1), (2, .int n9.1)] []) : gG Z ad T M 0 0 12 [(0, .ref a0), (1, .int i1), (2, .int i2)] [] := by
  unfold f_X5_readTerm_B12 at h
  refine g_iload_n hF 2 rfl rfl dX5_readTerm_12 ?_
  refine g_sipush (v := (800 : Int32)) hF rfl dX5_readTerm_13 ?_
  refine g_icmp_ge (tgt := 91) hF dX5_readTerm_16 (by decide) (fun c9 => ?_) (fun c9 => ?_)
  · replace h := gif_t c9 h
    refine g_iconst (v := (1 : Int32)) hF rfl dX5_readTerm_91 ?_
    cases h
    exact g_ret_i hF rfl rfl dX5_readTerm_92 (hR _ rfl) (Nat.zero_le _) (Nat.zero_le _)
  · replace h := gif_f c9 h
    refine g_aload_n hF 0 rfl rfl dX5_readTerm_19 ?_
    obtain ⟨b10, h10, h⟩ := gbnd h
    obtain ⟨g10, l10, q_b10⟩ := ldr_sp h10
    refine g_get_r hF g10 fl_RX5_12 q0 dX5_readTerm_20 ?_
    refine g_bipush (v := (42 : Int32)) hF rfl dX5_readTerm_23 ?_
    obtain ⟨x11, h11, h⟩ := gbnd h
    refine g_callVN hF my_X6_isSign kn_826 kw_828 kw_33 gC_6.1 (by decide) q_b10 (c_X6_isSign (d := d - 1) (by omega) q_b10 h11) (by omega) (Nat.zero_le _) (Nat.zero_le _) rfl rfl (Nat.le_of_ble_eq_true rfl) dX5_readTerm_25 (g_sameS ?_)
    refine g_if_ne (tgt := 43) hF dX5_readTerm_28 (by decide) (fun c12 => ?_) (fun c12 => ?_)
    · replace h := gif_t c12 h
      exact gG_sub [0, 1, 2] rfl (t_X5_readTerm_43 hF hn hd hrec hdr q0 h hR hN)
    · replace h := gif_n c12 h
      refine g_aload_n hF 0 rfl rfl dX5_readTerm_31 ?_
      obtain ⟨b13, h13, h⟩ := gbnd h
      obtain ⟨g13, l13, q_b13⟩ := ldr_sp h13
      refine g_get_r hF g13 fl_RX5_12 q0 dX5_readTerm_32 ?_
      refine g_bipush (v := (47 : Int32)) hF rfl dX5_readTerm_35 ?_
      obtain ⟨x14, h14, h⟩ := gbnd h
      refine g_callVN hF my_X6_isSign kn_826 kw_828 kw_33 gC_6.1 (by decide) q_b13 (c_X6_isSign (d := d - 1) (by omega) q_b13 h14) (by omega) (Nat.zero_le _) (Nat.zero_le _) rfl rfl (Nat.le_of_ble_eq_true rfl) dX5_readTerm_37 (g_sameS ?_)
      refine g_if_eq (tgt := 91) hF dX5_readTerm_40 (by decide) (fun c15 => ?_) (fun c15 => ?_)
      · replace h := gif_t c15 h
        refine g_iconst (v := (1 : Int32)) hF rfl dX5_readTerm_91 ?_
        cases h
        exact g_ret_i hF rfl rfl dX5_readTerm_92 (hR _ rfl) (Nat.zero_le _) (Nat.zero_le _)
      · replace h := gif_f c15 h
        exact gG_sub [0, 1, 2] rfl (t_X5_readTerm_43 hF hn hd hrec hdr q0 h hR hN)
theorem t_X5_readTerm_L12 {Z : gZ} {d mc ms : Nat} {Acc : Option Value → (Nat → Nat) → gT → gM → Prop} {AccX : Nat → (Nat → Nat) → gT → gM → Prop} {ad : Nat → Nat} {T : gT} {M : gM} {rec : gRecT_X5_readSum} {m_a0 : Nat} {a0 : Nat} {i1 : Int32} {i2 : Int32} {o : Int32 × gM} (hF : gFix Z cX5_readTerm RX5 "readTerm" (some .boolean) d mc ms Acc AccX) (hn : Z.2.2.2.2.2.1 = 4) (hd : 21 ≤ d) {dr : Nat} (hrec : gRecOk_X5_readSum dr rec) (hdr : dr + 2 ≤ d) (q0 : T[a0]? = some (5, m_a0)) (h : gloop (fun x => f_X5_readTerm_B12 rec T x.2 a0 i1 x.1) gFU (i2, M) = some o) (hR : Acc (some (.int o.1)) ad T o.2) : gG Z ad T M 0 0 12 [(0, .ref a0), (1, .int i1), (2, .int i2)] [] := by
  refine gloop_ind (P := fun x0 : Int32 × gM => gG Z ad T x0.2 0 0 12 [(0, .ref a0), (1, .int i1), (2, .int x0.1)] []) (e := o) (fun x0 y hy hl hr => ?_) gFU (i2, M) h
  exact t_X5_readTerm_B12 hF hn hd hrec hdr q0 hy (fun r9 q9 => by rw [hl _ q9]; exact hR) (fun n9 q9 => hr n9 q9)
theorem t_X5_readTerm {Z : gZ} {d mc ms : Nat} {Acc : Option Value → (Nat → Nat) → gT → gM → Prop} {AccX : Nat → (Nat → Nat) → gT → gM → Prop} {ad : Nat → Nat} {T : gT} {M : gM} {rec : gRecT_X5_readSum} {m_a0 : Nat} {a0 : Nat} {i1 : Int32} {o : Int32 × gM} (hF : gFix Z cX5_readTerm RX5 "readTerm" (some .boolean) d mc ms Acc AccX) (hn : Z.2.2.2.2.2.1 = 4) (hd : 21 ≤ d) {dr : Nat} (hrec : gRecOk_X5_readSum dr rec) (hdr : dr + 2 ≤ d) (q0 : T[a0]? = some (5, m_a0)) (h : f_X5_readTerm rec T M a0 i1 = some o) (hR : Acc (some (.int o.1)) ad T o.2) : gG Z ad T M 0 0 0 [(0, .ref a0), (1, .int i1)] [] := by
  unfold f_X5_readTerm at h
  refine g_aload_n hF 0 rfl rfl dX5_readTerm_0 ?_
  refine g_iload_n hF 1 rfl rfl dX5_readTerm_1 ?_
  obtain ⟨x16, h16, h⟩ := gbnd h
  refine g_callV hF my_X5_readFactor kw_911 kw_913 kw_51 gC_5.1 (by decide) q0 (c_X5_readFactor (d := d - 1) (by omega) hrec (by omega) q0 h16) (by omega) (Nat.zero_le _) (Nat.zero_le _) rfl rfl (Nat.le_of_ble_eq_true rfl) dX5_readTerm_2 (g_sameS ?_)
  refine g_if_ne (tgt := 10) hF dX5_readTerm_5 (by decide) (fun c17 => ?_) (fun c17 => ?_)
  · replace h := gif_t c17 h
    refine g_iconst (v := (0 : Int32)) hF rfl dX5_readTerm_10 ?_
    refine g_istore_n (ls' := [(2, .int (0 : Int32)), (0, .ref a0), (1, .int i1)]) hF rfl (by rw [hn]; decide) rfl dX5_readTerm_11 ?_
    obtain ⟨x18, h18, h⟩ := gbnd h
    cases h
    exact gG_sub [1, 2, 0] rfl (t_X5_readTerm_L12 hF hn hd hrec hdr q0 h18 hR)
  · replace h := gif_n c17 h
    refine g_iconst (v := (0 : Int32)) hF rfl dX5_readTerm_8 ?_
    cases h
    exact g_ret_i hF rfl rfl dX5_readTerm_9 hR (Nat.zero_le _) (Nat.zero_le _)
theorem c_X5_readTerm {d : Nat} {T : gT} {M : gM} {rec : gRecT_X5_readSum} {m_a0 : Nat} {a0 : Nat} {i1 : Int32} {r : Int32 × gM} (hd : 21 ≤ d) {dr : Nat} (hrec : gRecOk_X5_readSum dr rec) (hdr : dr + 2 ≤ d) (q0 : T[a0]? = some (5, m_a0)) (h : f_X5_readTerm rec T M a0 i1 = some (r)) : gRet d yX5_readTerm cX5_readTerm 4 (some .boolean) 0 0 [.ref a0, .int i1] T M (gSame T (some (.int r.1)) r.2) := by
  refine gRet_of (own := RX5) (by decide) rfl (Nat.le_of_ble_eq_true rfl) (fun Z ad0 hn h0 hF => ?_)
  exact t_X5_readTerm hF hn hd hrec hdr q0 h ⟨rfl, rfl, rfl, rfl⟩
theorem t_X5_readSum_62 {Z : gZ} {d mc ms : Nat} {Acc : Option Value → (Nat → Nat) → gT → gM → Prop} {AccX : Nat → (Nat → Nat) → gT → gM → Prop} {ad : Nat → Nat} {T : gT} {M : gM} {rec : gRecT_X5_readSum} {m_a0 : Nat} {a0 : Nat} {i1 : Int32} {i2 : Int32} {k0 : Int32} {o : (Int32 × gM) ⊕ (Int32 × gM)} (hF : gFix Z cX5_readSum RX5 "readSum" (some .boolean) d mc ms Acc AccX) (hn : Z.2.2.2.2.2.1 = 4) (hd : 22 ≤ d) {dr : Nat} (hrec : gRecOk_X5_readSum dr rec) (hdr : dr + 3 ≤ d) (q0 : T[a0]? = some (5, m_a0)) (h : f_X5_readSum_62 rec T M a0 i1 i2 k0 = some o) (hR : ∀ r9, o = .inl r9 → Acc (some (.int r9.1)) ad T r9.2) (hN : ∀ n9, o = .inr n9 → gG Z ad T n9.2 0 0 12 [(0, .ref a0), (1, .int i1), (2, .int n9.1)] []) : gG Z ad T M 0 0 62 [(0, .ref a0), (1, .int i1), (2, .int i2)] [.int k0] := by
  unfold f_X5_readSum_62 at h
  refine g_istore_n (ls' := [(3, .int k0), (0, .ref a0), (1, .int i1), (2, .int i2)]) hF rfl (by rw [hn]; decide) rfl dX5_readSum_62 ?_
  refine g_aload_n hF 1 rfl rfl dX5_readSum_63 ?_
  obtain ⟨b1, h1, h⟩ := gbnd h
  obtain ⟨g1, l1, q_b1⟩ := ldr_sp h1
  refine g_get_r hF g1 fl_RX5_12 q0 dX5_readSum_64 ?_
  obtain ⟨x2, h2, h⟩ := gbnd h
  refine g_callVN hF my_X6_advance kn_821 kw_738 kw_24 gC_6.1 (by decide) q_b1 (c_X6_advance (d := d - 1) (by omega) q_b1 h2) (by omega) (Nat.zero_le _) (Nat.zero_le _) rfl rfl (Nat.le_of_ble_eq_true rfl) dX5_readSum_67 (g_sameN ?_)
  refine g_aload_n hF 1 rfl rfl dX5_readSum_70 ?_
  refine g_iload_n hF 2 rfl rfl dX5_readSum_71 ?_
  obtain ⟨x3, h3, h⟩ := gbnd h
  refine g_callV hF my_X5_readTerm kw_907 kw_909 kw_50 gC_5.1 (by decide) q0 (c_X5_readTerm (d := d - 1) (by omega) hrec (by omega) q0 h3) (by omega) (Nat.zero_le _) (Nat.zero_le _) rfl rfl (Nat.le_of_ble_eq_true rfl) dX5_readSum_72 (g_sameS ?_)
  refine g_if_ne (tgt := 80) hF dX5_readSum_75 (by decide) (fun c4 => ?_) (fun c4 => ?_)
  · replace h := gif_t c4 h
    refine g_aload_n hF 1 rfl rfl dX5_readSum_80 ?_
    refine g_iload_n hF 0 rfl rfl dX5_readSum_81 ?_
    obtain ⟨x5, h5, h⟩ := gbnd h
    refine g_callV hF my_X5_addCode kw_724 kw_726 kw_22 gC_5.1 (by decide) q0 (c_X5_addCode (d := d - 1) (by omega) q0 h5) (by omega) (Nat.zero_le _) (Nat.zero_le _) rfl rfl (Nat.le_of_ble_eq_true rfl) dX5_readSum_82 (g_sameN ?_)
    refine g_iinc (n := 1) (v := (i2 + (1 : Int32))) (ls' := [(2, .int (i2 + (1 : Int32))), (3, .int k0), (0, .ref a0), (1, .int i1)]) hF 3 rfl rfl (by rw [hn]; decide) rfl dX5_readSum_85 ?_
    refine g_goto (tgt := 12) hF dX5_readSum_88 (by decide) ?_
    exact gG_sub [2, 3, 0] rfl (hN _ (Option.some.inj h).symm)
  · replace h := gif_n c4 h
    refine g_iconst (v := (0 : Int32)) hF rfl dX5_readSum_78 ?_
    cases h
    exact g_ret_i hF rfl rfl dX5_readSum_79 (hR _ rfl) (Nat.zero_le _) (Nat.zero_le _)
theorem t_X5_readSum_43 {Z : gZ} {d mc ms : Nat} {Acc : Option Value → (Nat → Nat) → gT → gM → Prop} {AccX : Nat → (Nat → Nat) → gT → gM → Prop} {ad : Nat → Nat} {T : gT} {M : gM} {rec : gRecT_X5_readSum} {m_a0 : Nat} {a0 : Nat} {i1 : Int32} {i2 : Int32} {o : (Int32 × gM) ⊕ (Int32 × gM)} (hF : gFix Z cX5_readSum RX5 "readSum" (some .boolean) d mc ms Acc AccX) (hn : Z.2.2.2.2.2.1 = 4) (hd : 22 ≤ d) {dr : Nat} (hrec : gRecOk_X5_readSum dr rec) (hdr : dr + 3 ≤ d) (q0 : T[a0]? = some (5, m_a0)) (h : f_X5_readSum_43 rec T M a0 i1 i2 = some o) (hR : ∀ r9, o = .inl r9 → Acc (some (.int r9.1)) ad T r9.2) (hN : ∀ n9, o = .inr n9 → gG Z ad T n9.2 0 0 12 [(0, .ref a0), (1, .int i1), (2, .int n9.1)] []) : gG Z ad T M 0 0 43 [(0, .ref a0), (1, .int i1), (2, .int i2)] [] := by
  unfold f_X5_readSum_43 at h
  refine g_aload_n hF 0 rfl rfl dX5_readSum_43 ?_
  obtain ⟨b6, h6, h⟩ := gbnd h
  obtain ⟨g6, l6, q_b6⟩ := ldr_sp h6
  refine g_get_r hF g6 fl_RX5_12 q0 dX5_readSum_44 ?_
  refine g_bipush (v := (43 : Int32)) hF rfl dX5_readSum_47 ?_
  obtain ⟨x7, h7, h⟩ := gbnd h
  refine g_callVN hF my_X6_isSign kn_826 kw_828 kw_33 gC_6.1 (by decide) q_b6 (c_X6_isSign (d := d - 1) (by omega) q_b6 h7) (by omega) (Nat.zero_le _) (Nat.zero_le _) rfl rfl (Nat.le_of_ble_eq_true rfl) dX5_readSum_49 (g_sameS ?_)
  refine g_if_eq (tgt := 60) hF dX5_readSum_52 (by decide) (fun c8 => ?_) (fun c8 => ?_)
  · replace h := gif_t c8 h
    refine g_bipush (v := (-6 : Int32)) hF rfl dX5_readSum_60 ?_
    exact gG_sub [0, 1, 2] rfl (t_X5_readSum_62 hF hn hd hrec hdr q0 h hR hN)
  · replace h := gif_f c8 h
    refine g_bipush (v := (-5 : Int32)) hF rfl dX5_readSum_55 ?_
    refine g_goto (tgt := 62) hF dX5_readSum_57 (by decide) ?_
    exact gG_sub [0, 1, 2] rfl (t_X5_readSum_62 hF hn hd hrec hdr q0 h hR hN)
theorem t_X5_readSum_B12 {Z : gZ} {d mc ms : Nat} {Acc : Option Value → (Nat → Nat) → gT → gM → Prop} {AccX : Nat → (Nat → Nat) → gT → gM → Prop} {ad : Nat → Nat} {T : gT} {M : gM} {rec : gRecT_X5_readSum} {m_a0 : Nat} {a0 : Nat} {i1 : Int32} {i2 : Int32} {o : (Int32 × gM) ⊕ (Int32 × gM)} (hF : gFix Z cX5_readSum RX5 "readSum" (some .boolean) d mc ms Acc AccX) (hn : Z.2.2.2.2.2.1 = 4) (hd : 22 ≤ d) {dr : Nat} (hrec : gRecOk_X5_readSum dr rec) (hdr : dr + 3 ≤ d) (q0 : T[a0]? = some (5, m_a0)) (h : f_X5_readSum_B12 rec T M a0 i1 i2 = some o) (hR : ∀ r9, o = .inl r9 → Acc (some (.int r9.1)) ad T r9.2) (hN : ∀ n9, o = .inr n9 → gG Z ad T n9.2 0 0 12 [(0, .ref a0), (1, .int i1), (2, .int n9.1)] []) : gG Z ad T M 0 0 12 [(0, .ref a0), (1, .int i1), (2, .int i2)] [] := by
  unfold f_X5_readSum_B12 at h
  refine g_iload_n hF 2 rfl rfl dX5_readSum_12 ?_
  refine g_sipush (v := (800 : Int32)) hF rfl dX5_readSum_13 ?_
  refine g_icmp_ge (tgt := 91) hF dX5_readSum_16 (by decide) (fun c9 => ?_) (fun c9 => ?_)
  · replace h := gif_t c9 h
    refine g_iconst (v := (1 : Int32)) hF rfl dX5_readSum_91 ?_
    cases h
    exact g_ret_i hF rfl rfl dX5_readSum_92 (hR _ rfl) (Nat.zero_le _) (Nat.zero_le _)
  · replace h := gif_f c9 h
    refine g_aload_n hF 0 rfl rfl dX5_readSum_19 ?_
    obtain ⟨b10, h10, h⟩ := gbnd h
    obtain ⟨g10, l10, q_b10⟩ := ldr_sp h10
    refine g_get_r hF g10 fl_RX5_12 q0 dX5_readSum_20 ?_
    refine g_bipush (v := (43 : Int32)) hF rfl dX5_readSum_23 ?_
    obtain ⟨x11, h11, h⟩ := gbnd h
    refine g_callVN hF my_X6_isSign kn_826 kw_828 kw_33 gC_6.1 (by decide) q_b10 (c_X6_isSign (d := d - 1) (by omega) q_b10 h11) (by omega) (Nat.zero_le _) (Nat.zero_le _) rfl rfl (Nat.le_of_ble_eq_true rfl) dX5_readSum_25 (g_sameS ?_)
    refine g_if_ne (tgt := 43) hF dX5_readSum_28 (by decide) (fun c12 => ?_) (fun c12 => ?_)
    · replace h := gif_t c12 h
      exact gG_sub [0, 1, 2] rfl (t_X5_readSum_43 hF hn hd hrec hdr q0 h hR hN)
    · replace h := gif_n c12 h
      refine g_aload_n hF 0 rfl rfl dX5_readSum_31 ?_
      obtain ⟨b13, h13, h⟩ := gbnd h
      obtain ⟨g13, l13, q_b13⟩ := ldr_sp h13
      refine g_get_r hF g13 fl_RX5_12 q0 dX5_readSum_32 ?_
      refine g_bipush (v := (45 : Int32)) hF rfl dX5_readSum_35 ?_
      obtain ⟨x14, h14, h⟩ := gbnd h
      refine g_callVN hF my_X6_isSign kn_826 kw_828 kw_33 gC_6.1 (by decide) q_b13 (c_X6_isSign (d := d - 1) (by omega) q_b13 h14) (by omega) (Nat.zero_le _) (Nat.zero_le _) rfl rfl (Nat.le_of_ble_eq_true rfl) dX5_readSum_37 (g_sameS ?_)
      refine g_if_eq (tgt := 91) hF dX5_readSum_40 (by decide) (fun c15 => ?_) (fun c15 => ?_)
      · replace h := gif_t c15 h
        refine g_iconst (v := (1 : Int32)) hF rfl dX5_readSum_91 ?_
        cases h
        exact g_ret_i hF rfl rfl dX5_readSum_92 (hR _ rfl) (Nat.zero_le _) (Nat.zero_le _)
      · replace h := gif_f c15 h
        exact gG_sub [0, 1, 2] rfl (t_X5_readSum_43 hF hn hd hrec hdr q0 h hR hN)
theorem t_X5_readSum_L12 {Z : gZ} {d mc ms : Nat} {Acc : Option Value → (Nat → Nat) → gT → gM → Prop} {AccX : Nat → (Nat → Nat) → gT → gM → Prop} {ad : Nat → Nat} {T : gT} {M : gM} {rec : gRecT_X5_readSum} {m_a0 : Nat} {a0 : Nat} {i1 : Int32} {i2 : Int32} {o : Int32 × gM} (hF : gFix Z cX5_readSum RX5 "readSum" (some .boolean) d mc ms Acc AccX) (hn : Z.2.2.2.2.2.1 = 4) (hd : 22 ≤ d) {dr : Nat} (hrec : gRecOk_X5_readSum dr rec) (hdr : dr + 3 ≤ d) (q0 : T[a0]? = some (5, m_a0)) (h : gloop (fun x => f_X5_readSum_B12 rec T x.2 a0 i1 x.1) gFU (i2, M) = some o) (hR : Acc (some (.int o.1)) ad T o.2) : gG Z ad T M 0 0 12 [(0, .ref a0), (1, .int i1), (2, .int i2)] [] := by
  refine gloop_ind (P := fun x0 : Int32 × gM => gG Z ad T x0.2 0 0 12 [(0, .ref a0), (1, .int i1), (2, .int x0.1)] []) (e := o) (fun x0 y hy hl hr => ?_) gFU (i2, M) h
  exact t_X5_readSum_B12 hF hn hd hrec hdr q0 hy (fun r9 q9 => by rw [hl _ q9]; exact hR) (fun n9 q9 => hr n9 q9)
theorem t_X5_readSum {Z : gZ} {d mc ms : Nat} {Acc : Option Value → (Nat → Nat) → gT → gM → Prop} {AccX : Nat → (Nat → Nat) → gT → gM → Prop} {ad : Nat → Nat} {T : gT} {M : gM} {rec : gRecT_X5_readSum} {m_a0 : Nat} {a0 : Nat} {i1 : Int32} {o : Int32 × gM} (hF : gFix Z cX5_readSum RX5 "readSum" (some .boolean) d mc ms Acc AccX) (hn : Z.2.2.2.2.2.1 = 4) (hd : 22 ≤ d) {dr : Nat} (hrec : gRecOk_X5_readSum dr rec) (hdr : dr + 3 ≤ d) (q0 : T[a0]? = some (5, m_a0)) (h : f_X5_readSum rec T M a0 i1 = some o) (hR : Acc (some (.int o.1)) ad T o.2) : gG Z ad T M 0 0 0 [(0, .ref a0), (1, .int i1)] [] := by
  unfold f_X5_readSum at h
  refine g_aload_n hF 0 rfl rfl dX5_readSum_0 ?_
  refine g_iload_n hF 1 rfl rfl dX5_readSum_1 ?_
  obtain ⟨x16, h16, h⟩ := gbnd h
  refine g_callV hF my_X5_readTerm kw_907 kw_909 kw_50 gC_5.1 (by decide) q0 (c_X5_readTerm (d := d - 1) (by omega) hrec (by omega) q0 h16) (by omega) (Nat.zero_le _) (Nat.zero_le _) rfl rfl (Nat.le_of_ble_eq_true rfl) dX5_readSum_2 (g_sameS ?_)
  refine g_if_ne (tgt := 10) hF dX5_readSum_5 (by decide) (fun c17 => ?_) (fun c17 => ?_)
  · replace h := gif_t c17 h
    refine g_iconst (v := (0 : Int32)) hF rfl dX5_readSum_10 ?_
    refine g_istore_n (ls' := [(2, .int (0 : Int32)), (0, .ref a0), (1, .int i1)]) hF rfl (by rw [hn]; decide) rfl dX5_readSum_11 ?_
    obtain ⟨x18, h18, h⟩ := gbnd h
    cases h
    exact gG_sub [1, 2, 0] rfl (t_X5_readSum_L12 hF hn hd hrec hdr q0 h18 hR)
  · replace h := gif_n c17 h
    refine g_iconst (v := (0 : Int32)) hF rfl dX5_readSum_8 ?_
    cases h
    exact g_ret_i hF rfl rfl dX5_readSum_9 hR (Nat.zero_le _) (Nat.zero_le _)
theorem c_X5_readSum {d : Nat} {T : gT} {M : gM} {rec : gRecT_X5_readSum} {m_a0 : Nat} {a0 : Nat} {i1 : Int32} {r : Int32 × gM} (hd : 22 ≤ d) {dr : Nat} (hrec : gRecOk_X5_readSum dr rec) (hdr : dr + 3 ≤ d) (q0 : T[a0]? = some (5, m_a0)) (h : f_X5_readSum rec T M a0 i1 = some (r)) : gRet d yX5_readSum cX5_readSum 4 (some .boolean) 0 0 [.ref a0, .int i1] T M (gSame T (some (.int r.1)) r.2) := by
  refine gRet_of (own := RX5) (by decide) rfl (Nat.le_of_ble_eq_true rfl) (fun Z ad0 hn h0 hF => ?_)
  exact t_X5_readSum hF hn hd hrec hdr q0 h ⟨rfl, rfl, rfl, rfl⟩
theorem gRecAll_X5_readSum : ∀ n : Nat, gRecOk_X5_readSum (22 + 3 * n) (g_X5_readSum n)
  | 0 => fun _ _ h => nomatch h
  | n + 1 => fun hd q0 h => c_X5_readSum (by omega) (gRecAll_X5_readSum n) (by omega) q0 h
theorem c_X5_readSum_c {d : Nat} {T : gT} {M : gM} {m_a0 : Nat} {a0 : Nat} {i1 : Int32} {r : Int32 × gM} (hd : 52 ≤ d) (q0 : T[a0]? = some (5, m_a0)) (h : f_X5_readSum_c T M a0 i1 = some r) : gRet d yX5_readSum cX5_readSum 4 (some .boolean) 0 0 [.ref a0, .int i1] T M (gSame T (some (.int r.1)) r.2) := gRecAll_X5_readSum 10 (by omega) q0 h
theorem t_X5_readWeight {Z : gZ} {d mc ms : Nat} {Acc : Option Value → (Nat → Nat) → gT → gM → Prop} {AccX : Nat → (Nat → Nat) → gT → gM → Prop} {ad : Nat → Nat} {T : gT} {M : gM} {m_a0 : Nat} {a0 : Nat} {o : Int32 × gM} (hF : gFix Z cX5_readWeight RX5 "readWeight" (some .boolean) d mc ms Acc AccX) (hn : Z.2.2.2.2.2.1 = 1) (hd : 53 ≤ d) (q0 : T[a0]? = some (5, m_a0)) (h : f_X5_readWeight T M a0 = some o) (hR : Acc (some (.int o.1)) ad T o.2) : gG Z ad T M 0 0 0 [(0, .ref a0)] [] := by
  unfold f_X5_readWeight at h
  refine g_aload_n hF 0 rfl rfl dX5_readWeight_0 ?_
  refine g_iconst (v := (1 : Int32)) hF rfl dX5_readWeight_1 ?_
  refine g_put_i hF rfl rfl fl_RX5_44 q0 dX5_readWeight_2 ?_
  refine g_aload_n hF 0 rfl rfl dX5_readWeight_5 ?_
  refine g_iconst (v := (0 : Int32)) hF rfl dX5_readWeight_6 ?_
  refine g_put_i hF rfl rfl fl_RX5_36 q0 dX5_readWeight_7 ?_
  refine g_aload_n hF 0 rfl rfl dX5_readWeight_10 ?_
  obtain ⟨b1, h1, h⟩ := gbnd h
  obtain ⟨g1, l1, q_b1⟩ := ldr_sp h1
  refine g_get_r hF g1 fl_RX5_12 q0 dX5_readWeight_11 ?_
  obtain ⟨x2, h2, h⟩ := gbnd h
  refine g_callVN hF my_X6_advance kn_821 kw_738 kw_24 gC_6.1 (by decide) q_b1 (c_X6_advance (d := d - 1) (by omega) q_b1 h2) (by omega) (Nat.zero_le _) (Nat.zero_le _) rfl rfl (Nat.le_of_ble_eq_true rfl) dX5_readWeight_14 (g_sameN ?_)
  refine g_aload_n hF 0 rfl rfl dX5_readWeight_17 ?_
  refine g_iconst (v := (0 : Int32)) hF rfl dX5_readWeight_18 ?_
  obtain ⟨x3, h3, h⟩ := gbnd h
  refine g_callV hF my_X5_readSum kw_903 kw_905 kw_49 gC_5.1 (by decide) q0 (c_X5_readSum_c (d := d - 1) (by omega) q0 h3) (by omega) (Nat.zero_le _) (Nat.zero_le _) rfl rfl (Nat.le_of_ble_eq_true rfl) dX5_readWeight_19 (g_sameS ?_)
  obtain ⟨_, h4, h⟩ := gbnd h
  cases h
  exact g_ret_i hF rfl (gbool (chk_sp h4)) dX5_readWeight_22 hR (Nat.zero_le _) (Nat.zero_le _)
theorem c_X5_readWeight {d : Nat} {T : gT} {M : gM} {m_a0 : Nat} {a0 : Nat} {r : Int32 × gM} (hd : 53 ≤ d) (q0 : T[a0]? = some (5, m_a0)) (h : f_X5_readWeight T M a0 = some (r)) : gRet d yX5_readWeight cX5_readWeight 1 (some .boolean) 0 0 [.ref a0] T M (gSame T (some (.int r.1)) r.2) := by
  refine gRet_of (own := RX5) (by decide) rfl (Nat.le_of_ble_eq_true rfl) (fun Z ad0 hn h0 hF => ?_)
  exact t_X5_readWeight hF hn hd q0 h ⟨rfl, rfl, rfl, rfl⟩
theorem t_X5_readStatement_92 {Z : gZ} {d mc ms : Nat} {Acc : Option Value → (Nat → Nat) → gT → gM → Prop} {AccX : Nat → (Nat → Nat) → gT → gM → Prop} {ad : Nat → Nat} {T : gT} {M : gM} {m_a0 : Nat} {a0 : Nat} {o : Int32 × gM} (hF : gFix Z cX5_readStatement RX5 "readStatement" (some .boolean) d mc ms Acc AccX) (hn : Z.2.2.2.2.2.1 = 1) (hd : 54 ≤ d) (q0 : T[a0]? = some (5, m_a0)) (h : f_X5_readStatement_92 T M a0 = some o) (hR : Acc (some (.int o.1)) ad T o.2) : gG Z ad T M 0 0 92 [(0, .ref a0)] [] := by
  unfold f_X5_readStatement_92 at h
  refine g_aload_n hF 0 rfl rfl dX5_readStatement_92 ?_
  obtain ⟨b1, h1, h⟩ := gbnd h
  obtain ⟨g1, l1, q_b1⟩ := ldr_sp h1
  refine g_get_r hF g1 fl_RX5_12 q0 dX5_readStatement_93 ?_
  refine g_ldcS (tx := "weight") (a := gSB + 6) hF (by decide +kernel) (Nat.le_add_right _ _) dX5_readStatement_96 ?_
  obtain ⟨x2, h2, h⟩ := gbnd h
  refine g_callVN hF my_X6_isWord kn_758 kw_760 kw_29 gC_6.1 (by decide) q_b1 (c_X6_isWord (d := d - 1) (by omega) q_b1 h2) (by omega) (Nat.zero_le _) (Nat.zero_le _) rfl rfl (Nat.le_of_ble_eq_true rfl) dX5_readStatement_98 (g_sameS ?_)
  refine g_if_eq (tgt := 116) hF dX5_readStatement_101 (by decide) (fun c3 => ?_) (fun c3 => ?_)
  · replace h := gif_t c3 h
    refine g_aload_n hF 0 rfl rfl dX5_readStatement_116 ?_
    obtain ⟨x4, h4, h⟩ := gbnd h
    refine g_callV hF my_X5_syntaxError kw_813 kw_815 kw_30 gC_5.1 (by decide) q0 (c_X5_syntaxError (d := d - 1) (by omega) q0 h4) (by omega) (Nat.zero_le _) (Nat.zero_le _) rfl rfl (Nat.le_of_ble_eq_true rfl) dX5_readStatement_117 (g_sameS ?_)
    obtain ⟨_, h5, h⟩ := gbnd h
    cases h
    exact g_ret_i hF rfl (gbool (chk_sp h5)) dX5_readStatement_120 hR (Nat.zero_le _) (Nat.zero_le _)
  · replace h := gif_f c3 h
    refine g_aload_n hF 0 rfl rfl dX5_readStatement_104 ?_
    refine g_get_i hF fl_RX5_44 q0 dX5_readStatement_105 ?_
    refine g_if_ne (tgt := 116) hF dX5_readStatement_108 (by decide) (fun c6 => ?_) (fun c6 => ?_)
    · replace h := gif_t c6 h
      refine g_aload_n hF 0 rfl rfl dX5_readStatement_116 ?_
      obtain ⟨x7, h7, h⟩ := gbnd h
      refine g_callV hF my_X5_syntaxError kw_813 kw_815 kw_30 gC_5.1 (by decide) q0 (c_X5_syntaxError (d := d - 1) (by omega) q0 h7) (by omega) (Nat.zero_le _) (Nat.zero_le _) rfl rfl (Nat.le_of_ble_eq_true rfl) dX5_readStatement_117 (g_sameS ?_)
      obtain ⟨_, h8, h⟩ := gbnd h
      cases h
      exact g_ret_i hF rfl (gbool (chk_sp h8)) dX5_readStatement_120 hR (Nat.zero_le _) (Nat.zero_le _)
    · replace h := gif_n c6 h
      refine g_aload_n hF 0 rfl rfl dX5_readStatement_111 ?_
      obtain ⟨x9, h9, h⟩ := gbnd h
      refine g_callV hF my_X5_readWeight kw_899 kw_901 kw_48 gC_5.1 (by decide) q0 (c_X5_readWeight (d := d - 1) (by omega) q0 h9) (by omega) (Nat.zero_le _) (Nat.zero_le _) rfl rfl (Nat.le_of_ble_eq_true rfl) dX5_readStatement_112 (g_sameS ?_)
      obtain ⟨_, h10, h⟩ := gbnd h
      cases h
      exact g_ret_i hF rfl (gbool (chk_sp h10)) dX5_readStatement_115 hR (Nat.zero_le _) (Nat.zero_le _)
theorem t_X5_readStatement {Z : gZ} {d mc ms : Nat} {Acc : Option Value → (Nat → Nat) → gT → gM → Prop} {AccX : Nat → (Nat → Nat) → gT → gM → Prop} {ad : Nat → Nat} {T : gT} {M : gM} {m_a0 : Nat} {a0 : Nat} {o : Int32 × gM} (hF : gFix Z cX5_readStatement RX5 "readStatement" (some .boolean) d mc ms Acc AccX) (hn : Z.2.2.2.2.2.1 = 1) (hd : 54 ≤ d) (q0 : T[a0]? = some (5, m_a0)) (h : f_X5_readStatement T M a0 = some o) (hR : Acc (some (.int o.1)) ad T o.2) : gG Z ad T M 0 0 0 [(0, .ref a0)] [] := by
  unfold f_X5_readStatement at h
  refine g_aload_n hF 0 rfl rfl dX5_readStatement_0 ?_
  obtain ⟨b11, h11, h⟩ := gbnd h
  obtain ⟨g11, l11, q_b11⟩ := ldr_sp h11
  refine g_get_r hF g11 fl_RX5_12 q0 dX5_readStatement_1 ?_
  refine g_ldcS (tx := "name") (a := gSB + 1) hF (by decide +kernel) (Nat.le_add_right _ _) dX5_readStatement_4 ?_
  obtain ⟨x12, h12, h⟩ := gbnd h
  refine g_callVN hF my_X6_isWord kn_758 kw_760 kw_29 gC_6.1 (by decide) q_b11 (c_X6_isWord (d := d - 1) (by omega) q_b11 h12) (by omega) (Nat.zero_le _) (Nat.zero_le _) rfl rfl (Nat.le_of_ble_eq_true rfl) dX5_readStatement_6 (g_sameS ?_)
  refine g_if_eq (tgt := 17) hF dX5_readStatement_9 (by decide) (fun c13 => ?_) (fun c13 => ?_)
  · replace h := gif_t c13 h
    refine g_aload_n hF 0 rfl rfl dX5_readStatement_17 ?_
    obtain ⟨b14, h14, h⟩ := gbnd h
    obtain ⟨g14, l14, q_b14⟩ := ldr_sp h14
    refine g_get_r hF g14 fl_RX5_12 q0 dX5_readStatement_18 ?_
    refine g_ldcS (tx := "library") (a := gSB + 2) hF (by decide +kernel) (Nat.le_add_right _ _) dX5_readStatement_21 ?_
    obtain ⟨x15, h15, h⟩ := gbnd h
    refine g_callVN hF my_X6_isWord kn_758 kw_760 kw_29 gC_6.1 (by decide) q_b14 (c_X6_isWord (d := d - 1) (by omega) q_b14 h15) (by omega) (Nat.zero_le _) (Nat.zero_le _) rfl rfl (Nat.le_of_ble_eq_true rfl) dX5_readStatement_23 (g_sameS ?_)
    refine g_if_eq (tgt := 34) hF dX5_readStatement_26 (by decide) (fun c16 => ?_) (fun c16 => ?_)
    · replace h := gif_t c16 h
      refine g_aload_n hF 0 rfl rfl dX5_readStatement_34 ?_
      obtain ⟨b17, h17, h⟩ := gbnd h
      obtain ⟨g17, l17, q_b17⟩ := ldr_sp h17
      refine g_get_r hF g17 fl_RX5_12 q0 dX5_readStatement_35 ?_
      refine g_ldcS (tx := "offer") (a := gSB + 3) hF (by decide +kernel) (Nat.le_add_right _ _) dX5_readStatement_38 ?_
      obtain ⟨x18, h18, h⟩ := gbnd h
      refine g_callVN hF my_X6_isWord kn_758 kw_760 kw_29 gC_6.1 (by decide) q_b17 (c_X6_isWord (d := d - 1) (by omega) q_b17 h18) (by omega) (Nat.zero_le _) (Nat.zero_le _) rfl rfl (Nat.le_of_ble_eq_true rfl) dX5_readStatement_40 (g_sameS ?_)
      refine g_if_eq (tgt := 51) hF dX5_readStatement_43 (by decide) (fun c19 => ?_) (fun c19 => ?_)
      · replace h := gif_t c19 h
        refine g_aload_n hF 0 rfl rfl dX5_readStatement_51 ?_
        obtain ⟨b20, h20, h⟩ := gbnd h
        obtain ⟨g20, l20, q_b20⟩ := ldr_sp h20
        refine g_get_r hF g20 fl_RX5_12 q0 dX5_readStatement_52 ?_
        refine g_ldcS (tx := "prefer") (a := gSB + 4) hF (by decide +kernel) (Nat.le_add_right _ _) dX5_readStatement_55 ?_
        obtain ⟨x21, h21, h⟩ := gbnd h
        refine g_callVN hF my_X6_isWord kn_758 kw_760 kw_29 gC_6.1 (by decide) q_b20 (c_X6_isWord (d := d - 1) (by omega) q_b20 h21) (by omega) (Nat.zero_le _) (Nat.zero_le _) rfl rfl (Nat.le_of_ble_eq_true rfl) dX5_readStatement_57 (g_sameS ?_)
        refine g_if_eq (tgt := 68) hF dX5_readStatement_60 (by decide) (fun c22 => ?_) (fun c22 => ?_)
        · replace h := gif_t c22 h
          refine g_aload_n hF 0 rfl rfl dX5_readStatement_68 ?_
          obtain ⟨b23, h23, h⟩ := gbnd h
          obtain ⟨g23, l23, q_b23⟩ := ldr_sp h23
          refine g_get_r hF g23 fl_RX5_12 q0 dX5_readStatement_69 ?_
          refine g_ldcS (tx := "share") (a := gSB + 5) hF (by decide +kernel) (Nat.le_add_right _ _) dX5_readStatement_72 ?_
          obtain ⟨x24, h24, h⟩ := gbnd h
          refine g_callVN hF my_X6_isWord kn_758 kw_760 kw_29 gC_6.1 (by decide) q_b23 (c_X6_isWord (d := d - 1) (by omega) q_b23 h24) (by omega) (Nat.zero_le _) (Nat.zero_le _) rfl rfl (Nat.le_of_ble_eq_true rfl) dX5_readStatement_74 (g_sameS ?_)
          refine g_if_eq (tgt := 92) hF dX5_readStatement_77 (by decide) (fun c25 => ?_) (fun c25 => ?_)
          · replace h := gif_t c25 h
            exact gG_sub [0] rfl (t_X5_readStatement_92 hF hn hd q0 h hR)
          · replace h := gif_f c25 h
            refine g_aload_n hF 0 rfl rfl dX5_readStatement_80 ?_
            refine g_get_i hF fl_RX5_40 q0 dX5_readStatement_81 ?_
            refine g_if_ne (tgt := 92) hF dX5_readStatement_84 (by decide) (fun c26 => ?_) (fun c26 => ?_)
            · replace h := gif_t c26 h
              exact gG_sub [0] rfl (t_X5_readStatement_92 hF hn hd q0 h hR)
            · replace h := gif_n c26 h
              refine g_aload_n hF 0 rfl rfl dX5_readStatement_87 ?_
              obtain ⟨x27, h27, h⟩ := gbnd h
              refine g_callV hF my_X5_readShare kw_894 kw_896 kw_47 gC_5.1 (by decide) q0 (c_X5_readShare (d := d - 1) (by omega) q0 h27) (by omega) (Nat.zero_le _) (Nat.zero_le _) rfl rfl (Nat.le_of_ble_eq_true rfl) dX5_readStatement_88 (g_sameS ?_)
              obtain ⟨_, h28, h⟩ := gbnd h
              cases h
              exact g_ret_i hF rfl (gbool (chk_sp h28)) dX5_readStatement_91 hR (Nat.zero_le _) (Nat.zero_le _)
        · replace h := gif_f c22 h
          refine g_aload_n hF 0 rfl rfl dX5_readStatement_63 ?_
          obtain ⟨x29, h29, h⟩ := gbnd h
          refine g_callV hF my_X5_readPrefer kw_884 kw_886 kw_45 gC_5.1 (by decide) q0 (c_X5_readPrefer (d := d - 1) (by omega) q0 h29) (by omega) (Nat.zero_le _) (Nat.zero_le _) rfl rfl (Nat.le_of_ble_eq_true rfl) dX5_readStatement_64 (g_sameS ?_)
          obtain ⟨_, h30, h⟩ := gbnd h
          cases h
          exact g_ret_i hF rfl (gbool (chk_sp h30)) dX5_readStatement_67 hR (Nat.zero_le _) (Nat.zero_le _)
      · replace h := gif_f c19 h
        refine g_aload_n hF 0 rfl rfl dX5_readStatement_46 ?_
        obtain ⟨x31, h31, h⟩ := gbnd h
        refine g_callV hF my_X5_readOffer kw_865 kw_867 kw_41 gC_5.1 (by decide) q0 (c_X5_readOffer (d := d - 1) (by omega) q0 h31) (by omega) (Nat.zero_le _) (Nat.zero_le _) rfl rfl (Nat.le_of_ble_eq_true rfl) dX5_readStatement_47 (g_sameS ?_)
        obtain ⟨_, h32, h⟩ := gbnd h
        cases h
        exact g_ret_i hF rfl (gbool (chk_sp h32)) dX5_readStatement_50 hR (Nat.zero_le _) (Nat.zero_le _)
    · replace h := gif_f c16 h
      refine g_aload_n hF 0 rfl rfl dX5_readStatement_29 ?_
      obtain ⟨x33, h33, h⟩ := gbnd h
      refine g_callV hF my_X5_readNewLibrary kw_848 kw_850 kw_38 gC_5.1 (by decide) q0 (c_X5_readNewLibrary (d := d - 1) (by omega) q0 h33) (by omega) (Nat.zero_le _) (Nat.zero_le _) rfl rfl (Nat.le_of_ble_eq_true rfl) dX5_readStatement_30 (g_sameS ?_)
      obtain ⟨_, h34, h⟩ := gbnd h
      cases h
      exact g_ret_i hF rfl (gbool (chk_sp h34)) dX5_readStatement_33 hR (Nat.zero_le _) (Nat.zero_le _)
  · replace h := gif_f c13 h
    refine g_aload_n hF 0 rfl rfl dX5_readStatement_12 ?_
    obtain ⟨x35, h35, h⟩ := gbnd h
    refine g_callV hF my_X5_readNewName kw_835 kw_837 kw_35 gC_5.1 (by decide) q0 (c_X5_readNewName (d := d - 1) (by omega) q0 h35) (by omega) (Nat.zero_le _) (Nat.zero_le _) rfl rfl (Nat.le_of_ble_eq_true rfl) dX5_readStatement_13 (g_sameS ?_)
    obtain ⟨_, h36, h⟩ := gbnd h
    cases h
    exact g_ret_i hF rfl (gbool (chk_sp h36)) dX5_readStatement_16 hR (Nat.zero_le _) (Nat.zero_le _)
theorem c_X5_readStatement {d : Nat} {T : gT} {M : gM} {m_a0 : Nat} {a0 : Nat} {r : Int32 × gM} (hd : 54 ≤ d) (q0 : T[a0]? = some (5, m_a0)) (h : f_X5_readStatement T M a0 = some (r)) : gRet d yX5_readStatement cX5_readStatement 1 (some .boolean) 0 0 [.ref a0] T M (gSame T (some (.int r.1)) r.2) := by
  refine gRet_of (own := RX5) (by decide) rfl (Nat.le_of_ble_eq_true rfl) (fun Z ad0 hn h0 hF => ?_)
  exact t_X5_readStatement hF hn hd q0 h ⟨rfl, rfl, rfl, rfl⟩
theorem t_J7_copyOf_59c91 {Z : gZ} {d mc ms : Nat} {Acc : Option Value → (Nat → Nat) → gT → gM → Prop} {AccX : Nat → (Nat → Nat) → gT → gM → Prop} {ad : Nat → Nat} {T : gT} {M : gM} {m_a0 : Nat} {a0 : Nat} {i1 : Int32} {o : Nat × gT × gM} (hF : gFix Z cJ7_copyOf_59c91 RJ7 "copyOf" (some (.array .int)) d mc ms Acc AccX) (hn : Z.2.2.2.2.2.1 = 3) (hd : 1 ≤ d) (hmc : 1 ≤ mc) (hms : 800 ≤ ms) (q0 : T[a0]? = some (11, m_a0)) (h : f_J7_copyOf_59c91 T M a0 i1 = some o) (hR : ∀ ad1 : Nat → Nat, gExt T o.2.1 → (∀ a : Nat, a < T.length → ad1 a = ad a) → Acc (some (.ref o.1)) ad1 o.2.1 o.2.2) : gG Z ad T M 0 0 0 [(0, .ref a0), (1, .int i1)] [] := by
  unfold f_J7_copyOf_59c91 at h
  refine g_iload_n hF 1 rfl rfl dJ7_copyOf_59c91_0 ?_
  refine g_aload_n hF 0 rfl rfl dJ7_copyOf_59c91_1 ?_
  refine g_alenA hF q0 (by decide) dJ7_copyOf_59c91_2 ?_
  refine g_icmp_ne (tgt := 14) hF dJ7_copyOf_59c91_3 (by decide) (fun c1 => ?_) (fun c1 => ?_)
  · replace h := gif_t c1 h
    refine g_iload_n hF 1 rfl rfl dJ7_copyOf_59c91_14 ?_
    obtain ⟨x2, h2, h⟩ := gbnd h
    obtain ⟨n20, n21, n2h⟩ := gnewa_sp h2
    refine g_newa_int hF n20 rfl (Nat.le_trans n21 (by decide)) kw_167 n2h (gnew_lt n2h) (gFr_r (gT_ne q0) (gFr_i gFr_0)) gFr_0 (by omega) (by omega) dJ7_copyOf_59c91_15 (fun ad2 z2 => ?_)
    refine gG_wid (k := 1) (n := 800) hF (by omega) (by omega) ?_
    have X2 := gExt.tr gExt.rf (gnew_ext n2h)
    have W2 := gad_new n2h z2 gExt.rf (fun _ _ => rfl)
    have q_3 := gnew_ext n2h _ _ q0
    have q_y2 := gnew_at n2h
    refine g_astore_n (ls' := [(2, .ref x2.1), (0, .ref a0), (1, .int i1)]) hF rfl (by rw [hn]; decide) rfl dJ7_copyOf_59c91_17 ?_
    refine g_aload_n hF 1 rfl rfl dJ7_copyOf_59c91_18 ?_
    refine g_iconst (v := (0 : Int32)) hF rfl dJ7_copyOf_59c91_19 ?_
    refine g_aload_n hF 0 rfl rfl dJ7_copyOf_59c91_20 ?_
    refine g_iconst (v := (0 : Int32)) hF rfl dJ7_copyOf_59c91_21 ?_
    refine g_aload_n hF 1 rfl rfl dJ7_copyOf_59c91_22 ?_
    refine g_alenA hF q_3 (by decide) dJ7_copyOf_59c91_23 ?_
    refine g_iload_n hF 2 rfl rfl dJ7_copyOf_59c91_24 ?_
    refine g_min hF kw_929 (by omega) (by omega) (by omega) (Nat.le_of_ble_eq_true rfl) dJ7_copyOf_59c91_25 ?_
    obtain ⟨M5, h5, h⟩ := gbnd h
    obtain ⟨k5a, k5b, k5c, k5d, k5e, e5v⟩ := acp_sp q_3 q_y2 h5
    refine g_copy_i hF kw_930 q_3 q_y2 k5a k5b k5c k5d k5e (by omega) (Nat.le_of_ble_eq_true rfl) dJ7_copyOf_59c91_28 ?_
    rw [← e5v]
    refine g_aload_n hF 0 rfl rfl dJ7_copyOf_59c91_31 ?_
    cases h
    exact g_ret_a hF rfl (Or.inr ⟨_, rfl⟩) dJ7_copyOf_59c91_32 (hR ad2 X2 W2) (by omega) (by omega)
  · replace h := gif_n c1 h
    refine g_aload_n hF 0 rfl rfl dJ7_copyOf_59c91_6 ?_
    cases h
theorem c_J7_copyOf_59c91 {d : Nat} {T : gT} {M : gM} {m_a0 : Nat} {a0 : Nat} {i1 : Int32} {r : Nat × gT × gM} (hd : 1 ≤ d) (q0 : T[a0]? = some (11, m_a0)) (h : f_J7_copyOf_59c91 T M a0 i1 = some (r)) : gRet d yJ7_copyOf_59c91 cJ7_copyOf_59c91 3 (some (.array .int)) 1 800 [.ref a0, .int i1] T M (gMade T (some (.ref r.1)) r.2.1 r.2.2) := by
  refine gRet_of (own := RJ7) (by decide) rfl (Nat.le_of_ble_eq_true rfl) (fun Z ad0 hn h0 hF => ?_)
  exact t_J7_copyOf_59c91 hF hn hd (Nat.le_refl _) (Nat.le_refl _) q0 h (fun ad1 x1 y1 => ⟨rfl, rfl, rfl, x1, y1⟩)
