theorem t_X8_library {Z : gZ} {d mc ms : Nat} {Acc : Option Value → (Nat → Nat) → gT → gM → Prop} {AccX : Nat → (Nat → Nat) → gT → gM → Prop} {ad : Nat → Nat} {T : gT} {M : gM} {m_a0 : Nat} {a0 : Nat} {i1 : Int32} {i2 : Int32} {o : Nat ⊕ Int32} (hF : gFix Z cX8_library RX8 "library" (some .int) d mc ms Acc AccX) (hn : Z.2.2.2.2.2.1 = 4) (hd : 7 ≤ d) (q0 : T[a0]? = some (8, m_a0)) (h : f_X8_library T M a0 i1 i2 = some o) (hR : ∀ v9, o = .inr v9 → Acc (some (.int v9)) ad T M) (hX : ∀ k9, o = .inl k9 → AccX k9 ad T M ∧ 1 ≤ mc ∧ 6 ≤ ms) : gG Z ad T M 0 0 0 [(0, .ref a0), (1, .int i1), (2, .int i2)] [] := by
  unfold f_X8_library at h
  refine g_aload_n hF 0 rfl rfl dX8_library_0 ?_
  refine g_iload_n hF 1 rfl rfl dX8_library_1 ?_
  obtain ⟨x1, h1, h⟩ := gbnd h
  rcases x1 with k1 | r1
  · replace h := gcase_l h
    cases h
    exact g_callVX hF my_X8_requireLibrary kw_988 kw_990 kw_56 gC_8.1 (by decide) q0 (cx_X8_requireLibrary (d := d - 1) (by omega) q0 h1) (by omega) (by have q9 := (hX _ rfl).2; omega) (by have q9 := (hX _ rfl).2; omega) rfl rfl (Nat.le_of_ble_eq_true rfl) (hX _ rfl).1 dX8_library_2
  · replace h := gcase_r h
    refine g_callV hF my_X8_requireLibrary kw_988 kw_990 kw_56 gC_8.1 (by decide) q0 (c_X8_requireLibrary (d := d - 1) (by omega) q0 h1) (by omega) (Nat.zero_le _) (Nat.zero_le _) rfl rfl (Nat.le_of_ble_eq_true rfl) dX8_library_2 (g_sameN ?_)
    refine g_aload_n hF 0 rfl rfl dX8_library_5 ?_
    obtain ⟨b2, h2, h⟩ := gbnd h
    obtain ⟨g2, l2, q_b2⟩ := ldr_sp h2
    refine g_get_r hF g2 fl_RX8_30 q0 dX8_library_6 ?_
    obtain ⟨b3, h3, h⟩ := gbnd h
    obtain ⟨g3, l3, q_b3⟩ := ldr_sp h3
    refine g_get_rN hF g3 fn_RX8_103 q_b2 dX8_library_9 ?_
    refine g_iload_n hF 1 rfl rfl dX8_library_12 ?_
    obtain ⟨b4, h4, h⟩ := gbnd h
    obtain ⟨i4h, g4, l4, q_b4⟩ := aldr_sp q_b3 h4
    refine g_aald hF q_b3 (Or.inr (Or.inl ⟨rfl, rfl⟩)) i4h g4 dX8_library_13 ?_
    refine g_astore_n (ls' := [(3, .ref b4), (0, .ref a0), (1, .int i1), (2, .int i2)]) hF rfl (by rw [hn]; decide) rfl dX8_library_14 ?_
    refine g_iload_n hF 3 rfl rfl dX8_library_15 ?_
    by_cases c5_0 : i2 = (0 : Int32)
    · replace h := gif_t c5_0 h
      refine g_tabIn (tgt := 56) (off := 40) hF dX8_library_16 (by rw [c5_0]; decide) (by rw [c5_0]; decide) (by rw [c5_0]; decide +kernel) (by decide) ?_
      refine g_aload_n hF 0 rfl rfl dX8_library_56 ?_
      refine g_get_iN hF fn_RX8_107 q_b4 dX8_library_57 ?_
      cases h
      exact g_ret_i hF rfl rfl dX8_library_60 (hR _ rfl) (Nat.zero_le _) (Nat.zero_le _)
    · replace h := gif_f c5_0 h
      by_cases c5_1 : i2 = (1 : Int32)
      · replace h := gif_t c5_1 h
        refine g_tabIn (tgt := 61) (off := 45) hF dX8_library_16 (by rw [c5_1]; decide) (by rw [c5_1]; decide) (by rw [c5_1]; decide +kernel) (by decide) ?_
        refine g_aload_n hF 0 rfl rfl dX8_library_61 ?_
        refine g_get_iN hF fn_RX8_112 q_b4 dX8_library_62 ?_
        refine g_if_eq (tgt := 72) hF dX8_library_65 (by decide) (fun c6 => ?_) (fun c6 => ?_)
        · replace h := gif_t c6 h
          refine g_iconst (v := (0 : Int32)) hF rfl dX8_library_72 ?_
          cases h
          exact g_ret_i hF rfl rfl dX8_library_73 (hR _ rfl) (Nat.zero_le _) (Nat.zero_le _)
        · replace h := gif_f c6 h
          refine g_iconst (v := (1 : Int32)) hF rfl dX8_library_68 ?_
          refine g_goto (tgt := 73) hF dX8_library_69 (by decide) ?_
          cases h
          exact g_ret_i hF rfl rfl dX8_library_73 (hR _ rfl) (Nat.zero_le _) (Nat.zero_le _)
      · replace h := gif_f c5_1 h
        by_cases c5_2 : i2 = (2 : Int32)
        · replace h := gif_t c5_2 h
          refine g_tabIn (tgt := 74) (off := 58) hF dX8_library_16 (by rw [c5_2]; decide) (by rw [c5_2]; decide) (by rw [c5_2]; decide +kernel) (by decide) ?_
          refine g_aload_n hF 0 rfl rfl dX8_library_74 ?_
          refine g_get_iN hF fn_RX8_116 q_b4 dX8_library_75 ?_
          cases h
          exact g_ret_i hF rfl rfl dX8_library_78 (hR _ rfl) (Nat.zero_le _) (Nat.zero_le _)
        · replace h := gif_f c5_2 h
          by_cases c5_3 : i2 = (3 : Int32)
          · replace h := gif_t c5_3 h
            refine g_tabIn (tgt := 79) (off := 63) hF dX8_library_16 (by rw [c5_3]; decide) (by rw [c5_3]; decide) (by rw [c5_3]; decide +kernel) (by decide) ?_
            refine g_aload_n hF 0 rfl rfl dX8_library_79 ?_
            obtain ⟨x7, h7, h⟩ := gbnd h
            refine g_callVN hF my_X3_countOffers kn_1440 kw_415 kw_6 gC_3.1 (by decide) q_b4 (c_X3_countOffers (d := d - 1) (by omega) q_b4 h7) (by omega) (Nat.zero_le _) (Nat.zero_le _) rfl rfl (Nat.le_of_ble_eq_true rfl) dX8_library_80 (g_sameS ?_)
            cases h
            exact g_ret_i hF rfl rfl dX8_library_83 (hR _ rfl) (Nat.zero_le _) (Nat.zero_le _)
          · replace h := gif_f c5_3 h
            by_cases c5_4 : i2 = (4 : Int32)
            · replace h := gif_t c5_4 h
              refine g_tabIn (tgt := 84) (off := 68) hF dX8_library_16 (by rw [c5_4]; decide) (by rw [c5_4]; decide) (by rw [c5_4]; decide +kernel) (by decide) ?_
              refine g_aload_n hF 0 rfl rfl dX8_library_84 ?_
              refine g_get_iN hF fn_RX8_123 q_b4 dX8_library_85 ?_
              cases h
              exact g_ret_i hF rfl rfl dX8_library_88 (hR _ rfl) (Nat.zero_le _) (Nat.zero_le _)
            · replace h := gif_f c5_4 h
              by_cases c5_5 : i2 = (5 : Int32)
              · replace h := gif_t c5_5 h
                refine g_tabIn (tgt := 89) (off := 73) hF dX8_library_16 (by rw [c5_5]; decide) (by rw [c5_5]; decide) (by rw [c5_5]; decide +kernel) (by decide) ?_
                refine g_aload_n hF 1 rfl rfl dX8_library_89 ?_
                obtain ⟨b8, h8, h⟩ := gbnd h
                obtain ⟨g8, l8, q_b8⟩ := ldr_sp h8
                refine g_get_r hF g8 fl_RX8_37 q0 dX8_library_90 ?_
                obtain ⟨b9, h9, h⟩ := gbnd h
                obtain ⟨g9, l9, q_b9⟩ := ldr_sp h9
                refine g_get_rN hF g9 fn_RX8_126 q_b8 dX8_library_93 ?_
                refine g_iload_n hF 2 rfl rfl dX8_library_96 ?_
                obtain ⟨v10, h10, h⟩ := gbnd h
                obtain ⟨i10h, e10v⟩ := ald_sp q_b9 h10
                refine g_iald hF q_b9 i10h dX8_library_97 ?_
                rw [← e10v]
                cases h
                exact g_ret_i hF rfl rfl dX8_library_98 (hR _ rfl) (Nat.zero_le _) (Nat.zero_le _)
              · replace h := gif_f c5_5 h
                have w5_0 := gsw_ne c5_0 (z := 0) (by decide)
                have w5_1 := gsw_ne c5_1 (z := 1) (by decide)
                have w5_2 := gsw_ne c5_2 (z := 2) (by decide)
                have w5_3 := gsw_ne c5_3 (z := 3) (by decide)
                have w5_4 := gsw_ne c5_4 (z := 4) (by decide)
                have w5_5 := gsw_ne c5_5 (z := 5) (by decide)
                refine g_tabOut (tgt := 99) hF dX8_library_16 (by omega) (by decide) ?_
                cases h
                exact g_throw (text := "what is not 0 to 5") (sa := gSB + 101) hF thr_RX8_63 (by decide +kernel) (Nat.le_of_ble_eq_true rfl) (by omega) (hX _ rfl).2.1 (hX _ rfl).2.2 (hX _ rfl).1 dX8_library_99 dX8_library_102 dX8_library_103 dX8_library_105 dX8_library_108
theorem c_X8_library {d : Nat} {T : gT} {M : gM} {m_a0 : Nat} {a0 : Nat} {i1 : Int32} {i2 : Int32} {r : Int32} (hd : 7 ≤ d) (q0 : T[a0]? = some (8, m_a0)) (h : f_X8_library T M a0 i1 i2 = some (.inr r)) : gRet d yX8_library cX8_library 4 (some .int) 0 0 [.ref a0, .int i1, .int i2] T M (gSame T (some (.int r)) M) := by
  refine gRet_of (own := RX8) (by decide) rfl (Nat.le_of_ble_eq_true rfl) (fun Z ad0 hn h0 hF => ?_)
  exact t_X8_library hF hn hd q0 h (fun v9 q9 => by cases q9; exact ⟨rfl, rfl, rfl, rfl⟩) (fun k9 q9 => nomatch q9)
theorem cx_X8_library {d : Nat} {T : gT} {M : gM} {m_a0 : Nat} {a0 : Nat} {i1 : Int32} {i2 : Int32} {k : Nat} (hd : 7 ≤ d) (q0 : T[a0]? = some (8, m_a0)) (h : f_X8_library T M a0 i1 i2 = some (.inl k)) : gRetX d yX8_library cX8_library 4 (some .int) 1 6 [.ref a0, .int i1, .int i2] T M k := by
  refine gRetX_of (own := RX8) (by decide) rfl (Nat.le_of_ble_eq_true rfl) (fun Z ad0 hn h0 hF => ?_)
  exact t_X8_library hF hn hd q0 h (fun v9 q9 => nomatch q9) (fun k9 q9 => by cases q9; exact ⟨⟨rfl, rfl, rfl, rfl⟩, Nat.le_of_ble_eq_true rfl, Nat.le_of_ble_eq_true rfl⟩)
theorem t_X8_requireName_15 {Z : gZ} {d mc ms : Nat} {Acc : Option Value → (Nat → Nat) → gT → gM → Prop} {AccX : Nat → (Nat → Nat) → gT → gM → Prop} {ad : Nat → Nat} {T : gT} {M : gM} {o : Nat ⊕ Unit} (hF : gFix Z cX8_requireName RX8 "requireName" none d mc ms Acc AccX) (hn : Z.2.2.2.2.2.1 = 2) (hd : 6 ≤ d)  (h : f_X8_requireName_15 T M  = some o) (hR : ∀ v9, o = .inr v9 → Acc none ad T M) (hX : ∀ k9, o = .inl k9 → AccX k9 ad T M ∧ 1 ≤ mc ∧ 6 ≤ ms) : gG Z ad T M 0 0 15 [] [] := by
  unfold f_X8_requireName_15 at h
  cases h
  exact g_throw (text := "there is no such name") (sa := gSB + 102) hF thr_RX8_232 (by decide +kernel) (Nat.le_of_ble_eq_true rfl) (by omega) (hX _ rfl).2.1 (hX _ rfl).2.2 (hX _ rfl).1 dX8_requireName_15 dX8_requireName_18 dX8_requireName_19 dX8_requireName_21 dX8_requireName_24
theorem t_X8_requireName {Z : gZ} {d mc ms : Nat} {Acc : Option Value → (Nat → Nat) → gT → gM → Prop} {AccX : Nat → (Nat → Nat) → gT → gM → Prop} {ad : Nat → Nat} {T : gT} {M : gM} {m_a0 : Nat} {a0 : Nat} {i1 : Int32} {o : Nat ⊕ Unit} (hF : gFix Z cX8_requireName RX8 "requireName" none d mc ms Acc AccX) (hn : Z.2.2.2.2.2.1 = 2) (hd : 6 ≤ d) (q0 : T[a0]? = some (8, m_a0)) (h : f_X8_requireName T M a0 i1 = some o) (hR : ∀ v9, o = .inr v9 → Acc none ad T M) (hX : ∀ k9, o = .inl k9 → AccX k9 ad T M ∧ 1 ≤ mc ∧ 6 ≤ ms) : gG Z ad T M 0 0 0 [(0, .ref a0), (1, .int i1)] [] := by
  unfold f_X8_requireName at h
  refine g_iload_n hF 1 rfl rfl dX8_requireName_0 ?_
  refine g_if_lt (tgt := 15) hF dX8_requireName_1 (by decide) (fun c1 => ?_) (fun c1 => ?_)
  · replace h := gif_t c1 h
    exact gG_sub [] rfl (t_X8_requireName_15 hF hn hd  h hR hX)
  · replace h := gif_f c1 h
    refine g_iload_n hF 1 rfl rfl dX8_requireName_4 ?_
    refine g_aload_n hF 0 rfl rfl dX8_requireName_5 ?_
    obtain ⟨b2, h2, h⟩ := gbnd h
    obtain ⟨g2, l2, q_b2⟩ := ldr_sp h2
    refine g_get_r hF g2 fl_RX8_30 q0 dX8_requireName_6 ?_
    refine g_get_iN hF fn_RX8_94 q_b2 dX8_requireName_9 ?_
    refine g_icmp_lt (tgt := 25) hF dX8_requireName_12 (by decide) (fun c3 => ?_) (fun c3 => ?_)
    · replace h := gif_t c3 h
      cases h
      exact g_ret_v hF rfl dX8_requireName_25 (hR _ rfl) (Nat.zero_le _) (Nat.zero_le _)
    · replace h := gif_f c3 h
      exact gG_sub [] rfl (t_X8_requireName_15 hF hn hd  h hR hX)
theorem c_X8_requireName {d : Nat} {T : gT} {M : gM} {m_a0 : Nat} {a0 : Nat} {i1 : Int32} {r : Unit} (hd : 6 ≤ d) (q0 : T[a0]? = some (8, m_a0)) (h : f_X8_requireName T M a0 i1 = some (.inr r)) : gRet d yX8_requireName cX8_requireName 2 none 0 0 [.ref a0, .int i1] T M (gSame T none M) := by
  refine gRet_of (own := RX8) (by decide) rfl (Nat.le_of_ble_eq_true rfl) (fun Z ad0 hn h0 hF => ?_)
  exact t_X8_requireName hF hn hd q0 h (fun v9 q9 => by cases q9; exact ⟨rfl, rfl, rfl, rfl⟩) (fun k9 q9 => nomatch q9)
theorem cx_X8_requireName {d : Nat} {T : gT} {M : gM} {m_a0 : Nat} {a0 : Nat} {i1 : Int32} {k : Nat} (hd : 6 ≤ d) (q0 : T[a0]? = some (8, m_a0)) (h : f_X8_requireName T M a0 i1 = some (.inl k)) : gRetX d yX8_requireName cX8_requireName 2 none 1 6 [.ref a0, .int i1] T M k := by
  refine gRetX_of (own := RX8) (by decide) rfl (Nat.le_of_ble_eq_true rfl) (fun Z ad0 hn h0 hF => ?_)
  exact t_X8_requireName hF hn hd q0 h (fun v9 q9 => nomatch q9) (fun k9 q9 => by cases q9; exact ⟨⟨rfl, rfl, rfl, rfl⟩, Nat.le_of_ble_eq_true rfl, Nat.le_of_ble_eq_true rfl⟩)
theorem t_X8_offer {Z : gZ} {d mc ms : Nat} {Acc : Option Value → (Nat → Nat) → gT → gM → Prop} {AccX : Nat → (Nat → Nat) → gT → gM → Prop} {ad : Nat → Nat} {T : gT} {M : gM} {m_a0 : Nat} {a0 : Nat} {i1 : Int32} {i2 : Int32} {o : Nat ⊕ Int32} (hF : gFix Z cX8_offer RX8 "offer" (some .int) d mc ms Acc AccX) (hn : Z.2.2.2.2.2.1 = 3) (hd : 7 ≤ d) (q0 : T[a0]? = some (8, m_a0)) (h : f_X8_offer T M a0 i1 i2 = some o) (hR : ∀ v9, o = .inr v9 → Acc (some (.int v9)) ad T M) (hX : ∀ k9, o = .inl k9 → AccX k9 ad T M ∧ 1 ≤ mc ∧ 6 ≤ ms) : gG Z ad T M 0 0 0 [(0, .ref a0), (1, .int i1), (2, .int i2)] [] := by
  unfold f_X8_offer at h
  refine g_aload_n hF 0 rfl rfl dX8_offer_0 ?_
  refine g_iload_n hF 1 rfl rfl dX8_offer_1 ?_
  obtain ⟨x1, h1, h⟩ := gbnd h
  rcases x1 with k1 | r1
  · replace h := gcase_l h
    cases h
    exact g_callVX hF my_X8_requireLibrary kw_988 kw_990 kw_56 gC_8.1 (by decide) q0 (cx_X8_requireLibrary (d := d - 1) (by omega) q0 h1) (by omega) (by have q9 := (hX _ rfl).2; omega) (by have q9 := (hX _ rfl).2; omega) rfl rfl (Nat.le_of_ble_eq_true rfl) (hX _ rfl).1 dX8_offer_2
  · replace h := gcase_r h
    refine g_callV hF my_X8_requireLibrary kw_988 kw_990 kw_56 gC_8.1 (by decide) q0 (c_X8_requireLibrary (d := d - 1) (by omega) q0 h1) (by omega) (Nat.zero_le _) (Nat.zero_le _) rfl rfl (Nat.le_of_ble_eq_true rfl) dX8_offer_2 (g_sameN ?_)
    refine g_aload_n hF 0 rfl rfl dX8_offer_5 ?_
    refine g_iload_n hF 2 rfl rfl dX8_offer_6 ?_
    obtain ⟨x2, h2, h⟩ := gbnd h
    rcases x2 with k2 | r2
    · replace h := gcase_l h
      cases h
      exact g_callVX hF my_X8_requireName kw_951 kw_953 kw_55 gC_8.1 (by decide) q0 (cx_X8_requireName (d := d - 1) (by omega) q0 h2) (by omega) (by have q9 := (hX _ rfl).2; omega) (by have q9 := (hX _ rfl).2; omega) rfl rfl (Nat.le_of_ble_eq_true rfl) (hX _ rfl).1 dX8_offer_7
    · replace h := gcase_r h
      refine g_callV hF my_X8_requireName kw_951 kw_953 kw_55 gC_8.1 (by decide) q0 (c_X8_requireName (d := d - 1) (by omega) q0 h2) (by omega) (Nat.zero_le _) (Nat.zero_le _) rfl rfl (Nat.le_of_ble_eq_true rfl) dX8_offer_7 (g_sameN ?_)
      refine g_aload_n hF 0 rfl rfl dX8_offer_10 ?_
      obtain ⟨b3, h3, h⟩ := gbnd h
      obtain ⟨g3, l3, q_b3⟩ := ldr_sp h3
      refine g_get_r hF g3 fl_RX8_30 q0 dX8_offer_11 ?_
      obtain ⟨b4, h4, h⟩ := gbnd h
      obtain ⟨g4, l4, q_b4⟩ := ldr_sp h4
      refine g_get_rN hF g4 fn_RX8_103 q_b3 dX8_offer_14 ?_
      refine g_iload_n hF 1 rfl rfl dX8_offer_17 ?_
      obtain ⟨b5, h5, h⟩ := gbnd h
      obtain ⟨i5h, g5, l5, q_b5⟩ := aldr_sp q_b4 h5
      refine g_aald hF q_b4 (Or.inr (Or.inl ⟨rfl, rfl⟩)) i5h g5 dX8_offer_18 ?_
      obtain ⟨b6, h6, h⟩ := gbnd h
      obtain ⟨g6, l6, q_b6⟩ := ldr_sp h6
      refine g_get_rN hF g6 fn_RX8_134 q_b5 dX8_offer_19 ?_
      refine g_iload_n hF 2 rfl rfl dX8_offer_22 ?_
      obtain ⟨v7, h7, h⟩ := gbnd h
      obtain ⟨i7h, e7v⟩ := ald_sp q_b6 h7
      refine g_iald hF q_b6 i7h dX8_offer_23 ?_
      rw [← e7v]
      cases h
      exact g_ret_i hF rfl rfl dX8_offer_24 (hR _ rfl) (Nat.zero_le _) (Nat.zero_le _)
theorem c_X8_offer {d : Nat} {T : gT} {M : gM} {m_a0 : Nat} {a0 : Nat} {i1 : Int32} {i2 : Int32} {r : Int32} (hd : 7 ≤ d) (q0 : T[a0]? = some (8, m_a0)) (h : f_X8_offer T M a0 i1 i2 = some (.inr r)) : gRet d yX8_offer cX8_offer 3 (some .int) 0 0 [.ref a0, .int i1, .int i2] T M (gSame T (some (.int r)) M) := by
  refine gRet_of (own := RX8) (by decide) rfl (Nat.le_of_ble_eq_true rfl) (fun Z ad0 hn h0 hF => ?_)
  exact t_X8_offer hF hn hd q0 h (fun v9 q9 => by cases q9; exact ⟨rfl, rfl, rfl, rfl⟩) (fun k9 q9 => nomatch q9)
theorem cx_X8_offer {d : Nat} {T : gT} {M : gM} {m_a0 : Nat} {a0 : Nat} {i1 : Int32} {i2 : Int32} {k : Nat} (hd : 7 ≤ d) (q0 : T[a0]? = some (8, m_a0)) (h : f_X8_offer T M a0 i1 i2 = some (.inl k)) : gRetX d yX8_offer cX8_offer 3 (some .int) 1 6 [.ref a0, .int i1, .int i2] T M k := by
  refine gRetX_of (own := RX8) (by decide) rfl (Nat.le_of_ble_eq_true rfl) (fun Z ad0 hn h0 hF => ?_)
  exact t_X8_offer hF hn hd q0 h (fun v9 q9 => nomatch q9) (fun k9 q9 => by cases q9; exact ⟨⟨rfl, rfl, rfl, rfl⟩, Nat.le_of_ble_eq_true rfl, Nat.le_of_ble_eq_true rfl⟩)
theorem t_X8_candidates {Z : gZ} {d mc ms : Nat} {Acc : Option Value → (Nat → Nat) → gT → gM → Prop} {AccX : Nat → (Nat → Nat) → gT → gM → Prop} {ad : Nat → Nat} {T : gT} {M : gM} {m_a0 : Nat} {a0 : Nat} {i1 : Int32} {o : Nat ⊕ Int32} (hF : gFix Z cX8_candidates RX8 "candidates" (some .int) d mc ms Acc AccX) (hn : Z.2.2.2.2.2.1 = 2) (hd : 7 ≤ d) (q0 : T[a0]? = some (8, m_a0)) (h : f_X8_candidates T M a0 i1 = some o) (hR : ∀ v9, o = .inr v9 → Acc (some (.int v9)) ad T M) (hX : ∀ k9, o = .inl k9 → AccX k9 ad T M ∧ 1 ≤ mc ∧ 6 ≤ ms) : gG Z ad T M 0 0 0 [(0, .ref a0), (1, .int i1)] [] := by
  unfold f_X8_candidates at h
  refine g_aload_n hF 0 rfl rfl dX8_candidates_0 ?_
  refine g_iload_n hF 1 rfl rfl dX8_candidates_1 ?_
  obtain ⟨x1, h1, h⟩ := gbnd h
  rcases x1 with k1 | r1
  · replace h := gcase_l h
    cases h
    exact g_callVX hF my_X8_requireName kw_951 kw_953 kw_55 gC_8.1 (by decide) q0 (cx_X8_requireName (d := d - 1) (by omega) q0 h1) (by omega) (by have q9 := (hX _ rfl).2; omega) (by have q9 := (hX _ rfl).2; omega) rfl rfl (Nat.le_of_ble_eq_true rfl) (hX _ rfl).1 dX8_candidates_2
  · replace h := gcase_r h
    refine g_callV hF my_X8_requireName kw_951 kw_953 kw_55 gC_8.1 (by decide) q0 (c_X8_requireName (d := d - 1) (by omega) q0 h1) (by omega) (Nat.zero_le _) (Nat.zero_le _) rfl rfl (Nat.le_of_ble_eq_true rfl) dX8_candidates_2 (g_sameN ?_)
    refine g_aload_n hF 0 rfl rfl dX8_candidates_5 ?_
    obtain ⟨b2, h2, h⟩ := gbnd h
    obtain ⟨g2, l2, q_b2⟩ := ldr_sp h2
    refine g_get_r hF g2 fl_RX8_37 q0 dX8_candidates_6 ?_
    obtain ⟨b3, h3, h⟩ := gbnd h
    obtain ⟨g3, l3, q_b3⟩ := ldr_sp h3
    refine g_get_rN hF g3 fn_RX8_137 q_b2 dX8_candidates_9 ?_
    refine g_iload_n hF 1 rfl rfl dX8_candidates_12 ?_
    obtain ⟨v4, h4, h⟩ := gbnd h
    obtain ⟨i4h, e4v⟩ := ald_sp q_b3 h4
    refine g_iald hF q_b3 i4h dX8_candidates_13 ?_
    rw [← e4v]
    cases h
    exact g_ret_i hF rfl rfl dX8_candidates_14 (hR _ rfl) (Nat.zero_le _) (Nat.zero_le _)
theorem c_X8_candidates {d : Nat} {T : gT} {M : gM} {m_a0 : Nat} {a0 : Nat} {i1 : Int32} {r : Int32} (hd : 7 ≤ d) (q0 : T[a0]? = some (8, m_a0)) (h : f_X8_candidates T M a0 i1 = some (.inr r)) : gRet d yX8_candidates cX8_candidates 2 (some .int) 0 0 [.ref a0, .int i1] T M (gSame T (some (.int r)) M) := by
  refine gRet_of (own := RX8) (by decide) rfl (Nat.le_of_ble_eq_true rfl) (fun Z ad0 hn h0 hF => ?_)
  exact t_X8_candidates hF hn hd q0 h (fun v9 q9 => by cases q9; exact ⟨rfl, rfl, rfl, rfl⟩) (fun k9 q9 => nomatch q9)
theorem cx_X8_candidates {d : Nat} {T : gT} {M : gM} {m_a0 : Nat} {a0 : Nat} {i1 : Int32} {k : Nat} (hd : 7 ≤ d) (q0 : T[a0]? = some (8, m_a0)) (h : f_X8_candidates T M a0 i1 = some (.inl k)) : gRetX d yX8_candidates cX8_candidates 2 (some .int) 1 6 [.ref a0, .int i1] T M k := by
  refine gRetX_of (own := RX8) (by decide) rfl (Nat.le_of_ble_eq_true rfl) (fun Z ad0 hn h0 hF => ?_)
  exact t_X8_candidates hF hn hd q0 h (fun v9 q9 => nomatch q9) (fun k9 q9 => by cases q9; exact ⟨⟨rfl, rfl, rfl, rfl⟩, Nat.le_of_ble_eq_true rfl, Nat.le_of_ble_eq_true rfl⟩)
theorem t_X8_winner {Z : gZ} {d mc ms : Nat} {Acc : Option Value → (Nat → Nat) → gT → gM → Prop} {AccX : Nat → (Nat → Nat) → gT → gM → Prop} {ad : Nat → Nat} {T : gT} {M : gM} {m_a0 : Nat} {a0 : Nat} {i1 : Int32} {o : Nat ⊕ Int32} (hF : gFix Z cX8_winner RX8 "winner" (some .int) d mc ms Acc AccX) (hn : Z.2.2.2.2.2.1 = 2) (hd : 7 ≤ d) (q0 : T[a0]? = some (8, m_a0)) (h : f_X8_winner T M a0 i1 = some o) (hR : ∀ v9, o = .inr v9 → Acc (some (.int v9)) ad T M) (hX : ∀ k9, o = .inl k9 → AccX k9 ad T M ∧ 1 ≤ mc ∧ 6 ≤ ms) : gG Z ad T M 0 0 0 [(0, .ref a0), (1, .int i1)] [] := by
  unfold f_X8_winner at h
  refine g_aload_n hF 0 rfl rfl dX8_winner_0 ?_
  refine g_iload_n hF 1 rfl rfl dX8_winner_1 ?_
  obtain ⟨x1, h1, h⟩ := gbnd h
  rcases x1 with k1 | r1
  · replace h := gcase_l h
    cases h
    exact g_callVX hF my_X8_requireName kw_951 kw_953 kw_55 gC_8.1 (by decide) q0 (cx_X8_requireName (d := d - 1) (by omega) q0 h1) (by omega) (by have q9 := (hX _ rfl).2; omega) (by have q9 := (hX _ rfl).2; omega) rfl rfl (Nat.le_of_ble_eq_true rfl) (hX _ rfl).1 dX8_winner_2
  · replace h := gcase_r h
    refine g_callV hF my_X8_requireName kw_951 kw_953 kw_55 gC_8.1 (by decide) q0 (c_X8_requireName (d := d - 1) (by omega) q0 h1) (by omega) (Nat.zero_le _) (Nat.zero_le _) rfl rfl (Nat.le_of_ble_eq_true rfl) dX8_winner_2 (g_sameN ?_)
    refine g_aload_n hF 0 rfl rfl dX8_winner_5 ?_
    obtain ⟨b2, h2, h⟩ := gbnd h
    obtain ⟨g2, l2, q_b2⟩ := ldr_sp h2
    refine g_get_r hF g2 fl_RX8_37 q0 dX8_winner_6 ?_
    obtain ⟨b3, h3, h⟩ := gbnd h
    obtain ⟨g3, l3, q_b3⟩ := ldr_sp h3
    refine g_get_rN hF g3 fn_RX8_150 q_b2 dX8_winner_9 ?_
    refine g_iload_n hF 1 rfl rfl dX8_winner_12 ?_
    obtain ⟨v4, h4, h⟩ := gbnd h
    obtain ⟨i4h, e4v⟩ := ald_sp q_b3 h4
    refine g_iald hF q_b3 i4h dX8_winner_13 ?_
    rw [← e4v]
    cases h
    exact g_ret_i hF rfl rfl dX8_winner_14 (hR _ rfl) (Nat.zero_le _) (Nat.zero_le _)
theorem c_X8_winner {d : Nat} {T : gT} {M : gM} {m_a0 : Nat} {a0 : Nat} {i1 : Int32} {r : Int32} (hd : 7 ≤ d) (q0 : T[a0]? = some (8, m_a0)) (h : f_X8_winner T M a0 i1 = some (.inr r)) : gRet d yX8_winner cX8_winner 2 (some .int) 0 0 [.ref a0, .int i1] T M (gSame T (some (.int r)) M) := by
  refine gRet_of (own := RX8) (by decide) rfl (Nat.le_of_ble_eq_true rfl) (fun Z ad0 hn h0 hF => ?_)
  exact t_X8_winner hF hn hd q0 h (fun v9 q9 => by cases q9; exact ⟨rfl, rfl, rfl, rfl⟩) (fun k9 q9 => nomatch q9)
theorem cx_X8_winner {d : Nat} {T : gT} {M : gM} {m_a0 : Nat} {a0 : Nat} {i1 : Int32} {k : Nat} (hd : 7 ≤ d) (q0 : T[a0]? = some (8, m_a0)) (h : f_X8_winner T M a0 i1 = some (.inl k)) : gRetX d yX8_winner cX8_winner 2 (some .int) 1 6 [.ref a0, .int i1] T M k := by
  refine gRetX_of (own := RX8) (by decide) rfl (Nat.le_of_ble_eq_true rfl) (fun Z ad0 hn h0 hF => ?_)
  exact t_X8_winner hF hn hd q0 h (fun v9 q9 => nomatch q9) (fun k9 q9 => by cases q9; exact ⟨⟨rfl, rfl, rfl, rfl⟩, Nat.le_of_ble_eq_true rfl, Nat.le_of_ble_eq_true rfl⟩)
theorem t_X8_binding {Z : gZ} {d mc ms : Nat} {Acc : Option Value → (Nat → Nat) → gT → gM → Prop} {AccX : Nat → (Nat → Nat) → gT → gM → Prop} {ad : Nat → Nat} {T : gT} {M : gM} {m_a0 : Nat} {a0 : Nat} {i1 : Int32} {i2 : Int32} {o : Nat ⊕ Int32} (hF : gFix Z cX8_binding RX8 "binding" (some .int) d mc ms Acc AccX) (hn : Z.2.2.2.2.2.1 = 3) (hd : 7 ≤ d) (q0 : T[a0]? = some (8, m_a0)) (h : f_X8_binding T M a0 i1 i2 = some o) (hR : ∀ v9, o = .inr v9 → Acc (some (.int v9)) ad T M) (hX : ∀ k9, o = .inl k9 → AccX k9 ad T M ∧ 1 ≤ mc ∧ 6 ≤ ms) : gG Z ad T M 0 0 0 [(0, .ref a0), (1, .int i1), (2, .int i2)] [] := by
  unfold f_X8_binding at h
  refine g_aload_n hF 0 rfl rfl dX8_binding_0 ?_
  refine g_iload_n hF 1 rfl rfl dX8_binding_1 ?_
  obtain ⟨x1, h1, h⟩ := gbnd h
  rcases x1 with k1 | r1
  · replace h := gcase_l h
    cases h
    exact g_callVX hF my_X8_requireLibrary kw_988 kw_990 kw_56 gC_8.1 (by decide) q0 (cx_X8_requireLibrary (d := d - 1) (by omega) q0 h1) (by omega) (by have q9 := (hX _ rfl).2; omega) (by have q9 := (hX _ rfl).2; omega) rfl rfl (Nat.le_of_ble_eq_true rfl) (hX _ rfl).1 dX8_binding_2
  · replace h := gcase_r h
    refine g_callV hF my_X8_requireLibrary kw_988 kw_990 kw_56 gC_8.1 (by decide) q0 (c_X8_requireLibrary (d := d - 1) (by omega) q0 h1) (by omega) (Nat.zero_le _) (Nat.zero_le _) rfl rfl (Nat.le_of_ble_eq_true rfl) dX8_binding_2 (g_sameN ?_)
    refine g_aload_n hF 0 rfl rfl dX8_binding_5 ?_
    refine g_iload_n hF 2 rfl rfl dX8_binding_6 ?_
    obtain ⟨x2, h2, h⟩ := gbnd h
    rcases x2 with k2 | r2
    · replace h := gcase_l h
      cases h
      exact g_callVX hF my_X8_requireName kw_951 kw_953 kw_55 gC_8.1 (by decide) q0 (cx_X8_requireName (d := d - 1) (by omega) q0 h2) (by omega) (by have q9 := (hX _ rfl).2; omega) (by have q9 := (hX _ rfl).2; omega) rfl rfl (Nat.le_of_ble_eq_true rfl) (hX _ rfl).1 dX8_binding_7
    · replace h := gcase_r h
      refine g_callV hF my_X8_requireName kw_951 kw_953 kw_55 gC_8.1 (by decide) q0 (c_X8_requireName (d := d - 1) (by omega) q0 h2) (by omega) (Nat.zero_le _) (Nat.zero_le _) rfl rfl (Nat.le_of_ble_eq_true rfl) dX8_binding_7 (g_sameN ?_)
      refine g_aload_n hF 0 rfl rfl dX8_binding_10 ?_
      obtain ⟨b3, h3, h⟩ := gbnd h
      obtain ⟨g3, l3, q_b3⟩ := ldr_sp h3
      refine g_get_r hF g3 fl_RX8_37 q0 dX8_binding_11 ?_
      obtain ⟨b4, h4, h⟩ := gbnd h
      obtain ⟨g4, l4, q_b4⟩ := ldr_sp h4
      refine g_get_rN hF g4 fn_RX8_156 q_b3 dX8_binding_14 ?_
      refine g_iload_n hF 1 rfl rfl dX8_binding_17 ?_
      refine g_iload_n hF 2 rfl rfl dX8_binding_18 ?_
      obtain ⟨x5, h5, h⟩ := gbnd h
      refine g_callS hF my_X8_cellOf kw_980 kw_461 (c_X8_cellOf (d := d - 1) (by omega)  h5) (by omega) (Nat.zero_le _) (Nat.zero_le _) rfl rfl (Nat.le_of_ble_eq_true rfl) dX8_binding_19 (g_sameS ?_)
      obtain ⟨v6, h6, h⟩ := gbnd h
      obtain ⟨i6h, e6v⟩ := ald_sp q_b4 h6
      refine g_iald hF q_b4 i6h dX8_binding_22 ?_
      rw [← e6v]
      cases h
      exact g_ret_i hF rfl rfl dX8_binding_23 (hR _ rfl) (Nat.zero_le _) (Nat.zero_le _)
theorem c_X8_binding {d : Nat} {T : gT} {M : gM} {m_a0 : Nat} {a0 : Nat} {i1 : Int32} {i2 : Int32} {r : Int32} (hd : 7 ≤ d) (q0 : T[a0]? = some (8, m_a0)) (h : f_X8_binding T M a0 i1 i2 = some (.inr r)) : gRet d yX8_binding cX8_binding 3 (some .int) 0 0 [.ref a0, .int i1, .int i2] T M (gSame T (some (.int r)) M) := by
  refine gRet_of (own := RX8) (by decide) rfl (Nat.le_of_ble_eq_true rfl) (fun Z ad0 hn h0 hF => ?_)
  exact t_X8_binding hF hn hd q0 h (fun v9 q9 => by cases q9; exact ⟨rfl, rfl, rfl, rfl⟩) (fun k9 q9 => nomatch q9)
theorem cx_X8_binding {d : Nat} {T : gT} {M : gM} {m_a0 : Nat} {a0 : Nat} {i1 : Int32} {i2 : Int32} {k : Nat} (hd : 7 ≤ d) (q0 : T[a0]? = some (8, m_a0)) (h : f_X8_binding T M a0 i1 i2 = some (.inl k)) : gRetX d yX8_binding cX8_binding 3 (some .int) 1 6 [.ref a0, .int i1, .int i2] T M k := by
  refine gRetX_of (own := RX8) (by decide) rfl (Nat.le_of_ble_eq_true rfl) (fun Z ad0 hn h0 hF => ?_)
  exact t_X8_binding hF hn hd q0 h (fun v9 q9 => nomatch q9) (fun k9 q9 => by cases q9; exact ⟨⟨rfl, rfl, rfl, rfl⟩, Nat.le_of_ble_eq_true rfl, Nat.le_of_ble_eq_true rfl⟩)
theorem t_X8_minority_69 {Z : gZ} {d mc ms : Nat} {Acc : Option Value → (Nat → Nat) → gT → gM → Prop} {AccX : Nat → (Nat → Nat) → gT → gM → Prop} {ad : Nat → Nat} {T : gT} {M : gM} {m_a0 : Nat} {a0 : Nat} {i1 : Int32} {i2 : Int32} {i3 : Int32} {i4 : Int32} {o : (Int32) ⊕ (Int32 × Int32)} (hF : gFix Z cX8_minority RX8 "minority" (some .int) d mc ms Acc AccX) (hn : Z.2.2.2.2.2.1 = 5) (hd : 7 ≤ d) (q0 : T[a0]? = some (8, m_a0)) (h : f_X8_minority_69 T M a0 i1 i2 i3 i4 = some o) (hE : ∀ e9, o = .inl e9 → gG Z ad T M 0 0 75 [(3, .int e9)] []) (hN : ∀ n9, o = .inr n9 → gG Z ad T M 0 0 20 [(0, .ref a0), (1, .int i1), (2, .int i2), (3, .int n9.1), (4, .int n9.2)] []) : gG Z ad T M 0 0 69 [(0, .ref a0), (1, .int i1), (2, .int i2), (3, .int i3), (4, .int i4)] [] := by
  unfold f_X8_minority_69 at h
  refine g_iinc (n := 1) (v := (i4 + (1 : Int32))) (ls' := [(4, .int (i4 + (1 : Int32))), (0, .ref a0), (1, .int i1), (2, .int i2), (3, .int i3)]) hF 4 rfl rfl (by rw [hn]; decide) rfl dX8_minority_69 ?_
  refine g_goto (tgt := 20) hF dX8_minority_72 (by decide) ?_
  exact gG_sub [1, 2, 3, 4, 0] rfl (hN _ (Option.some.inj h).symm)
theorem t_X8_minority_B20 {Z : gZ} {d mc ms : Nat} {Acc : Option Value → (Nat → Nat) → gT → gM → Prop} {AccX : Nat → (Nat → Nat) → gT → gM → Prop} {ad : Nat → Nat} {T : gT} {M : gM} {m_a0 : Nat} {a0 : Nat} {i1 : Int32} {i2 : Int32} {i3 : Int32} {i4 : Int32} {o : (Int32) ⊕ (Int32 × Int32)} (hF : gFix Z cX8_minority RX8 "minority" (some .int) d mc ms Acc AccX) (hn : Z.2.2.2.2.2.1 = 5) (hd : 7 ≤ d) (q0 : T[a0]? = some (8, m_a0)) (h : f_X8_minority_B20 T M a0 i1 i2 i3 i4 = some o) (hE : ∀ e9, o = .inl e9 → gG Z ad T M 0 0 75 [(3, .int e9)] []) (hN : ∀ n9, o = .inr n9 → gG Z ad T M 0 0 20 [(0, .ref a0), (1, .int i1), (2, .int i2), (3, .int n9.1), (4, .int n9.2)] []) : gG Z ad T M 0 0 20 [(0, .ref a0), (1, .int i1), (2, .int i2), (3, .int i3), (4, .int i4)] [] := by
  unfold f_X8_minority_B20 at h
  refine g_iload hF 4 rfl dX8_minority_20 ?_
  refine g_aload_n hF 0 rfl rfl dX8_minority_22 ?_
  obtain ⟨b1, h1, h⟩ := gbnd h
  obtain ⟨g1, l1, q_b1⟩ := ldr_sp h1
  refine g_get_r hF g1 fl_RX8_30 q0 dX8_minority_23 ?_
  refine g_get_iN hF fn_RX8_91 q_b1 dX8_minority_26 ?_
  refine g_icmp_ge (tgt := 75) hF dX8_minority_29 (by decide) (fun c2 => ?_) (fun c2 => ?_)
  · replace h := gif_t c2 h
    exact gG_sub [3] rfl (hE _ (Option.some.inj h).symm)
  · replace h := gif_f c2 h
    refine g_aload_n hF 0 rfl rfl dX8_minority_32 ?_
    obtain ⟨b3, h3, h⟩ := gbnd h
    obtain ⟨g3, l3, q_b3⟩ := ldr_sp h3
    refine g_get_r hF g3 fl_RX8_30 q0 dX8_minority_33 ?_
    obtain ⟨b4, h4, h⟩ := gbnd h
    obtain ⟨g4, l4, q_b4⟩ := ldr_sp h4
    refine g_get_rN hF g4 fn_RX8_103 q_b3 dX8_minority_36 ?_
    refine g_iload hF 4 rfl dX8_minority_39 ?_
    obtain ⟨b5, h5, h⟩ := gbnd h
    obtain ⟨i5h, g5, l5, q_b5⟩ := aldr_sp q_b4 h5
    refine g_aald hF q_b4 (Or.inr (Or.inl ⟨rfl, rfl⟩)) i5h g5 dX8_minority_41 ?_
    obtain ⟨x6, h6, h⟩ := gbnd h
    refine g_callVN hF my_X3_isLoaded kn_979 kw_407 kw_4 gC_3.1 (by decide) q_b5 (c_X3_isLoaded (d := d - 1) (by omega) q_b5 h6) (by omega) (Nat.zero_le _) (Nat.zero_le _) rfl rfl (Nat.le_of_ble_eq_true rfl) dX8_minority_42 (g_sameS ?_)
    refine g_if_eq (tgt := 69) hF dX8_minority_45 (by decide) (fun c7 => ?_) (fun c7 => ?_)
    · replace h := gif_t c7 h
      exact gG_sub [0, 1, 2, 3, 4] rfl (t_X8_minority_69 hF hn hd q0 h hE hN)
    · replace h := gif_f c7 h
      refine g_aload_n hF 0 rfl rfl dX8_minority_48 ?_
      obtain ⟨b8, h8, h⟩ := gbnd h
      obtain ⟨g8, l8, q_b8⟩ := ldr_sp h8
      refine g_get_r hF g8 fl_RX8_37 q0 dX8_minority_49 ?_
      obtain ⟨b9, h9, h⟩ := gbnd h
      obtain ⟨g9, l9, q_b9⟩ := ldr_sp h9
      refine g_get_rN hF g9 fn_RX8_156 q_b8 dX8_minority_52 ?_
      refine g_iload hF 4 rfl dX8_minority_55 ?_
      refine g_iload_n hF 1 rfl rfl dX8_minority_57 ?_
      obtain ⟨x10, h10, h⟩ := gbnd h
      refine g_callS hF my_X8_cellOf kw_980 kw_461 (c_X8_cellOf (d := d - 1) (by omega)  h10) (by omega) (Nat.zero_le _) (Nat.zero_le _) rfl rfl (Nat.le_of_ble_eq_true rfl) dX8_minority_58 (g_sameS ?_)
      obtain ⟨v11, h11, h⟩ := gbnd h
      obtain ⟨i11h, e11v⟩ := ald_sp q_b9 h11
      refine g_iald hF q_b9 i11h dX8_minority_61 ?_
      rw [← e11v]
      refine g_iload_n hF 2 rfl rfl dX8_minority_62 ?_
      refine g_icmp_eq (tgt := 69) hF dX8_minority_63 (by decide) (fun c12 => ?_) (fun c12 => ?_)
      · replace h := gif_t c12 h
        exact gG_sub [0, 1, 2, 3, 4] rfl (t_X8_minority_69 hF hn hd q0 h hE hN)
      · replace h := gif_f c12 h
        refine g_iinc (n := 1) (v := (i3 + (1 : Int32))) (ls' := [(3, .int (i3 + (1 : Int32))), (0, .ref a0), (1, .int i1), (2, .int i2), (4, .int i4)]) hF 3 rfl rfl (by rw [hn]; decide) rfl dX8_minority_66 ?_
        exact gG_sub [1, 2, 3, 0, 4] rfl (t_X8_minority_69 hF hn hd q0 h hE hN)
theorem t_X8_minority_L20 {Z : gZ} {d mc ms : Nat} {Acc : Option Value → (Nat → Nat) → gT → gM → Prop} {AccX : Nat → (Nat → Nat) → gT → gM → Prop} {ad : Nat → Nat} {T : gT} {M : gM} {m_a0 : Nat} {a0 : Nat} {i1 : Int32} {i2 : Int32} {i3 : Int32} {i4 : Int32} {o : Int32} (hF : gFix Z cX8_minority RX8 "minority" (some .int) d mc ms Acc AccX) (hn : Z.2.2.2.2.2.1 = 5) (hd : 7 ≤ d) (q0 : T[a0]? = some (8, m_a0)) (h : gloop (fun x => f_X8_minority_B20 T M a0 i1 i2 x.1 x.2) gFU (i3, i4) = some o) (hE : gG Z ad T M 0 0 75 [(3, .int o)] []) : gG Z ad T M 0 0 20 [(0, .ref a0), (1, .int i1), (2, .int i2), (3, .int i3), (4, .int i4)] [] := by
  refine gloop_ind (P := fun x0 : Int32 × Int32 => gG Z ad T M 0 0 20 [(0, .ref a0), (1, .int i1), (2, .int i2), (3, .int x0.1), (4, .int x0.2)] []) (e := o) (fun x0 y hy hl hr => ?_) gFU (i3, i4) h
  exact t_X8_minority_B20 hF hn hd q0 hy (fun e9 q9 => by rw [hl _ q9]; exact hE) (fun n9 q9 => hr n9 q9)
theorem t_X8_minority {Z : gZ} {d mc ms : Nat} {Acc : Option Value → (Nat → Nat) → gT → gM → Prop} {AccX : Nat → (Nat → Nat) → gT → gM → Prop} {ad : Nat → Nat} {T : gT} {M : gM} {m_a0 : Nat} {a0 : Nat} {i1 : Int32} {o : Nat ⊕ Int32} (hF : gFix Z cX8_minority RX8 "minority" (some .int) d mc ms Acc AccX) (hn : Z.2.2.2.2.2.1 = 5) (hd : 7 ≤ d) (q0 : T[a0]? = some (8, m_a0)) (h : f_X8_minority T M a0 i1 = some o) (hR : ∀ v9, o = .inr v9 → Acc (some (.int v9)) ad T M) (hX : ∀ k9, o = .inl k9 → AccX k9 ad T M ∧ 1 ≤ mc ∧ 6 ≤ ms) : gG Z ad T M 0 0 0 [(0, .ref a0), (1, .int i1)] [] := by
  unfold f_X8_minority at h
  refine g_aload_n hF 0 rfl rfl dX8_minority_0 ?_
  refine g_iload_n hF 1 rfl rfl dX8_minority_1 ?_
  obtain ⟨x13, h13, h⟩ := gbnd h
  rcases x13 with k13 | r13
  · replace h := gcase_l h
    cases h
    exact g_callVX hF my_X8_requireName kw_951 kw_953 kw_55 gC_8.1 (by decide) q0 (cx_X8_requireName (d := d - 1) (by omega) q0 h13) (by omega) (by have q9 := (hX _ rfl).2; omega) (by have q9 := (hX _ rfl).2; omega) rfl rfl (Nat.le_of_ble_eq_true rfl) (hX _ rfl).1 dX8_minority_2
  · replace h := gcase_r h
    refine g_callV hF my_X8_requireName kw_951 kw_953 kw_55 gC_8.1 (by decide) q0 (c_X8_requireName (d := d - 1) (by omega) q0 h13) (by omega) (Nat.zero_le _) (Nat.zero_le _) rfl rfl (Nat.le_of_ble_eq_true rfl) dX8_minority_2 (g_sameN ?_)
    refine g_aload_n hF 0 rfl rfl dX8_minority_5 ?_
    obtain ⟨b14, h14, h⟩ := gbnd h
    obtain ⟨g14, l14, q_b14⟩ := ldr_sp h14
    refine g_get_r hF g14 fl_RX8_37 q0 dX8_minority_6 ?_
    obtain ⟨b15, h15, h⟩ := gbnd h
    obtain ⟨g15, l15, q_b15⟩ := ldr_sp h15
    refine g_get_rN hF g15 fn_RX8_150 q_b14 dX8_minority_9 ?_
    refine g_iload_n hF 1 rfl rfl dX8_minority_12 ?_
    obtain ⟨v16, h16, h⟩ := gbnd h
    obtain ⟨i16h, e16v⟩ := ald_sp q_b15 h16
    refine g_iald hF q_b15 i16h dX8_minority_13 ?_
    rw [← e16v]
    refine g_istore_n (ls' := [(2, .int v16), (0, .ref a0), (1, .int i1)]) hF rfl (by rw [hn]; decide) rfl dX8_minority_14 ?_
    refine g_iconst (v := (0 : Int32)) hF rfl dX8_minority_15 ?_
    refine g_istore_n (ls' := [(3, .int (0 : Int32)), (2, .int v16), (0, .ref a0), (1, .int i1)]) hF rfl (by rw [hn]; decide) rfl dX8_minority_16 ?_
    refine g_iconst (v := (0 : Int32)) hF rfl dX8_minority_17 ?_
    refine g_istore (ls' := [(4, .int (0 : Int32)), (3, .int (0 : Int32)), (2, .int v16), (0, .ref a0), (1, .int i1)]) hF (by rw [hn]; decide) rfl dX8_minority_18 ?_
    obtain ⟨x17, h17, h⟩ := gbnd h
    refine gG_sub [3, 4, 2, 1, 0] rfl (t_X8_minority_L20 hF hn hd q0 h17 ?_)
    refine g_iload_n hF 0 rfl rfl dX8_minority_75 ?_
    cases h
    exact g_ret_i hF rfl rfl dX8_minority_76 (hR _ rfl) (Nat.zero_le _) (Nat.zero_le _)
theorem c_X8_minority {d : Nat} {T : gT} {M : gM} {m_a0 : Nat} {a0 : Nat} {i1 : Int32} {r : Int32} (hd : 7 ≤ d) (q0 : T[a0]? = some (8, m_a0)) (h : f_X8_minority T M a0 i1 = some (.inr r)) : gRet d yX8_minority cX8_minority 5 (some .int) 0 0 [.ref a0, .int i1] T M (gSame T (some (.int r)) M) := by
  refine gRet_of (own := RX8) (by decide) rfl (Nat.le_of_ble_eq_true rfl) (fun Z ad0 hn h0 hF => ?_)
  exact t_X8_minority hF hn hd q0 h (fun v9 q9 => by cases q9; exact ⟨rfl, rfl, rfl, rfl⟩) (fun k9 q9 => nomatch q9)
theorem cx_X8_minority {d : Nat} {T : gT} {M : gM} {m_a0 : Nat} {a0 : Nat} {i1 : Int32} {k : Nat} (hd : 7 ≤ d) (q0 : T[a0]? = some (8, m_a0)) (h : f_X8_minority T M a0 i1 = some (.inl k)) : gRetX d yX8_minority cX8_minority 5 (some .int) 1 6 [.ref a0, .int i1] T M k := by
  refine gRetX_of (own := RX8) (by decide) rfl (Nat.le_of_ble_eq_true rfl) (fun Z ad0 hn h0 hF => ?_)
  exact t_X8_minority hF hn hd q0 h (fun v9 q9 => nomatch q9) (fun k9 q9 => by cases q9; exact ⟨⟨rfl, rfl, rfl, rfl⟩, Nat.le_of_ble_eq_true rfl, Nat.le_of_ble_eq_true rfl⟩)
theorem t_X8_call {Z : gZ} {d mc ms : Nat} {Acc : Option Value → (Nat → Nat) → gT → gM → Prop} {AccX : Nat → (Nat → Nat) → gT → gM → Prop} {ad : Nat → Nat} {T : gT} {M : gM} {m_a0 : Nat} {a0 : Nat} {i1 : Int32} {i2 : Int32} {o : Nat ⊕ (Int32 × gM)} (hF : gFix Z cX8_call RX8 "call" (some .int) d mc ms Acc AccX) (hn : Z.2.2.2.2.2.1 = 3) (hd : 7 ≤ d) (q0 : T[a0]? = some (8, m_a0)) (h : f_X8_call T M a0 i1 i2 = some o) (hR : ∀ v9, o = .inr v9 → Acc (some (.int v9.1)) ad T v9.2) (hX : ∀ k9, o = .inl k9 → AccX k9 ad T M ∧ 1 ≤ mc ∧ 6 ≤ ms) : gG Z ad T M 0 0 0 [(0, .ref a0), (1, .int i1), (2, .int i2)] [] := by
  unfold f_X8_call at h
  refine g_aload_n hF 0 rfl rfl dX8_call_0 ?_
  refine g_iload_n hF 1 rfl rfl dX8_call_1 ?_
  obtain ⟨x1, h1, h⟩ := gbnd h
  rcases x1 with k1 | r1
  · replace h := gcase_l h
    cases h
    exact g_callVX hF my_X8_requireLibrary kw_988 kw_990 kw_56 gC_8.1 (by decide) q0 (cx_X8_requireLibrary (d := d - 1) (by omega) q0 h1) (by omega) (by have q9 := (hX _ rfl).2; omega) (by have q9 := (hX _ rfl).2; omega) rfl rfl (Nat.le_of_ble_eq_true rfl) (hX _ rfl).1 dX8_call_2
  · replace h := gcase_r h
    refine g_callV hF my_X8_requireLibrary kw_988 kw_990 kw_56 gC_8.1 (by decide) q0 (c_X8_requireLibrary (d := d - 1) (by omega) q0 h1) (by omega) (Nat.zero_le _) (Nat.zero_le _) rfl rfl (Nat.le_of_ble_eq_true rfl) dX8_call_2 (g_sameN ?_)
    refine g_aload_n hF 0 rfl rfl dX8_call_5 ?_
    refine g_iload_n hF 2 rfl rfl dX8_call_6 ?_
    obtain ⟨x2, h2, h⟩ := gbnd h
    rcases x2 with k2 | r2
    · replace h := gcase_l h
      cases h
      exact g_callVX hF my_X8_requireName kw_951 kw_953 kw_55 gC_8.1 (by decide) q0 (cx_X8_requireName (d := d - 1) (by omega) q0 h2) (by omega) (by have q9 := (hX _ rfl).2; omega) (by have q9 := (hX _ rfl).2; omega) rfl rfl (Nat.le_of_ble_eq_true rfl) (hX _ rfl).1 dX8_call_7
    · replace h := gcase_r h
      refine g_callV hF my_X8_requireName kw_951 kw_953 kw_55 gC_8.1 (by decide) q0 (c_X8_requireName (d := d - 1) (by omega) q0 h2) (by omega) (Nat.zero_le _) (Nat.zero_le _) rfl rfl (Nat.le_of_ble_eq_true rfl) dX8_call_7 (g_sameN ?_)
      refine g_aload_n hF 0 rfl rfl dX8_call_10 ?_
      obtain ⟨b3, h3, h⟩ := gbnd h
      obtain ⟨g3, l3, q_b3⟩ := ldr_sp h3
      refine g_get_r hF g3 fl_RX8_44 q0 dX8_call_11 ?_
      refine g_aload_n hF 0 rfl rfl dX8_call_14 ?_
      obtain ⟨b4, h4, h⟩ := gbnd h
      obtain ⟨g4, l4, q_b4⟩ := ldr_sp h4
      refine g_get_r hF g4 fl_RX8_30 q0 dX8_call_15 ?_
      refine g_aload_n hF 0 rfl rfl dX8_call_18 ?_
      obtain ⟨b5, h5, h⟩ := gbnd h
      obtain ⟨g5, l5, q_b5⟩ := ldr_sp h5
      refine g_get_r hF g5 fl_RX8_37 q0 dX8_call_19 ?_
      refine g_iload_n hF 1 rfl rfl dX8_call_22 ?_
      refine g_iload_n hF 2 rfl rfl dX8_call_23 ?_
      obtain ⟨x6, h6, h⟩ := gbnd h
      refine g_callVN hF my_X4_follow kn_993 kw_995 kw_57 gC_4.1 (by decide) q_b3 (c_X4_follow (d := d - 1) (by omega) q_b3 q_b4 q_b5 h6) (by omega) (Nat.zero_le _) (Nat.zero_le _) rfl rfl (Nat.le_of_ble_eq_true rfl) dX8_call_24 (g_sameN ?_)
      refine g_aload_n hF 0 rfl rfl dX8_call_27 ?_
      obtain ⟨b7, h7, h⟩ := gbnd h
      obtain ⟨g7, l7, q_b7⟩ := ldr_sp h7
      refine g_get_r hF g7 fl_RX8_44 q0 dX8_call_28 ?_
      refine g_get_iN hF fn_RX8_167 q_b7 dX8_call_31 ?_
      cases h
      exact g_ret_i hF rfl rfl dX8_call_34 (hR _ rfl) (Nat.zero_le _) (Nat.zero_le _)
theorem c_X8_call {d : Nat} {T : gT} {M : gM} {m_a0 : Nat} {a0 : Nat} {i1 : Int32} {i2 : Int32} {r : Int32 × gM} (hd : 7 ≤ d) (q0 : T[a0]? = some (8, m_a0)) (h : f_X8_call T M a0 i1 i2 = some (.inr r)) : gRet d yX8_call cX8_call 3 (some .int) 0 0 [.ref a0, .int i1, .int i2] T M (gSame T (some (.int r.1)) r.2) := by
  refine gRet_of (own := RX8) (by decide) rfl (Nat.le_of_ble_eq_true rfl) (fun Z ad0 hn h0 hF => ?_)
  exact t_X8_call hF hn hd q0 h (fun v9 q9 => by cases q9; exact ⟨rfl, rfl, rfl, rfl⟩) (fun k9 q9 => nomatch q9)
theorem cx_X8_call {d : Nat} {T : gT} {M : gM} {m_a0 : Nat} {a0 : Nat} {i1 : Int32} {i2 : Int32} {k : Nat} (hd : 7 ≤ d) (q0 : T[a0]? = some (8, m_a0)) (h : f_X8_call T M a0 i1 i2 = some (.inl k)) : gRetX d yX8_call cX8_call 3 (some .int) 1 6 [.ref a0, .int i1, .int i2] T M k := by
  refine gRetX_of (own := RX8) (by decide) rfl (Nat.le_of_ble_eq_true rfl) (fun Z ad0 hn h0 hF => ?_)
  exact t_X8_call hF hn hd q0 h (fun v9 q9 => nomatch q9) (fun k9 q9 => by cases q9; exact ⟨⟨rfl, rfl, rfl, rfl⟩, Nat.le_of_ble_eq_true rfl, Nat.le_of_ble_eq_true rfl⟩)
theorem t_X8_changedBindings_62 {Z : gZ} {d mc ms : Nat} {Acc : Option Value → (Nat → Nat) → gT → gM → Prop} {AccX : Nat → (Nat → Nat) → gT → gM → Prop} {ad : Nat → Nat} {T : gT} {M : gM} {m_a0 : Nat} {a0 : Nat} {i1 : Int32} {i2 : Int32} {i3 : Int32} {o : (Int32) ⊕ (Int32 × Int32)} (hF : gFix Z cX8_changedBindings RX8 "changedBindings" (some .int) d mc ms Acc AccX) (hn : Z.2.2.2.2.2.1 = 5) (hd : 2 ≤ d) (q0 : T[a0]? = some (8, m_a0)) (h : f_X8_changedBindings_62 T M a0 i1 i2 i3 = some o) (hE : ∀ e9, o = .inl e9 → gG Z ad T M 0 0 68 [(2, .int e9)] []) (hN : ∀ n9, o = .inr n9 → gG Z ad T M 0 0 21 [(0, .ref a0), (1, .int i1), (2, .int n9.1), (3, .int n9.2)] []) : gG Z ad T M 0 0 62 [(0, .ref a0), (1, .int i1), (2, .int i2), (3, .int i3)] [] := by
  unfold f_X8_changedBindings_62 at h
  refine g_iinc (n := 1) (v := (i3 + (1 : Int32))) (ls' := [(3, .int (i3 + (1 : Int32))), (0, .ref a0), (1, .int i1), (2, .int i2)]) hF 3 rfl rfl (by rw [hn]; decide) rfl dX8_changedBindings_62 ?_
  refine g_goto (tgt := 21) hF dX8_changedBindings_65 (by decide) ?_
  exact gG_sub [1, 2, 3, 0] rfl (hN _ (Option.some.inj h).symm)
theorem t_X8_changedBindings_B21 {Z : gZ} {d mc ms : Nat} {Acc : Option Value → (Nat → Nat) → gT → gM → Prop} {AccX : Nat → (Nat → Nat) → gT → gM → Prop} {ad : Nat → Nat} {T : gT} {M : gM} {m_a0 : Nat} {a0 : Nat} {i1 : Int32} {i2 : Int32} {i3 : Int32} {o : (Int32) ⊕ (Int32 × Int32)} (hF : gFix Z cX8_changedBindings RX8 "changedBindings" (some .int) d mc ms Acc AccX) (hn : Z.2.2.2.2.2.1 = 5) (hd : 2 ≤ d) (q0 : T[a0]? = some (8, m_a0)) (h : f_X8_changedBindings_B21 T M a0 i1 i2 i3 = some o) (hE : ∀ e9, o = .inl e9 → gG Z ad T M 0 0 68 [(2, .int e9)] []) (hN : ∀ n9, o = .inr n9 → gG Z ad T M 0 0 21 [(0, .ref a0), (1, .int i1), (2, .int n9.1), (3, .int n9.2)] []) : gG Z ad T M 0 0 21 [(0, .ref a0), (1, .int i1), (2, .int i2), (3, .int i3)] [] := by
  unfold f_X8_changedBindings_B21 at h
  refine g_iload_n hF 3 rfl rfl dX8_changedBindings_21 ?_
  refine g_aload_n hF 0 rfl rfl dX8_changedBindings_22 ?_
  obtain ⟨b1, h1, h⟩ := gbnd h
  obtain ⟨g1, l1, q_b1⟩ := ldr_sp h1
  refine g_get_r hF g1 fl_RX8_30 q0 dX8_changedBindings_23 ?_
  refine g_get_iN hF fn_RX8_94 q_b1 dX8_changedBindings_26 ?_
  refine g_icmp_ge (tgt := 68) hF dX8_changedBindings_29 (by decide) (fun c2 => ?_) (fun c2 => ?_)
  · replace h := gif_t c2 h
    exact gG_sub [2] rfl (hE _ (Option.some.inj h).symm)
  · replace h := gif_f c2 h
    refine g_iload_n hF 1 rfl rfl dX8_changedBindings_32 ?_
    refine g_iload_n hF 3 rfl rfl dX8_changedBindings_33 ?_
    obtain ⟨x3, h3, h⟩ := gbnd h
    refine g_callS hF my_X8_cellOf kw_980 kw_461 (c_X8_cellOf (d := d - 1) (by omega)  h3) (by omega) (Nat.zero_le _) (Nat.zero_le _) rfl rfl (Nat.le_of_ble_eq_true rfl) dX8_changedBindings_34 (g_sameS ?_)
    refine g_istore (ls' := [(4, .int x3), (0, .ref a0), (1, .int i1), (2, .int i2), (3, .int i3)]) hF (by rw [hn]; decide) rfl dX8_changedBindings_37 ?_
    refine g_aload_n hF 1 rfl rfl dX8_changedBindings_39 ?_
    obtain ⟨b4, h4, h⟩ := gbnd h
    obtain ⟨g4, l4, q_b4⟩ := ldr_sp h4
    refine g_get_r hF g4 fl_RX8_37 q0 dX8_changedBindings_40 ?_
    obtain ⟨b5, h5, h⟩ := gbnd h
    obtain ⟨g5, l5, q_b5⟩ := ldr_sp h5
    refine g_get_rN hF g5 fn_RX8_156 q_b4 dX8_changedBindings_43 ?_
    refine g_iload hF 0 rfl dX8_changedBindings_46 ?_
    obtain ⟨v6, h6, h⟩ := gbnd h
    obtain ⟨i6h, e6v⟩ := ald_sp q_b5 h6
    refine g_iald hF q_b5 i6h dX8_changedBindings_48 ?_
    rw [← e6v]
    refine g_aload_n hF 1 rfl rfl dX8_changedBindings_49 ?_
    obtain ⟨b7, h7, h⟩ := gbnd h
    obtain ⟨g7, l7, q_b7⟩ := ldr_sp h7
    refine g_get_r hF g7 fl_RX8_55 q0 dX8_changedBindings_50 ?_
    refine g_iload hF 0 rfl dX8_changedBindings_53 ?_
    obtain ⟨v8, h8, h⟩ := gbnd h
    obtain ⟨i8h, e8v⟩ := ald_sp q_b7 h8
    refine g_iald hF q_b7 i8h dX8_changedBindings_55 ?_
    rw [← e8v]
    refine g_icmp_eq (tgt := 62) hF dX8_changedBindings_56 (by decide) (fun c9 => ?_) (fun c9 => ?_)
    · replace h := gif_t c9 h
      exact gG_sub [1, 2, 3, 4] rfl (t_X8_changedBindings_62 hF hn hd q0 h hE hN)
    · replace h := gif_f c9 h
      refine g_iinc (n := 1) (v := (i2 + (1 : Int32))) (ls' := [(2, .int (i2 + (1 : Int32))), (4, .int x3), (0, .ref a0), (1, .int i1), (3, .int i3)]) hF 3 rfl rfl (by rw [hn]; decide) rfl dX8_changedBindings_59 ?_
      exact gG_sub [2, 3, 0, 4] rfl (t_X8_changedBindings_62 hF hn hd q0 h hE hN)
theorem t_X8_changedBindings_L21 {Z : gZ} {d mc ms : Nat} {Acc : Option Value → (Nat → Nat) → gT → gM → Prop} {AccX : Nat → (Nat → Nat) → gT → gM → Prop} {ad : Nat → Nat} {T : gT} {M : gM} {m_a0 : Nat} {a0 : Nat} {i1 : Int32} {i2 : Int32} {i3 : Int32} {o : Int32} (hF : gFix Z cX8_changedBindings RX8 "changedBindings" (some .int) d mc ms Acc AccX) (hn : Z.2.2.2.2.2.1 = 5) (hd : 2 ≤ d) (q0 : T[a0]? = some (8, m_a0)) (h : gloop (fun x => f_X8_changedBindings_B21 T M a0 i1 x.1 x.2) gFU (i2, i3) = some o) (hE : gG Z ad T M 0 0 68 [(2, .int o)] []) : gG Z ad T M 0 0 21 [(0, .ref a0), (1, .int i1), (2, .int i2), (3, .int i3)] [] := by
  refine gloop_ind (P := fun x0 : Int32 × Int32 => gG Z ad T M 0 0 21 [(0, .ref a0), (1, .int i1), (2, .int x0.1), (3, .int x0.2)] []) (e := o) (fun x0 y hy hl hr => ?_) gFU (i2, i3) h
  exact t_X8_changedBindings_B21 hF hn hd q0 hy (fun e9 q9 => by rw [hl _ q9]; exact hE) (fun n9 q9 => hr n9 q9)
theorem t_X8_changedBindings {Z : gZ} {d mc ms : Nat} {Acc : Option Value → (Nat → Nat) → gT → gM → Prop} {AccX : Nat → (Nat → Nat) → gT → gM → Prop} {ad : Nat → Nat} {T : gT} {M : gM} {m_a0 : Nat} {a0 : Nat} {i1 : Int32} {o : Int32} (hF : gFix Z cX8_changedBindings RX8 "changedBindings" (some .int) d mc ms Acc AccX) (hn : Z.2.2.2.2.2.1 = 5) (hd : 2 ≤ d) (q0 : T[a0]? = some (8, m_a0)) (h : f_X8_changedBindings T M a0 i1 = some o) (hR : Acc (some (.int o)) ad T M) : gG Z ad T M 0 0 0 [(0, .ref a0), (1, .int i1)] [] := by
  unfold f_X8_changedBindings at h
  refine g_aload_n hF 0 rfl rfl dX8_changedBindings_0 ?_
  obtain ⟨b10, h10, h⟩ := gbnd h
  obtain ⟨g10, l10, q_b10⟩ := ldr_sp h10
  refine g_get_r hF g10 fl_RX8_30 q0 dX8_changedBindings_1 ?_
  obtain ⟨b11, h11, h⟩ := gbnd h
  obtain ⟨g11, l11, q_b11⟩ := ldr_sp h11
  refine g_get_rN hF g11 fn_RX8_103 q_b10 dX8_changedBindings_4 ?_
  refine g_iload_n hF 1 rfl rfl dX8_changedBindings_7 ?_
  obtain ⟨b12, h12, h⟩ := gbnd h
  obtain ⟨i12h, g12, l12, q_b12⟩ := aldr_sp q_b11 h12
  refine g_aald hF q_b11 (Or.inr (Or.inl ⟨rfl, rfl⟩)) i12h g12 dX8_changedBindings_8 ?_
  obtain ⟨x13, h13, h⟩ := gbnd h
  refine g_callVN hF my_X3_isLoaded kn_979 kw_407 kw_4 gC_3.1 (by decide) q_b12 (c_X3_isLoaded (d := d - 1) (by omega) q_b12 h13) (by omega) (Nat.zero_le _) (Nat.zero_le _) rfl rfl (Nat.le_of_ble_eq_true rfl) dX8_changedBindings_9 (g_sameS ?_)
  refine g_if_ne (tgt := 17) hF dX8_changedBindings_12 (by decide) (fun c14 => ?_) (fun c14 => ?_)
  · replace h := gif_t c14 h
    refine g_iconst (v := (0 : Int32)) hF rfl dX8_changedBindings_17 ?_
    refine g_istore_n (ls' := [(2, .int (0 : Int32)), (0, .ref a0), (1, .int i1)]) hF rfl (by rw [hn]; decide) rfl dX8_changedBindings_18 ?_
    refine g_iconst (v := (0 : Int32)) hF rfl dX8_changedBindings_19 ?_
    refine g_istore_n (ls' := [(3, .int (0 : Int32)), (2, .int (0 : Int32)), (0, .ref a0), (1, .int i1)]) hF rfl (by rw [hn]; decide) rfl dX8_changedBindings_20 ?_
    obtain ⟨x15, h15, h⟩ := gbnd h
    refine gG_sub [2, 3, 1, 0] rfl (t_X8_changedBindings_L21 hF hn hd q0 h15 ?_)
    refine g_iload_n hF 0 rfl rfl dX8_changedBindings_68 ?_
    cases h
    exact g_ret_i hF rfl rfl dX8_changedBindings_69 hR (Nat.zero_le _) (Nat.zero_le _)
  · replace h := gif_n c14 h
    refine g_iconst (v := (0 : Int32)) hF rfl dX8_changedBindings_15 ?_
    cases h
    exact g_ret_i hF rfl rfl dX8_changedBindings_16 hR (Nat.zero_le _) (Nat.zero_le _)
theorem c_X8_changedBindings {d : Nat} {T : gT} {M : gM} {m_a0 : Nat} {a0 : Nat} {i1 : Int32} {r : Int32} (hd : 2 ≤ d) (q0 : T[a0]? = some (8, m_a0)) (h : f_X8_changedBindings T M a0 i1 = some (r)) : gRet d yX8_changedBindings cX8_changedBindings 5 (some .int) 0 0 [.ref a0, .int i1] T M (gSame T (some (.int r)) M) := by
  refine gRet_of (own := RX8) (by decide) rfl (Nat.le_of_ble_eq_true rfl) (fun Z ad0 hn h0 hF => ?_)
  exact t_X8_changedBindings hF hn hd q0 h ⟨rfl, rfl, rfl, rfl⟩
