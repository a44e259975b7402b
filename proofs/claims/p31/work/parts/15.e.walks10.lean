theorem t_L_randomLinker_151 {Z : gZ} {d mc ms : Nat} {Acc : Option Value → (Nat → Nat) → gT → gM → Prop} {AccX : Nat → (Nat → Nat) → gT → gM → Prop} {ad : Nat → Nat} {T : gT} {M : gM} {ce so c9 s9 K KS : Nat} {m_a0 m_a1 m_a2 m_a5 m_a8 m_b0 : Nat} {a0 : Nat} {a1 : Nat} {a2 : Nat} {a5 : Nat} {i6 : Int32} {i7 : Int32} {a8 : Nat} {b0 : Nat} {k1 : Int32} {o : (gT × gM) ⊕ (Int32 × gT × gM)} (hF : gFix Z cL_randomLinker RL "randomLinker" (some (.object RX10)) d mc ms Acc AccX) (hn : Z.2.2.2.2.2.1 = 11) (hd : 59 ≤ d) (hk1 : ce + c9 + K ≤ mc) (hk2 : so + s9 + KS ≤ ms) (q0 : T[a0]? = some (8, m_a0)) (q1 : T[a1]? = some (11, m_a1)) (q2 : T[a2]? = some (18, m_a2)) (q5 : T[a5]? = some (16, m_a5)) (q8 : T[a8]? = some (9, m_a8)) (p0 : T[b0]? = some (9, m_b0)) (h : f_L_randomLinker_151 T M a0 a1 a2 a5 i6 i7 a8 b0 k1 = some (o, c9, s9)) (hE : ∀ (e9 : gT × gM) (ad1 : Nat → Nat) (ce1 so1 : Nat), o = .inl e9 → gExt T e9.1 → (∀ a : Nat, a < T.length → ad1 a = ad a) → ce1 + K ≤ mc → so1 + KS ≤ ms → gG Z ad1 e9.1 e9.2 ce1 so1 293 [(0, .ref a0), (1, .ref a1), (2, .ref a2), (5, .ref a5), (6, .int i6)] []) (hN : ∀ (n9 : Int32 × gT × gM) (ad1 : Nat → Nat) (ce1 so1 : Nat), o = .inr n9 → gExt T n9.2.1 → (∀ a : Nat, a < T.length → ad1 a = ad a) → ce1 + K ≤ mc → so1 + KS ≤ ms → gG Z ad1 n9.2.1 n9.2.2 ce1 so1 95 [(0, .ref a0), (1, .ref a1), (2, .ref a2), (5, .ref a5), (6, .int i6), (7, .int n9.1)] []) : gG Z ad T M ce so 151 [(0, .ref a0), (1, .ref a1), (2, .ref a2), (5, .ref a5), (6, .int i6), (7, .int i7), (8, .ref a8)] [.int k1, .ref b0] := by
  unfold f_L_randomLinker_151 at h
  obtain ⟨_, h50, h⟩ := gbnd h
  refine g_put_i hF (gbool (chk_sp h50)) (gboolf (chk_sp h50)) fl_RL_169 p0 dL_randomLinker_151 ?_
  refine g_aload hF 6 rfl dL_randomLinker_154 ?_
  refine g_aload hF 3 rfl dL_randomLinker_156 ?_
  refine g_get_i hF fl_RL_141 q5 dL_randomLinker_158 ?_
  obtain ⟨x51, h51, h⟩ := gbnd h
  obtain ⟨c51, s51, h, ec51, es51⟩ := cadd_sp h
  obtain ⟨n510, n511, n51h⟩ := gnewa_sp h51
  refine g_newa_int hF n510 rfl n511 kw_167 n51h (gnew_lt n51h) (gFr_r (gT_ne q0) (gFr_r (gT_ne q1) (gFr_r (gT_ne q2) (gFr_r (gT_ne q5) (gFr_i (gFr_i (gFr_r (gT_ne q8) gFr_0))))))) (gFr_r (gT_ne q8) gFr_0) (by omega) (by omega) dL_randomLinker_161 (fun ad51 z51 => ?_)
  have y51 : ∀ b : Nat, b < T.length → ad51 b = ad b := fun b hb => z51 b (by rw [(gnew_sp n51h).1]; omega)
  have X51 := gExt.tr gExt.rf (gnew_ext n51h)
  have W51 := gad_call y51 gExt.rf (fun _ _ => rfl)
  have q_52 := (gnew_ext n51h) _ _ q0
  have q_53 := (gnew_ext n51h) _ _ q1
  have q_54 := (gnew_ext n51h) _ _ q2
  have q_55 := (gnew_ext n51h) _ _ q5
  have q_56 := (gnew_ext n51h) _ _ q8
  have q_y51 := gnew_at n51h
  refine g_put_r hF (fun _ => rfl) (fun _ => rfl) (gT_lt q_y51) fl_RL_172 q_56 dL_randomLinker_163 ?_
  refine g_iconst (v := (0 : Int32)) hF rfl dL_randomLinker_166 ?_
  refine g_istore (ls' := [(9, .int (0 : Int32)), (0, .ref a0), (1, .ref a1), (2, .ref a2), (5, .ref a5), (6, .int i6), (7, .int i7), (8, .ref a8)]) hF (by rw [hn]; decide) rfl dL_randomLinker_167 ?_
  obtain ⟨x57, h57, h⟩ := gbnd h
  refine gG_sub [1, 2, 3, 4, 5, 6, 7, 0] rfl (t_L_randomLinker_L169 hF hn hd (by omega) (by omega) q_52 q_53 q_54 q_55 q_56 h57 ?_)
  refine g_aload_n hF 0 rfl rfl dL_randomLinker_194 ?_
  refine g_aload_n hF 1 rfl rfl dL_randomLinker_195 ?_
  refine g_ldcS (tx := "library ") (a := gSB + 18) hF (by decide +kernel) (Nat.le_add_right _ _) dL_randomLinker_196 ?_
  obtain ⟨x58, h58, h⟩ := gbnd h
  refine g_callS hF my_L_write kw_1106 kw_1107 (c_L_write (d := d - 1) (by omega) q_52 q_53 (gStr_c (i := 18) (by decide)) h58) (by omega) (by omega) (by omega) rfl rfl (Nat.le_of_ble_eq_true rfl) dL_randomLinker_198 (g_sameN ?_)
  refine g_aload_n hF 0 rfl rfl dL_randomLinker_201 ?_
  refine g_aload_n hF 1 rfl rfl dL_randomLinker_202 ?_
  refine g_iload hF 5 rfl dL_randomLinker_203 ?_
  refine g_iconst (v := (0 : Int32)) hF rfl dL_randomLinker_205 ?_
  obtain ⟨x59, h59, h⟩ := gbnd h
  obtain ⟨c59, s59, h, ec59, es59⟩ := cadd_sp h
  refine g_callS hF my_L_wordOf kw_1126 kw_1127 (c_L_wordOf (d := d - 1) (by omega)  (trip h59)) (by omega) (by omega) (by omega) rfl rfl (Nat.le_of_ble_eq_true rfl) dL_randomLinker_206 (g_madeS (gOld_r (gT_lt q_52) (gOld_r (gT_lt q_53) (gOld_r (gT_lt q_54) (gOld_r (gT_lt q_55) (gOld_i (gOld_i (gOld_r (gT_lt q_56) gOld_0))))))) (gOld_r (gT_lt q_53) (gOld_r (gT_lt q_52) gOld_0)) (fun ad59 e59 y59 => ?_))
  have X59 := gExt.tr X51 e59
  have W59 := gad_call y59 X51 W51
  have q_60 := e59 _ _ q_52
  have q_61 := e59 _ _ q_53
  have q_62 := e59 _ _ q_54
  have q_63 := e59 _ _ q_55
  have q_64 := e59 _ _ q_56
  obtain ⟨_, h65, h⟩ := gbnd h
  have q_65 := gks_sp h65
  obtain ⟨x66, h66, h⟩ := gbnd h
  refine g_callS hF my_L_write kw_1106 kw_1107 (c_L_write (d := d - 1) (by omega) q_60 q_61 q_65 h66) (by omega) (by omega) (by omega) rfl rfl (Nat.le_of_ble_eq_true rfl) dL_randomLinker_209 (g_sameN ?_)
  refine g_aload_n hF 0 rfl rfl dL_randomLinker_212 ?_
  refine g_aload_n hF 1 rfl rfl dL_randomLinker_213 ?_
  refine g_aload_n hF 2 rfl rfl dL_randomLinker_214 ?_
  refine g_iconst (v := (2 : Int32)) hF rfl dL_randomLinker_215 ?_
  obtain ⟨x67, h67, h⟩ := gbnd h
  refine g_callV hF my_X12_below kw_636 kw_637 kw_638 gC_18.1 (by decide) q_62 (c_X12_below (d := d - 1) (by omega) q_62 h67) (by omega) (by omega) (by omega) rfl rfl (Nat.le_of_ble_eq_true rfl) dL_randomLinker_216 (g_sameS ?_)
  refine g_if_ne (tgt := 227) hF dL_randomLinker_219 (by decide) (fun c68 => ?_) (fun c68 => ?_)
  · replace h := gif_t c68 h
    refine g_ldcS (tx := "") (a := gSB + 20) hF (by decide +kernel) (Nat.le_add_right _ _) dL_randomLinker_227 ?_
    exact gG_sub [0, 1, 2, 3, 4, 5, 6] rfl (t_L_randomLinker_229 hF hn hd (by omega) (by omega) q_60 q_61 q_62 q_63 q_64 q_60 q_61 (gStr_c (i := 20) (by decide)) h (fun v9 ad1 ce1 so1 q9 x1 y1 => hE v9 ad1 ce1 so1 q9 (gExt.tr X59 x1) (gad_call y1 X59 W59)) (fun v9 ad1 ce1 so1 q9 x1 y1 => hN v9 ad1 ce1 so1 q9 (gExt.tr X59 x1) (gad_call y1 X59 W59)))
  · replace h := gif_n c68 h
    refine g_ldcS (tx := " ") (a := gSB + 19) hF (by decide +kernel) (Nat.le_add_right _ _) dL_randomLinker_222 ?_
    refine g_goto (tgt := 229) hF dL_randomLinker_224 (by decide) ?_
    exact gG_sub [0, 1, 2, 3, 4, 5, 6] rfl (t_L_randomLinker_229 hF hn hd (by omega) (by omega) q_60 q_61 q_62 q_63 q_64 q_60 q_61 (gStr_c (i := 19) (by decide)) h (fun v9 ad1 ce1 so1 q9 x1 y1 => hE v9 ad1 ce1 so1 q9 (gExt.tr X59 x1) (gad_call y1 X59 W59)) (fun v9 ad1 ce1 so1 q9 x1 y1 => hN v9 ad1 ce1 so1 q9 (gExt.tr X59 x1) (gad_call y1 X59 W59)))
theorem t_L_randomLinker_130 {Z : gZ} {d mc ms : Nat} {Acc : Option Value → (Nat → Nat) → gT → gM → Prop} {AccX : Nat → (Nat → Nat) → gT → gM → Prop} {ad : Nat → Nat} {T : gT} {M : gM} {ce so c9 s9 K KS : Nat} {m_a0 m_a1 m_a2 m_a5 m_a8 m_b0 m_b1 : Nat} {a0 : Nat} {a1 : Nat} {a2 : Nat} {a5 : Nat} {i6 : Int32} {i7 : Int32} {a8 : Nat} {b0 : Nat} {b1 : Nat} {k2 : Int32} {o : (gT × gM) ⊕ (Int32 × gT × gM)} (hF : gFix Z cL_randomLinker RL "randomLinker" (some (.object RX10)) d mc ms Acc AccX) (hn : Z.2.2.2.2.2.1 = 11) (hd : 59 ≤ d) (hk1 : ce + c9 + K ≤ mc) (hk2 : so + s9 + KS ≤ ms) (q0 : T[a0]? = some (8, m_a0)) (q1 : T[a1]? = some (11, m_a1)) (q2 : T[a2]? = some (18, m_a2)) (q5 : T[a5]? = some (16, m_a5)) (q8 : T[a8]? = some (9, m_a8)) (p0 : T[b0]? = some (9, m_b0)) (p1 : T[b1]? = some (18, m_b1)) (h : f_L_randomLinker_130 T M a0 a1 a2 a5 i6 i7 a8 b0 b1 k2 = some (o, c9, s9)) (hE : ∀ (e9 : gT × gM) (ad1 : Nat → Nat) (ce1 so1 : Nat), o = .inl e9 → gExt T e9.1 → (∀ a : Nat, a < T.length → ad1 a = ad a) → ce1 + K ≤ mc → so1 + KS ≤ ms → gG Z ad1 e9.1 e9.2 ce1 so1 293 [(0, .ref a0), (1, .ref a1), (2, .ref a2), (5, .ref a5), (6, .int i6)] []) (hN : ∀ (n9 : Int32 × gT × gM) (ad1 : Nat → Nat) (ce1 so1 : Nat), o = .inr n9 → gExt T n9.2.1 → (∀ a : Nat, a < T.length → ad1 a = ad a) → ce1 + K ≤ mc → so1 + KS ≤ ms → gG Z ad1 n9.2.1 n9.2.2 ce1 so1 95 [(0, .ref a0), (1, .ref a1), (2, .ref a2), (5, .ref a5), (6, .int i6), (7, .int n9.1)] []) : gG Z ad T M ce so 130 [(0, .ref a0), (1, .ref a1), (2, .ref a2), (5, .ref a5), (6, .int i6), (7, .int i7), (8, .ref a8)] [.int k2, .ref b1, .ref b0] := by
  unfold f_L_randomLinker_130 at h
  obtain ⟨x69, h69, h⟩ := gbnd h
  refine g_callV hF my_X12_below kw_636 kw_637 kw_638 gC_18.1 (by decide) p1 (c_X12_below (d := d - 1) (by omega) p1 h69) (by omega) (by omega) (by omega) rfl rfl (Nat.le_of_ble_eq_true rfl) dL_randomLinker_130 (g_sameS ?_)
  refine g_put_i hF rfl rfl fl_RL_166 p0 dL_randomLinker_133 ?_
  refine g_aload hF 6 rfl dL_randomLinker_136 ?_
  refine g_aload_n hF 2 rfl rfl dL_randomLinker_138 ?_
  refine g_iconst (v := (2 : Int32)) hF rfl dL_randomLinker_139 ?_
  obtain ⟨x70, h70, h⟩ := gbnd h
  refine g_callV hF my_X12_below kw_636 kw_637 kw_638 gC_18.1 (by decide) q2 (c_X12_below (d := d - 1) (by omega) q2 h70) (by omega) (by omega) (by omega) rfl rfl (Nat.le_of_ble_eq_true rfl) dL_randomLinker_140 (g_sameS ?_)
  refine g_if_ne (tgt := 150) hF dL_randomLinker_143 (by decide) (fun c71 => ?_) (fun c71 => ?_)
  · replace h := gif_t c71 h
    refine g_iconst (v := (0 : Int32)) hF rfl dL_randomLinker_150 ?_
    exact gG_sub [0, 1, 2, 3, 4, 5, 6] rfl (t_L_randomLinker_151 hF hn hd (by omega) (by omega) q0 q1 q2 q5 q8 q8 h (fun v9 ad1 ce1 so1 q9 x1 y1 => hE v9 ad1 ce1 so1 q9 (gExt.tr gExt.rf x1) (gad_call y1 gExt.rf (fun _ _ => rfl))) (fun v9 ad1 ce1 so1 q9 x1 y1 => hN v9 ad1 ce1 so1 q9 (gExt.tr gExt.rf x1) (gad_call y1 gExt.rf (fun _ _ => rfl))))
  · replace h := gif_n c71 h
    refine g_iconst (v := (1 : Int32)) hF rfl dL_randomLinker_146 ?_
    refine g_goto (tgt := 151) hF dL_randomLinker_147 (by decide) ?_
    exact gG_sub [0, 1, 2, 3, 4, 5, 6] rfl (t_L_randomLinker_151 hF hn hd (by omega) (by omega) q0 q1 q2 q5 q8 q8 h (fun v9 ad1 ce1 so1 q9 x1 y1 => hE v9 ad1 ce1 so1 q9 (gExt.tr gExt.rf x1) (gad_call y1 gExt.rf (fun _ _ => rfl))) (fun v9 ad1 ce1 so1 q9 x1 y1 => hN v9 ad1 ce1 so1 q9 (gExt.tr gExt.rf x1) (gad_call y1 gExt.rf (fun _ _ => rfl))))
theorem t_L_randomLinker_B507 {Z : gZ} {d mc ms : Nat} {Acc : Option Value → (Nat → Nat) → gT → gM → Prop} {AccX : Nat → (Nat → Nat) → gT → gM → Prop} {ad : Nat → Nat} {T : gT} {M : gM} {ce so c9 s9 K KS : Nat}  {a0 : Nat} {a1 : Nat} {a2 : Nat} {a5 : Nat} {i6 : Int32} {i7 : Int32} {o : (gT × gM) ⊕ (Int32 × gT × gM)} (hF : gFix Z cL_randomLinker RL "randomLinker" (some (.object RX10)) d mc ms Acc AccX) (hn : Z.2.2.2.2.2.1 = 11) (hd : 59 ≤ d) (hk1 : ce + c9 + K ≤ mc) (hk2 : so + s9 + KS ≤ ms)  (h : f_L_randomLinker_B507 T M a0 a1 a2 a5 i6 i7 = some (o, c9, s9)) (hE : ∀ (e9 : gT × gM) (ad1 : Nat → Nat) (ce1 so1 : Nat), o = .inl e9 → gExt T e9.1 → (∀ a : Nat, a < T.length → ad1 a = ad a) → ce1 + K ≤ mc → so1 + KS ≤ ms → gG Z ad1 e9.1 e9.2 ce1 so1 639 [(0, .ref a0), (1, .ref a1), (2, .ref a2), (5, .ref a5), (6, .int i6)] []) (hN : ∀ (n9 : Int32 × gT × gM) (ad1 : Nat → Nat) (ce1 so1 : Nat), o = .inr n9 → gExt T n9.2.1 → (∀ a : Nat, a < T.length → ad1 a = ad a) → ce1 + K ≤ mc → so1 + KS ≤ ms → gG Z ad1 n9.2.1 n9.2.2 ce1 so1 507 [(0, .ref a0), (1, .ref a1), (2, .ref a2), (5, .ref a5), (6, .int i6), (7, .int n9.1)] []) : gG Z ad T M ce so 507 [(0, .ref a0), (1, .ref a1), (2, .ref a2), (5, .ref a5), (6, .int i6), (7, .int i7)] [] := by
  unfold f_L_randomLinker_B507 at h
  obtain ⟨_, h72, h⟩ := gbnd h
  obtain ⟨l72, q_72⟩ := gkd_sp h72
  obtain ⟨_, h73, h⟩ := gbnd h
  obtain ⟨l73, q_73⟩ := gkd_sp h73
  obtain ⟨_, h74, h⟩ := gbnd h
  obtain ⟨l74, q_74⟩ := gkd_sp h74
  obtain ⟨_, h75, h⟩ := gbnd h
  obtain ⟨l75, q_75⟩ := gkd_sp h75
  refine g_iload hF 5 rfl dL_randomLinker_507 ?_
  refine g_if_le (tgt := 639) hF dL_randomLinker_509 (by decide) (fun c78 => ?_) (fun c78 => ?_)
  · replace h := gif_t c78 h
    cases h
    exact gG_sub [0, 1, 2, 3, 4] rfl (hE _ _ _ _ rfl gExt.rf (fun _ _ => rfl) (by omega) (by omega))
  · replace h := gif_f c78 h
    refine g_iload hF 4 rfl dL_randomLinker_512 ?_
    refine g_iconst (v := (1 : Int32)) hF rfl dL_randomLinker_514 ?_
    refine g_icmp_le (tgt := 639) hF dL_randomLinker_515 (by decide) (fun c79 => ?_) (fun c79 => ?_)
    · replace h := gif_t c79 h
      cases h
      exact gG_sub [0, 1, 2, 3, 4] rfl (hE _ _ _ _ rfl gExt.rf (fun _ _ => rfl) (by omega) (by omega))
    · replace h := gif_f c79 h
      refine g_aload_n hF 2 rfl rfl dL_randomLinker_518 ?_
      refine g_iload hF 4 rfl dL_randomLinker_519 ?_
      obtain ⟨x80, h80, h⟩ := gbnd h
      refine g_callV hF my_X12_below kw_636 kw_637 kw_638 gC_18.1 (by decide) q_74 (c_X12_below (d := d - 1) (by omega) q_74 h80) (by omega) (by omega) (by omega) rfl rfl (Nat.le_of_ble_eq_true rfl) dL_randomLinker_521 (g_sameS ?_)
      refine g_istore (ls' := [(8, .int x80.1), (0, .ref a0), (1, .ref a1), (2, .ref a2), (5, .ref a5), (6, .int i6), (7, .int i7)]) hF (by rw [hn]; decide) rfl dL_randomLinker_524 ?_
      refine g_aload_n hF 3 rfl rfl dL_randomLinker_526 ?_
      refine g_iload hF 5 rfl dL_randomLinker_527 ?_
      obtain ⟨x81, h81, h⟩ := gbnd h
      refine g_callV hF my_X12_below kw_636 kw_637 kw_638 gC_18.1 (by decide) q_74 (c_X12_below (d := d - 1) (by omega) q_74 h81) (by omega) (by omega) (by omega) rfl rfl (Nat.le_of_ble_eq_true rfl) dL_randomLinker_529 (g_sameS ?_)
      refine g_istore (ls' := [(9, .int x81.1), (8, .int x80.1), (0, .ref a0), (1, .ref a1), (2, .ref a2), (5, .ref a5), (6, .int i6), (7, .int i7)]) hF (by rw [hn]; decide) rfl dL_randomLinker_532 ?_
      refine g_iload hF 1 rfl dL_randomLinker_534 ?_
      refine g_iload hF 0 rfl dL_randomLinker_536 ?_
      refine g_icmp_eq (tgt := 633) hF dL_randomLinker_538 (by decide) (fun c82 => ?_) (fun c82 => ?_)
      · replace h := gif_t c82 h
        exact gG_sub [2, 3, 4, 5, 6, 7] rfl (t_L_randomLinker_633 hF hn hd (by omega) (by omega) q_72 q_73 q_74 q_75 h (fun v9 ad1 ce1 so1 q9 x1 y1 => hE v9 ad1 ce1 so1 q9 (gExt.tr gExt.rf x1) (gad_call y1 gExt.rf (fun _ _ => rfl))) (fun v9 ad1 ce1 so1 q9 x1 y1 => hN v9 ad1 ce1 so1 q9 (gExt.tr gExt.rf x1) (gad_call y1 gExt.rf (fun _ _ => rfl))))
      · replace h := gif_f c82 h
        refine g_aload hF 5 rfl dL_randomLinker_541 ?_
        obtain ⟨b83, h83, h⟩ := gbnd h
        obtain ⟨g83, l83, q_b83⟩ := ldr_sp h83
        refine g_get_r hF g83 fl_RL_161 q_75 dL_randomLinker_543 ?_
        refine g_iload hF 1 rfl dL_randomLinker_546 ?_
        obtain ⟨b84, h84, h⟩ := gbnd h
        obtain ⟨i84h, g84, l84, q_b84⟩ := aldr_sp q_b83 h84
        refine g_aald hF q_b83 (Or.inr (Or.inr (Or.inl ⟨rfl, rfl⟩))) i84h g84 dL_randomLinker_548 ?_
        obtain ⟨b85, h85, h⟩ := gbnd h
        obtain ⟨g85, l85, q_b85⟩ := ldr_sp h85
        refine g_get_r hF g85 fl_RL_198 q_b84 dL_randomLinker_549 ?_
        refine g_iload hF 0 rfl dL_randomLinker_552 ?_
        obtain ⟨x86, h86, h⟩ := gbnd h
        refine g_callS hF my_L_has kw_1368 kw_593 (c_L_has (d := d - 1) (by omega) q_b85 h86) (by omega) (by omega) (by omega) rfl rfl (Nat.le_of_ble_eq_true rfl) dL_randomLinker_554 (g_sameS ?_)
        refine g_if_eq (tgt := 563) hF dL_randomLinker_557 (by decide) (fun c87 => ?_) (fun c87 => ?_)
        · replace h := gif_t c87 h
          refine g_aload hF 5 rfl dL_randomLinker_563 ?_
          obtain ⟨b88, h88, h⟩ := gbnd h
          obtain ⟨g88, l88, q_b88⟩ := ldr_sp h88
          refine g_get_r hF g88 fl_RL_161 q_75 dL_randomLinker_565 ?_
          refine g_iload hF 1 rfl dL_randomLinker_568 ?_
          obtain ⟨b89, h89, h⟩ := gbnd h
          obtain ⟨i89h, g89, l89, q_b89⟩ := aldr_sp q_b88 h89
          refine g_aald hF q_b88 (Or.inr (Or.inr (Or.inl ⟨rfl, rfl⟩))) i89h g89 dL_randomLinker_570 ?_
          refine g_aload hF 5 rfl dL_randomLinker_571 ?_
          obtain ⟨b90, h90, h⟩ := gbnd h
          obtain ⟨g90, l90, q_b90⟩ := ldr_sp h90
          refine g_get_r hF g90 fl_RL_161 q_75 dL_randomLinker_573 ?_
          refine g_iload hF 1 rfl dL_randomLinker_576 ?_
          obtain ⟨b91, h91, h⟩ := gbnd h
          obtain ⟨i91h, g91, l91, q_b91⟩ := aldr_sp q_b90 h91
          refine g_aald hF q_b90 (Or.inr (Or.inr (Or.inl ⟨rfl, rfl⟩))) i91h g91 dL_randomLinker_578 ?_
          obtain ⟨b92, h92, h⟩ := gbnd h
          obtain ⟨g92, l92, q_b92⟩ := ldr_sp h92
          refine g_get_r hF g92 fl_RL_198 q_b91 dL_randomLinker_579 ?_
          refine g_iload hF 0 rfl dL_randomLinker_582 ?_
          obtain ⟨x93, h93, h⟩ := gbnd h
          obtain ⟨c93, s93, h, ec93, es93⟩ := cadd_sp h
          refine g_callS hF my_L_with kw_1099 kw_1100 (c_L_with (d := d - 1) (by omega) q_b92 (trip h93)) (by omega) (by omega) (by omega) rfl rfl (Nat.le_of_ble_eq_true rfl) dL_randomLinker_584 (g_madeS (gOld_i (gOld_i (gOld_r (gT_lt q_72) (gOld_r (gT_lt q_73) (gOld_r (gT_lt q_74) (gOld_r (gT_lt q_75) (gOld_i (gOld_i gOld_0)))))))) (gOld_r (gT_lt q_b89) gOld_0) (fun ad93 e93 y93 => ?_))
          have X93 := gExt.tr gExt.rf e93
          have W93 := gad_call y93 gExt.rf (fun _ _ => rfl)
          have q_94 := e93 _ _ q_72
          have q_95 := e93 _ _ q_73
          have q_96 := e93 _ _ q_74
          have q_97 := e93 _ _ q_75
          have q_98 := e93 _ _ q_b89
          obtain ⟨_, h99, h⟩ := gbnd h
          obtain ⟨l99, q_99⟩ := gkd_sp h99
          refine g_put_r hF (fun _ => rfl) (fun _ => rfl) (gT_lt q_99) fl_RL_198 q_98 dL_randomLinker_587 ?_
          refine g_aload_n hF 2 rfl rfl dL_randomLinker_590 ?_
          refine g_aload_n hF 3 rfl rfl dL_randomLinker_591 ?_
          refine g_ldcS (tx := "prefer ") (a := gSB + 24) hF (by decide +kernel) (Nat.le_add_right _ _) dL_randomLinker_592 ?_
          obtain ⟨x100, h100, h⟩ := gbnd h
          refine g_callS hF my_L_write kw_1106 kw_1107 (c_L_write (d := d - 1) (by omega) q_94 q_95 (gStr_c (i := 24) (by decide)) h100) (by omega) (by omega) (by omega) rfl rfl (Nat.le_of_ble_eq_true rfl) dL_randomLinker_594 (g_sameN ?_)
          refine g_aload_n hF 2 rfl rfl dL_randomLinker_597 ?_
          refine g_aload_n hF 3 rfl rfl dL_randomLinker_598 ?_
          refine g_iload hF 1 rfl dL_randomLinker_599 ?_
          refine g_iconst (v := (0 : Int32)) hF rfl dL_randomLinker_601 ?_
          obtain ⟨x101, h101, h⟩ := gbnd h
          obtain ⟨c101, s101, h, ec101, es101⟩ := cadd_sp h
          refine g_callS hF my_L_wordOf kw_1126 kw_1127 (c_L_wordOf (d := d - 1) (by omega)  (trip h101)) (by omega) (by omega) (by omega) rfl rfl (Nat.le_of_ble_eq_true rfl) dL_randomLinker_602 (g_madeS (gOld_i (gOld_i (gOld_r (gT_lt q_94) (gOld_r (gT_lt q_95) (gOld_r (gT_lt q_96) (gOld_r (gT_lt q_97) (gOld_i (gOld_i gOld_0)))))))) (gOld_r (gT_lt q_95) (gOld_r (gT_lt q_94) gOld_0)) (fun ad101 e101 y101 => ?_))
          have X101 := gExt.tr X93 e101
          have W101 := gad_call y101 X93 W93
          have q_102 := e101 _ _ q_94
          have q_103 := e101 _ _ q_95
          have q_104 := e101 _ _ q_96
          have q_105 := e101 _ _ q_97
          obtain ⟨_, h106, h⟩ := gbnd h
          have q_106 := gks_sp h106
          obtain ⟨x107, h107, h⟩ := gbnd h
          refine g_callS hF my_L_write kw_1106 kw_1107 (c_L_write (d := d - 1) (by omega) q_102 q_103 q_106 h107) (by omega) (by omega) (by omega) rfl rfl (Nat.le_of_ble_eq_true rfl) dL_randomLinker_605 (g_sameN ?_)
          refine g_aload_n hF 2 rfl rfl dL_randomLinker_608 ?_
          refine g_aload_n hF 3 rfl rfl dL_randomLinker_609 ?_
          refine g_ldcS (tx := " ") (a := gSB + 19) hF (by decide +kernel) (Nat.le_add_right _ _) dL_randomLinker_610 ?_
          obtain ⟨x108, h108, h⟩ := gbnd h
          refine g_callS hF my_L_write kw_1106 kw_1107 (c_L_write (d := d - 1) (by omega) q_102 q_103 (gStr_c (i := 19) (by decide)) h108) (by omega) (by omega) (by omega) rfl rfl (Nat.le_of_ble_eq_true rfl) dL_randomLinker_612 (g_sameN ?_)
          refine g_aload_n hF 2 rfl rfl dL_randomLinker_615 ?_
          refine g_aload_n hF 3 rfl rfl dL_randomLinker_616 ?_
          refine g_iload hF 0 rfl dL_randomLinker_617 ?_
          refine g_iconst (v := (0 : Int32)) hF rfl dL_randomLinker_619 ?_
          obtain ⟨x109, h109, h⟩ := gbnd h
          obtain ⟨c109, s109, h, ec109, es109⟩ := cadd_sp h
          refine g_callS hF my_L_wordOf kw_1126 kw_1127 (c_L_wordOf (d := d - 1) (by omega)  (trip h109)) (by omega) (by omega) (by omega) rfl rfl (Nat.le_of_ble_eq_true rfl) dL_randomLinker_620 (g_madeS (gOld_i (gOld_i (gOld_r (gT_lt q_102) (gOld_r (gT_lt q_103) (gOld_r (gT_lt q_104) (gOld_r (gT_lt q_105) (gOld_i (gOld_i gOld_0)))))))) (gOld_r (gT_lt q_103) (gOld_r (gT_lt q_102) gOld_0)) (fun ad109 e109 y109 => ?_))
          have X109 := gExt.tr X101 e109
          have W109 := gad_call y109 X101 W101
          have q_110 := e109 _ _ q_102
          have q_111 := e109 _ _ q_103
          have q_112 := e109 _ _ q_104
          have q_113 := e109 _ _ q_105
          obtain ⟨_, h114, h⟩ := gbnd h
          have q_114 := gks_sp h114
          obtain ⟨x115, h115, h⟩ := gbnd h
          refine g_callS hF my_L_write kw_1106 kw_1107 (c_L_write (d := d - 1) (by omega) q_110 q_111 q_114 h115) (by omega) (by omega) (by omega) rfl rfl (Nat.le_of_ble_eq_true rfl) dL_randomLinker_623 (g_sameN ?_)
          refine g_aload_n hF 2 rfl rfl dL_randomLinker_626 ?_
          refine g_aload_n hF 3 rfl rfl dL_randomLinker_627 ?_
          refine g_ldcS (tx := " ;") (a := gSB + 25) hF (by decide +kernel) (Nat.le_add_right _ _) dL_randomLinker_628 ?_
          obtain ⟨x116, h116, h⟩ := gbnd h
          refine g_callS hF my_L_write kw_1106 kw_1107 (c_L_write (d := d - 1) (by omega) q_110 q_111 (gStr_c (i := 25) (by decide)) h116) (by omega) (by omega) (by omega) rfl rfl (Nat.le_of_ble_eq_true rfl) dL_randomLinker_630 (g_sameN ?_)
          exact gG_sub [2, 3, 4, 5, 6, 7] rfl (t_L_randomLinker_633 hF hn hd (by omega) (by omega) q_110 q_111 q_112 q_113 h (fun v9 ad1 ce1 so1 q9 x1 y1 => hE v9 ad1 ce1 so1 q9 (gExt.tr X109 x1) (gad_call y1 X109 W109)) (fun v9 ad1 ce1 so1 q9 x1 y1 => hN v9 ad1 ce1 so1 q9 (gExt.tr X109 x1) (gad_call y1 X109 W109)))
        · replace h := gif_f c87 h
          refine g_goto (tgt := 633) hF dL_randomLinker_560 (by decide) ?_
          exact gG_sub [2, 3, 4, 5, 6, 7] rfl (t_L_randomLinker_633 hF hn hd (by omega) (by omega) q_72 q_73 q_74 q_75 h (fun v9 ad1 ce1 so1 q9 x1 y1 => hE v9 ad1 ce1 so1 q9 (gExt.tr gExt.rf x1) (gad_call y1 gExt.rf (fun _ _ => rfl))) (fun v9 ad1 ce1 so1 q9 x1 y1 => hN v9 ad1 ce1 so1 q9 (gExt.tr gExt.rf x1) (gad_call y1 gExt.rf (fun _ _ => rfl))))
theorem t_L_randomLinker_L507 {Z : gZ} {d mc ms : Nat} {Acc : Option Value → (Nat → Nat) → gT → gM → Prop} {AccX : Nat → (Nat → Nat) → gT → gM → Prop} {K KS : Nat} {a0 : Nat} {a1 : Nat} {a2 : Nat} {a5 : Nat} {i6 : Int32} (hF : gFix Z cL_randomLinker RL "randomLinker" (some (.object RX10)) d mc ms Acc AccX) (hn : Z.2.2.2.2.2.1 = 11) (hd : 59 ≤ d) : ∀ (n9 : Nat) {ad : Nat → Nat} {x0 : Int32 × gT × gM} {e0 : gT × gM} {ce so c9 s9 : Nat}, gloopc (fun x : Int32 × gT × gM => f_L_randomLinker_B507 x.2.1 x.2.2 a0 a1 a2 a5 i6 x.1) n9 x0 = some (e0, c9, s9) → ce + c9 + K ≤ mc → so + s9 + KS ≤ ms → ∀ (hE : ∀ (e9 : gT × gM) (ad1 : Nat → Nat) (ce1 so1 : Nat), e0 = e9 → gExt x0.2.1 e9.1 → (∀ a : Nat, a < x0.2.1.length → ad1 a = ad a) → ce1 + K ≤ mc → so1 + KS ≤ ms → gG Z ad1 e9.1 e9.2 ce1 so1 639 [(0, .ref a0), (1, .ref a1), (2, .ref a2), (5, .ref a5), (6, .int i6)] []), gG Z ad x0.2.1 x0.2.2 ce so 507 [(0, .ref a0), (1, .ref a1), (2, .ref a2), (5, .ref a5), (6, .int i6), (7, .int x0.1)] []
  | 0 => fun h => nomatch h
  | n9 + 1 => fun h hk1 hk2 hE => by
    rcases gloopc_sp h with hB | ⟨a9, c1, s1, c2, s2, hB, h2, e1, e2⟩
    · exact t_L_randomLinker_B507 (K := K) (KS := KS) hF hn hd hk1 hk2 hB (fun e9 ad1 ce1 so1 q9 => hE e9 ad1 ce1 so1 (Sum.inl.inj q9)) (fun n8 ad1 ce1 so1 q9 => nomatch q9)
    · exact t_L_randomLinker_B507 (K := c2 + K) (KS := s2 + KS) hF hn hd (by omega) (by omega) hB (fun e9 ad1 ce1 so1 q9 => nomatch q9) (fun n8 ad1 ce1 so1 q9 x9 y9 k1 k2 => by rw [← Sum.inr.inj q9] at x9 ⊢; exact t_L_randomLinker_L507 (K := K) (KS := KS) hF hn hd n9 h2 (by omega) (by omega) (fun e9 ad2 ce2 so2 q8 x2 y2 => hE e9 ad2 ce2 so2 q8 (gExt.tr x9 x2) (gad_call y2 x9 y9)))
theorem t_L_randomLinker_B301 {Z : gZ} {d mc ms : Nat} {Acc : Option Value → (Nat → Nat) → gT → gM → Prop} {AccX : Nat → (Nat → Nat) → gT → gM → Prop} {ad : Nat → Nat} {T : gT} {M : gM} {ce so c9 s9 K KS : Nat}  {a0 : Nat} {a1 : Nat} {a2 : Nat} {a5 : Nat} {i6 : Int32} {i7 : Int32} {o : (gT × gM) ⊕ (Int32 × gT × gM)} (hF : gFix Z cL_randomLinker RL "randomLinker" (some (.object RX10)) d mc ms Acc AccX) (hn : Z.2.2.2.2.2.1 = 11) (hd : 59 ≤ d) (hk1 : ce + c9 + K ≤ mc) (hk2 : so + s9 + KS ≤ ms)  (h : f_L_randomLinker_B301 T M a0 a1 a2 a5 i6 i7 = some (o, c9, s9)) (hE : ∀ (e9 : gT × gM) (ad1 : Nat → Nat) (ce1 so1 : Nat), o = .inl e9 → gExt T e9.1 → (∀ a : Nat, a < T.length → ad1 a = ad a) → ce1 + K ≤ mc → so1 + KS ≤ ms → gG Z ad1 e9.1 e9.2 ce1 so1 499 [(0, .ref a0), (1, .ref a1), (2, .ref a2), (5, .ref a5), (6, .int i6)] []) (hN : ∀ (n9 : Int32 × gT × gM) (ad1 : Nat → Nat) (ce1 so1 : Nat), o = .inr n9 → gExt T n9.2.1 → (∀ a : Nat, a < T.length → ad1 a = ad a) → ce1 + K ≤ mc → so1 + KS ≤ ms → gG Z ad1 n9.2.1 n9.2.2 ce1 so1 301 [(0, .ref a0), (1, .ref a1), (2, .ref a2), (5, .ref a5), (6, .int i6), (7, .int n9.1)] []) : gG Z ad T M ce so 301 [(0, .ref a0), (1, .ref a1), (2, .ref a2), (5, .ref a5), (6, .int i6), (7, .int i7)] [] := by
  unfold f_L_randomLinker_B301 at h
  obtain ⟨_, h117, h⟩ := gbnd h
  obtain ⟨l117, q_117⟩ := gkd_sp h117
  obtain ⟨_, h118, h⟩ := gbnd h
  obtain ⟨l118, q_118⟩ := gkd_sp h118
  obtain ⟨_, h119, h⟩ := gbnd h
  obtain ⟨l119, q_119⟩ := gkd_sp h119
  obtain ⟨_, h120, h⟩ := gbnd h
  obtain ⟨l120, q_120⟩ := gkd_sp h120
  refine g_iload hF 5 rfl dL_randomLinker_301 ?_
  refine g_if_le (tgt := 499) hF dL_randomLinker_303 (by decide) (fun c123 => ?_) (fun c123 => ?_)
  · replace h := gif_t c123 h
    cases h
    exact gG_sub [0, 1, 2, 3, 4] rfl (hE _ _ _ _ rfl gExt.rf (fun _ _ => rfl) (by omega) (by omega))
  · replace h := gif_f c123 h
    refine g_iload hF 4 rfl dL_randomLinker_306 ?_
    refine g_if_le (tgt := 499) hF dL_randomLinker_308 (by decide) (fun c124 => ?_) (fun c124 => ?_)
    · replace h := gif_t c124 h
      cases h
      exact gG_sub [0, 1, 2, 3, 4] rfl (hE _ _ _ _ rfl gExt.rf (fun _ _ => rfl) (by omega) (by omega))
    · replace h := gif_f c124 h
      refine g_aload hF 3 rfl dL_randomLinker_311 ?_
      refine g_get_i hF fl_RL_141 q_120 dL_randomLinker_313 ?_
      refine g_if_le (tgt := 499) hF dL_randomLinker_316 (by decide) (fun c125 => ?_) (fun c125 => ?_)
      · replace h := gif_t c125 h
        cases h
        exact gG_sub [0, 1, 2, 3, 4] rfl (hE _ _ _ _ rfl gExt.rf (fun _ _ => rfl) (by omega) (by omega))
      · replace h := gif_f c125 h
        refine g_aload_n hF 2 rfl rfl dL_randomLinker_319 ?_
        refine g_iload hF 4 rfl dL_randomLinker_320 ?_
        obtain ⟨x126, h126, h⟩ := gbnd h
        refine g_callV hF my_X12_below kw_636 kw_637 kw_638 gC_18.1 (by decide) q_119 (c_X12_below (d := d - 1) (by omega) q_119 h126) (by omega) (by omega) (by omega) rfl rfl (Nat.le_of_ble_eq_true rfl) dL_randomLinker_322 (g_sameS ?_)
        refine g_istore (ls' := [(8, .int x126.1), (0, .ref a0), (1, .ref a1), (2, .ref a2), (5, .ref a5), (6, .int i6), (7, .int i7)]) hF (by rw [hn]; decide) rfl dL_randomLinker_325 ?_
        refine g_aload_n hF 3 rfl rfl dL_randomLinker_327 ?_
        refine g_aload hF 4 rfl dL_randomLinker_328 ?_
        refine g_get_i hF fl_RL_141 q_120 dL_randomLinker_330 ?_
        obtain ⟨x127, h127, h⟩ := gbnd h
        refine g_callV hF my_X12_below kw_636 kw_637 kw_638 gC_18.1 (by decide) q_119 (c_X12_below (d := d - 1) (by omega) q_119 h127) (by omega) (by omega) (by omega) rfl rfl (Nat.le_of_ble_eq_true rfl) dL_randomLinker_333 (g_sameS ?_)
        refine g_istore (ls' := [(9, .int x127.1), (8, .int x126.1), (0, .ref a0), (1, .ref a1), (2, .ref a2), (5, .ref a5), (6, .int i6), (7, .int i7)]) hF (by rw [hn]; decide) rfl dL_randomLinker_336 ?_
        refine g_aload hF 5 rfl dL_randomLinker_338 ?_
        obtain ⟨b128, h128, h⟩ := gbnd h
        obtain ⟨g128, l128, q_b128⟩ := ldr_sp h128
        refine g_get_r hF g128 fl_RL_161 q_120 dL_randomLinker_340 ?_
        refine g_iload hF 1 rfl dL_randomLinker_343 ?_
        obtain ⟨b129, h129, h⟩ := gbnd h
        obtain ⟨i129h, g129, l129, q_b129⟩ := aldr_sp q_b128 h129
        refine g_aald hF q_b128 (Or.inr (Or.inr (Or.inl ⟨rfl, rfl⟩))) i129h g129 dL_randomLinker_345 ?_
        obtain ⟨b130, h130, h⟩ := gbnd h
        obtain ⟨g130, l130, q_b130⟩ := ldr_sp h130
        refine g_get_r hF g130 fl_RL_172 q_b129 dL_randomLinker_346 ?_
        refine g_iload hF 0 rfl dL_randomLinker_349 ?_
        obtain ⟨v131, h131, h⟩ := gbnd h
        obtain ⟨i131h, e131v⟩ := ald_sp q_b130 h131
        refine g_iald hF q_b130 i131h dL_randomLinker_351 ?_
        rw [← e131v]
        refine g_iconst (v := (-1 : Int32)) hF rfl dL_randomLinker_352 ?_
        refine g_icmp_eq (tgt := 359) hF dL_randomLinker_353 (by decide) (fun c132 => ?_) (fun c132 => ?_)
        · replace h := gif_t c132 h
          refine g_aload_n hF 4 rfl rfl dL_randomLinker_359 ?_
          refine g_iconst (v := (2 : Int32)) hF rfl dL_randomLinker_360 ?_
          obtain ⟨x133, h133, h⟩ := gbnd h
          refine g_callV hF my_X12_below kw_636 kw_637 kw_638 gC_18.1 (by decide) q_119 (c_X12_below (d := d - 1) (by omega) q_119 h133) (by omega) (by omega) (by omega) rfl rfl (Nat.le_of_ble_eq_true rfl) dL_randomLinker_361 (g_sameS ?_)
          refine g_if_ne (tgt := 377) hF dL_randomLinker_364 (by decide) (fun c134 => ?_) (fun c134 => ?_)
          · replace h := gif_t c134 h
            refine g_bipush (v := (-2 : Int32)) hF rfl dL_randomLinker_377 ?_
            refine g_aload_n hF 4 rfl rfl dL_randomLinker_379 ?_
            refine g_aload hF 5 rfl dL_randomLinker_380 ?_
            refine g_get_i hF fl_RL_141 q_120 dL_randomLinker_382 ?_
            obtain ⟨x135, h135, h⟩ := gbnd h
            refine g_callV hF my_X12_below kw_636 kw_637 kw_638 gC_18.1 (by decide) q_119 (c_X12_below (d := d - 1) (by omega) q_119 h135) (by omega) (by omega) (by omega) rfl rfl (Nat.le_of_ble_eq_true rfl) dL_randomLinker_385 (g_sameS ?_)
            refine g_isub hF dL_randomLinker_388 ?_
            exact gG_sub [2, 3, 4, 5, 6, 7, 1, 0] rfl (t_L_randomLinker_389 hF hn hd (by omega) (by omega) q_117 q_118 q_119 q_120 h (fun v9 ad1 ce1 so1 q9 x1 y1 => hE v9 ad1 ce1 so1 q9 (gExt.tr gExt.rf x1) (gad_call y1 gExt.rf (fun _ _ => rfl))) (fun v9 ad1 ce1 so1 q9 x1 y1 => hN v9 ad1 ce1 so1 q9 (gExt.tr gExt.rf x1) (gad_call y1 gExt.rf (fun _ _ => rfl))))
          · replace h := gif_n c134 h
            refine g_aload_n hF 4 rfl rfl dL_randomLinker_367 ?_
            refine g_sipush (v := (10000 : Int32)) hF rfl dL_randomLinker_368 ?_
            obtain ⟨x136, h136, h⟩ := gbnd h
            refine g_callV hF my_X12_below kw_636 kw_637 kw_638 gC_18.1 (by decide) q_119 (c_X12_below (d := d - 1) (by omega) q_119 h136) (by omega) (by omega) (by omega) rfl rfl (Nat.le_of_ble_eq_true rfl) dL_randomLinker_371 (g_sameS ?_)
            refine g_goto (tgt := 389) hF dL_randomLinker_374 (by decide) ?_
            exact gG_sub [2, 3, 4, 5, 6, 7, 1, 0] rfl (t_L_randomLinker_389 hF hn hd (by omega) (by omega) q_117 q_118 q_119 q_120 h (fun v9 ad1 ce1 so1 q9 x1 y1 => hE v9 ad1 ce1 so1 q9 (gExt.tr gExt.rf x1) (gad_call y1 gExt.rf (fun _ _ => rfl))) (fun v9 ad1 ce1 so1 q9 x1 y1 => hN v9 ad1 ce1 so1 q9 (gExt.tr gExt.rf x1) (gad_call y1 gExt.rf (fun _ _ => rfl))))
        · replace h := gif_f c132 h
          refine g_goto (tgt := 493) hF dL_randomLinker_356 (by decide) ?_
          exact gG_sub [2, 3, 4, 5, 6, 7] rfl (t_L_randomLinker_493 hF hn hd (by omega) (by omega) q_117 q_118 q_119 q_120 h (fun v9 ad1 ce1 so1 q9 x1 y1 => hE v9 ad1 ce1 so1 q9 (gExt.tr gExt.rf x1) (gad_call y1 gExt.rf (fun _ _ => rfl))) (fun v9 ad1 ce1 so1 q9 x1 y1 => hN v9 ad1 ce1 so1 q9 (gExt.tr gExt.rf x1) (gad_call y1 gExt.rf (fun _ _ => rfl))))
theorem t_L_randomLinker_L301 {Z : gZ} {d mc ms : Nat} {Acc : Option Value → (Nat → Nat) → gT → gM → Prop} {AccX : Nat → (Nat → Nat) → gT → gM → Prop} {K KS : Nat} {a0 : Nat} {a1 : Nat} {a2 : Nat} {a5 : Nat} {i6 : Int32} (hF : gFix Z cL_randomLinker RL "randomLinker" (some (.object RX10)) d mc ms Acc AccX) (hn : Z.2.2.2.2.2.1 = 11) (hd : 59 ≤ d) : ∀ (n9 : Nat) {ad : Nat → Nat} {x0 : Int32 × gT × gM} {e0 : gT × gM} {ce so c9 s9 : Nat}, gloopc (fun x : Int32 × gT × gM => f_L_randomLinker_B301 x.2.1 x.2.2 a0 a1 a2 a5 i6 x.1) n9 x0 = some (e0, c9, s9) → ce + c9 + K ≤ mc → so + s9 + KS ≤ ms → ∀ (hE : ∀ (e9 : gT × gM) (ad1 : Nat → Nat) (ce1 so1 : Nat), e0 = e9 → gExt x0.2.1 e9.1 → (∀ a : Nat, a < x0.2.1.length → ad1 a = ad a) → ce1 + K ≤ mc → so1 + KS ≤ ms → gG Z ad1 e9.1 e9.2 ce1 so1 499 [(0, .ref a0), (1, .ref a1), (2, .ref a2), (5, .ref a5), (6, .int i6)] []), gG Z ad x0.2.1 x0.2.2 ce so 301 [(0, .ref a0), (1, .ref a1), (2, .ref a2), (5, .ref a5), (6, .int i6), (7, .int x0.1)] []
  | 0 => fun h => nomatch h
  | n9 + 1 => fun h hk1 hk2 hE => by
    rcases gloopc_sp h with hB | ⟨a9, c1, s1, c2, s2, hB, h2, e1, e2⟩
    · exact t_L_randomLinker_B301 (K := K) (KS := KS) hF hn hd hk1 hk2 hB (fun e9 ad1 ce1 so1 q9 => hE e9 ad1 ce1 so1 (Sum.inl.inj q9)) (fun n8 ad1 ce1 so1 q9 => nomatch q9)
    · exact t_L_randomLinker_B301 (K := c2 + K) (KS := s2 + KS) hF hn hd (by omega) (by omega) hB (fun e9 ad1 ce1 so1 q9 => nomatch q9) (fun n8 ad1 ce1 so1 q9 x9 y9 k1 k2 => by rw [← Sum.inr.inj q9] at x9 ⊢; exact t_L_randomLinker_L301 (K := K) (KS := KS) hF hn hd n9 h2 (by omega) (by omega) (fun e9 ad2 ce2 so2 q8 x2 y2 => hE e9 ad2 ce2 so2 q8 (gExt.tr x9 x2) (gad_call y2 x9 y9)))
theorem t_L_randomLinker_B95 {Z : gZ} {d mc ms : Nat} {Acc : Option Value → (Nat → Nat) → gT → gM → Prop} {AccX : Nat → (Nat → Nat) → gT → gM → Prop} {ad : Nat → Nat} {T : gT} {M : gM} {ce so c9 s9 K KS : Nat}  {a0 : Nat} {a1 : Nat} {a2 : Nat} {a5 : Nat} {i6 : Int32} {i7 : Int32} {o : (gT × gM) ⊕ (Int32 × gT × gM)} (hF : gFix Z cL_randomLinker RL "randomLinker" (some (.object RX10)) d mc ms Acc AccX) (hn : Z.2.2.2.2.2.1 = 11) (hd : 59 ≤ d) (hk1 : ce + c9 + K ≤ mc) (hk2 : so + s9 + KS ≤ ms)  (h : f_L_randomLinker_B95 T M a0 a1 a2 a5 i6 i7 = some (o, c9, s9)) (hE : ∀ (e9 : gT × gM) (ad1 : Nat → Nat) (ce1 so1 : Nat), o = .inl e9 → gExt T e9.1 → (∀ a : Nat, a < T.length → ad1 a = ad a) → ce1 + K ≤ mc → so1 + KS ≤ ms → gG Z ad1 e9.1 e9.2 ce1 so1 293 [(0, .ref a0), (1, .ref a1), (2, .ref a2), (5, .ref a5), (6, .int i6)] []) (hN : ∀ (n9 : Int32 × gT × gM) (ad1 : Nat → Nat) (ce1 so1 : Nat), o = .inr n9 → gExt T n9.2.1 → (∀ a : Nat, a < T.length → ad1 a = ad a) → ce1 + K ≤ mc → so1 + KS ≤ ms → gG Z ad1 n9.2.1 n9.2.2 ce1 so1 95 [(0, .ref a0), (1, .ref a1), (2, .ref a2), (5, .ref a5), (6, .int i6), (7, .int n9.1)] []) : gG Z ad T M ce so 95 [(0, .ref a0), (1, .ref a1), (2, .ref a2), (5, .ref a5), (6, .int i6), (7, .int i7)] [] := by
  unfold f_L_randomLinker_B95 at h
  obtain ⟨_, h137, h⟩ := gbnd h
  obtain ⟨l137, q_137⟩ := gkd_sp h137
  obtain ⟨_, h138, h⟩ := gbnd h
  obtain ⟨l138, q_138⟩ := gkd_sp h138
  obtain ⟨_, h139, h⟩ := gbnd h
  obtain ⟨l139, q_139⟩ := gkd_sp h139
  obtain ⟨_, h140, h⟩ := gbnd h
  obtain ⟨l140, q_140⟩ := gkd_sp h140
  refine g_iload hF 5 rfl dL_randomLinker_95 ?_
  refine g_iload hF 4 rfl dL_randomLinker_97 ?_
  refine g_icmp_ge (tgt := 293) hF dL_randomLinker_99 (by decide) (fun c143 => ?_) (fun c143 => ?_)
  · replace h := gif_t c143 h
    cases h
    exact gG_sub [0, 1, 2, 3, 4] rfl (hE _ _ _ _ rfl gExt.rf (fun _ _ => rfl) (by omega) (by omega))
  · replace h := gif_f c143 h
    obtain ⟨x144, h144, h⟩ := gbnd h
    obtain ⟨c144, s144, h, ec144, es144⟩ := cadd_sp h
    have g144 : gnew T M (9, 0) = some (x144.1, x144.2.1, x144.2.2) := h144
    refine g_new hF gC_9 gDf_9 kw_1357 kw_534 kw_94 g144 (gnew_lt g144) (gFr_r (gT_ne q_137) (gFr_r (gT_ne q_138) (gFr_r (gT_ne q_139) (gFr_r (gT_ne q_140) (gFr_i (gFr_i gFr_0)))))) gFr_0 (by omega) (by omega) dL_randomLinker_102 (fun ad144 z144 => ?_)
    have y144 : ∀ b : Nat, b < T.length → ad144 b = ad b := fun b hb => z144 b (by rw [(gnew_sp g144).1]; omega)
    have X144 := gExt.tr gExt.rf (gnew_ext g144)
    have W144 := gad_call y144 gExt.rf (fun _ _ => rfl)
    have q_145 := (gnew_ext g144) _ _ q_137
    have q_146 := (gnew_ext g144) _ _ q_138
    have q_147 := (gnew_ext g144) _ _ q_139
    have q_148 := (gnew_ext g144) _ _ q_140
    have q_y144 := gnew_at g144
    refine g_dup hF rfl dL_randomLinker_105 ?_
    obtain ⟨x149, h149, h⟩ := gbnd h
    obtain ⟨c149, s149, h, ec149, es149⟩ := cadd_sp h
    refine g_callIN hF my_X9_init kn_1358 kw_536 rfl gC_9.1 (by decide) q_y144 (c_X9_init (d := d - 1) (by omega) q_y144 (trip h149)) (by omega) (by omega) (by omega) rfl rfl (Nat.le_of_ble_eq_true rfl) dL_randomLinker_106 (g_madeN (gOld_r (gT_lt q_145) (gOld_r (gT_lt q_146) (gOld_r (gT_lt q_147) (gOld_r (gT_lt q_148) (gOld_i (gOld_i gOld_0)))))) (gOld_r (gT_lt q_y144) gOld_0) (fun ad149 e149 y149 => ?_))
    have X149 := gExt.tr X144 e149
    have W149 := gad_call y149 X144 W144
    have q_150 := e149 _ _ q_145
    have q_151 := e149 _ _ q_146
    have q_152 := e149 _ _ q_147
    have q_153 := e149 _ _ q_148
    have q_154 := e149 _ _ q_y144
    refine g_astore (ls' := [(8, .ref x144.1), (0, .ref a0), (1, .ref a1), (2, .ref a2), (5, .ref a5), (6, .int i6), (7, .int i7)]) hF (by rw [hn]; decide) rfl dL_randomLinker_109 ?_
    refine g_aload hF 0 rfl dL_randomLinker_111 ?_
    refine g_aload_n hF 3 rfl rfl dL_randomLinker_113 ?_
    refine g_aload_n hF 3 rfl rfl dL_randomLinker_114 ?_
    refine g_iconst (v := (3 : Int32)) hF rfl dL_randomLinker_115 ?_
    obtain ⟨x155, h155, h⟩ := gbnd h
    refine g_callV hF my_X12_below kw_636 kw_637 kw_638 gC_18.1 (by decide) q_152 (c_X12_below (d := d - 1) (by omega) q_152 h155) (by omega) (by omega) (by omega) rfl rfl (Nat.le_of_ble_eq_true rfl) dL_randomLinker_116 (g_sameS ?_)
    refine g_if_ne (tgt := 128) hF dL_randomLinker_119 (by decide) (fun c156 => ?_) (fun c156 => ?_)
    · replace h := gif_t c156 h
      refine g_bipush (v := (6 : Int32)) hF rfl dL_randomLinker_128 ?_
      exact gG_sub [1, 2, 3, 4, 5, 6, 0] rfl (t_L_randomLinker_130 hF hn hd (by omega) (by omega) q_150 q_151 q_152 q_153 q_154 q_154 q_152 h (fun v9 ad1 ce1 so1 q9 x1 y1 => hE v9 ad1 ce1 so1 q9 (gExt.tr X149 x1) (gad_call y1 X149 W149)) (fun v9 ad1 ce1 so1 q9 x1 y1 => hN v9 ad1 ce1 so1 q9 (gExt.tr X149 x1) (gad_call y1 X149 W149)))
    · replace h := gif_n c156 h
      refine g_sipush (v := (1000 : Int32)) hF rfl dL_randomLinker_122 ?_
      refine g_goto (tgt := 130) hF dL_randomLinker_125 (by decide) ?_
      exact gG_sub [1, 2, 3, 4, 5, 6, 0] rfl (t_L_randomLinker_130 hF hn hd (by omega) (by omega) q_150 q_151 q_152 q_153 q_154 q_154 q_152 h (fun v9 ad1 ce1 so1 q9 x1 y1 => hE v9 ad1 ce1 so1 q9 (gExt.tr X149 x1) (gad_call y1 X149 W149)) (fun v9 ad1 ce1 so1 q9 x1 y1 => hN v9 ad1 ce1 so1 q9 (gExt.tr X149 x1) (gad_call y1 X149 W149)))
theorem t_L_randomLinker_L95 {Z : gZ} {d mc ms : Nat} {Acc : Option Value → (Nat → Nat) → gT → gM → Prop} {AccX : Nat → (Nat → Nat) → gT → gM → Prop} {K KS : Nat} {a0 : Nat} {a1 : Nat} {a2 : Nat} {a5 : Nat} {i6 : Int32} (hF : gFix Z cL_randomLinker RL "randomLinker" (some (.object RX10)) d mc ms Acc AccX) (hn : Z.2.2.2.2.2.1 = 11) (hd : 59 ≤ d) : ∀ (n9 : Nat) {ad : Nat → Nat} {x0 : Int32 × gT × gM} {e0 : gT × gM} {ce so c9 s9 : Nat}, gloopc (fun x : Int32 × gT × gM => f_L_randomLinker_B95 x.2.1 x.2.2 a0 a1 a2 a5 i6 x.1) n9 x0 = some (e0, c9, s9) → ce + c9 + K ≤ mc → so + s9 + KS ≤ ms → ∀ (hE : ∀ (e9 : gT × gM) (ad1 : Nat → Nat) (ce1 so1 : Nat), e0 = e9 → gExt x0.2.1 e9.1 → (∀ a : Nat, a < x0.2.1.length → ad1 a = ad a) → ce1 + K ≤ mc → so1 + KS ≤ ms → gG Z ad1 e9.1 e9.2 ce1 so1 293 [(0, .ref a0), (1, .ref a1), (2, .ref a2), (5, .ref a5), (6, .int i6)] []), gG Z ad x0.2.1 x0.2.2 ce so 95 [(0, .ref a0), (1, .ref a1), (2, .ref a2), (5, .ref a5), (6, .int i6), (7, .int x0.1)] []
  | 0 => fun h => nomatch h
  | n9 + 1 => fun h hk1 hk2 hE => by
    rcases gloopc_sp h with hB | ⟨a9, c1, s1, c2, s2, hB, h2, e1, e2⟩
    · exact t_L_randomLinker_B95 (K := K) (KS := KS) hF hn hd hk1 hk2 hB (fun e9 ad1 ce1 so1 q9 => hE e9 ad1 ce1 so1 (Sum.inl.inj q9)) (fun n8 ad1 ce1 so1 q9 => nomatch q9)
    · exact t_L_randomLinker_B95 (K := c2 + K) (KS := s2 + KS) hF hn hd (by omega) (by omega) hB (fun e9 ad1 ce1 so1 q9 => nomatch q9) (fun n8 ad1 ce1 so1 q9 x9 y9 k1 k2 => by rw [← Sum.inr.inj q9] at x9 ⊢; exact t_L_randomLinker_L95 (K := K) (KS := KS) hF hn hd n9 h2 (by omega) (by omega) (fun e9 ad2 ce2 so2 q8 x2 y2 => hE e9 ad2 ce2 so2 q8 (gExt.tr x9 x2) (gad_call y2 x9 y9)))
theorem t_L_randomLinker_B31 {Z : gZ} {d mc ms : Nat} {Acc : Option Value → (Nat → Nat) → gT → gM → Prop} {AccX : Nat → (Nat → Nat) → gT → gM → Prop} {ad : Nat → Nat} {T : gT} {M : gM} {ce so c9 s9 K KS : Nat}  {a0 : Nat} {a1 : Nat} {a2 : Nat} {i4 : Int32} {a5 : Nat} {i6 : Int32} {o : (gT × gM) ⊕ (Int32 × gT × gM)} (hF : gFix Z cL_randomLinker RL "randomLinker" (some (.object RX10)) d mc ms Acc AccX) (hn : Z.2.2.2.2.2.1 = 11) (hd : 59 ≤ d) (hk1 : ce + c9 + K ≤ mc) (hk2 : so + s9 + KS ≤ ms)  (h : f_L_randomLinker_B31 T M a0 a1 a2 i4 a5 i6 = some (o, c9, s9)) (hE : ∀ (e9 : gT × gM) (ad1 : Nat → Nat) (ce1 so1 : Nat), o = .inl e9 → gExt T e9.1 → (∀ a : Nat, a < T.length → ad1 a = ad a) → ce1 + K ≤ mc → so1 + KS ≤ ms → gG Z ad1 e9.1 e9.2 ce1 so1 72 [(0, .ref a0), (1, .ref a1), (2, .ref a2), (4, .int i4), (5, .ref a5)] []) (hN : ∀ (n9 : Int32 × gT × gM) (ad1 : Nat → Nat) (ce1 so1 : Nat), o = .inr n9 → gExt T n9.2.1 → (∀ a : Nat, a < T.length → ad1 a = ad a) → ce1 + K ≤ mc → so1 + KS ≤ ms → gG Z ad1 n9.2.1 n9.2.2 ce1 so1 31 [(0, .ref a0), (1, .ref a1), (2, .ref a2), (4, .int i4), (5, .ref a5), (6, .int n9.1)] []) : gG Z ad T M ce so 31 [(0, .ref a0), (1, .ref a1), (2, .ref a2), (4, .int i4), (5, .ref a5), (6, .int i6)] [] := by
  unfold f_L_randomLinker_B31 at h
  obtain ⟨_, h157, h⟩ := gbnd h
  obtain ⟨l157, q_157⟩ := gkd_sp h157
  obtain ⟨_, h158, h⟩ := gbnd h
  obtain ⟨l158, q_158⟩ := gkd_sp h158
  obtain ⟨_, h159, h⟩ := gbnd h
  obtain ⟨l159, q_159⟩ := gkd_sp h159
  obtain ⟨_, h161, h⟩ := gbnd h
  obtain ⟨l161, q_161⟩ := gkd_sp h161
  refine g_iload hF 5 rfl dL_randomLinker_31 ?_
  refine g_aload hF 4 rfl dL_randomLinker_33 ?_
  refine g_get_i hF fl_RL_141 q_161 dL_randomLinker_35 ?_
  refine g_icmp_ge (tgt := 72) hF dL_randomLinker_38 (by decide) (fun c163 => ?_) (fun c163 => ?_)
  · replace h := gif_t c163 h
    cases h
    exact gG_sub [0, 1, 2, 3, 4] rfl (hE _ _ _ _ rfl gExt.rf (fun _ _ => rfl) (by omega) (by omega))
  · replace h := gif_f c163 h
    refine g_aload_n hF 0 rfl rfl dL_randomLinker_41 ?_
    refine g_aload_n hF 1 rfl rfl dL_randomLinker_42 ?_
    refine g_ldcS (tx := "name ") (a := gSB + 14) hF (by decide +kernel) (Nat.le_add_right _ _) dL_randomLinker_43 ?_
    obtain ⟨x164, h164, h⟩ := gbnd h
    refine g_callS hF my_L_write kw_1106 kw_1107 (c_L_write (d := d - 1) (by omega) q_157 q_158 (gStr_c (i := 14) (by decide)) h164) (by omega) (by omega) (by omega) rfl rfl (Nat.le_of_ble_eq_true rfl) dL_randomLinker_45 (g_sameN ?_)
    refine g_aload_n hF 0 rfl rfl dL_randomLinker_48 ?_
    refine g_aload_n hF 1 rfl rfl dL_randomLinker_49 ?_
    refine g_iload hF 5 rfl dL_randomLinker_50 ?_
    refine g_iconst (v := (1 : Int32)) hF rfl dL_randomLinker_52 ?_
    obtain ⟨x165, h165, h⟩ := gbnd h
    obtain ⟨c165, s165, h, ec165, es165⟩ := cadd_sp h
    refine g_callS hF my_L_wordOf kw_1126 kw_1127 (c_L_wordOf (d := d - 1) (by omega)  (trip h165)) (by omega) (by omega) (by omega) rfl rfl (Nat.le_of_ble_eq_true rfl) dL_randomLinker_53 (g_madeS (gOld_r (gT_lt q_157) (gOld_r (gT_lt q_158) (gOld_r (gT_lt q_159) (gOld_i (gOld_r (gT_lt q_161) (gOld_i gOld_0)))))) (gOld_r (gT_lt q_158) (gOld_r (gT_lt q_157) gOld_0)) (fun ad165 e165 y165 => ?_))
    have X165 := gExt.tr gExt.rf e165
    have W165 := gad_call y165 gExt.rf (fun _ _ => rfl)
    have q_166 := e165 _ _ q_157
    have q_167 := e165 _ _ q_158
    have q_168 := e165 _ _ q_159
    have q_169 := e165 _ _ q_161
    obtain ⟨_, h170, h⟩ := gbnd h
    have q_170 := gks_sp h170
    obtain ⟨x171, h171, h⟩ := gbnd h
    refine g_callS hF my_L_write kw_1106 kw_1107 (c_L_write (d := d - 1) (by omega) q_166 q_167 q_170 h171) (by omega) (by omega) (by omega) rfl rfl (Nat.le_of_ble_eq_true rfl) dL_randomLinker_56 (g_sameN ?_)
    refine g_aload_n hF 0 rfl rfl dL_randomLinker_59 ?_
    refine g_aload_n hF 1 rfl rfl dL_randomLinker_60 ?_
    refine g_ldcS (tx := ";") (a := gSB + 17) hF (by decide +kernel) (Nat.le_add_right _ _) dL_randomLinker_61 ?_
    obtain ⟨x172, h172, h⟩ := gbnd h
    refine g_callS hF my_L_write kw_1106 kw_1107 (c_L_write (d := d - 1) (by omega) q_166 q_167 (gStr_c (i := 17) (by decide)) h172) (by omega) (by omega) (by omega) rfl rfl (Nat.le_of_ble_eq_true rfl) dL_randomLinker_63 (g_sameN ?_)
    refine g_iinc (n := 1) (v := (i6 + (1 : Int32))) (ls' := [(6, .int (i6 + (1 : Int32))), (0, .ref a0), (1, .ref a1), (2, .ref a2), (4, .int i4), (5, .ref a5)]) hF 5 rfl rfl (by rw [hn]; decide) rfl dL_randomLinker_66 ?_
    refine g_goto (tgt := 31) hF dL_randomLinker_69 (by decide) ?_
    cases h
    exact gG_sub [1, 2, 3, 4, 5, 0] rfl (hN _ _ _ _ rfl X165 W165 (by omega) (by omega))
theorem t_L_randomLinker_L31 {Z : gZ} {d mc ms : Nat} {Acc : Option Value → (Nat → Nat) → gT → gM → Prop} {AccX : Nat → (Nat → Nat) → gT → gM → Prop} {K KS : Nat} {a0 : Nat} {a1 : Nat} {a2 : Nat} {i4 : Int32} {a5 : Nat} (hF : gFix Z cL_randomLinker RL "randomLinker" (some (.object RX10)) d mc ms Acc AccX) (hn : Z.2.2.2.2.2.1 = 11) (hd : 59 ≤ d) : ∀ (n9 : Nat) {ad : Nat → Nat} {x0 : Int32 × gT × gM} {e0 : gT × gM} {ce so c9 s9 : Nat}, gloopc (fun x : Int32 × gT × gM => f_L_randomLinker_B31 x.2.1 x.2.2 a0 a1 a2 i4 a5 x.1) n9 x0 = some (e0, c9, s9) → ce + c9 + K ≤ mc → so + s9 + KS ≤ ms → ∀ (hE : ∀ (e9 : gT × gM) (ad1 : Nat → Nat) (ce1 so1 : Nat), e0 = e9 → gExt x0.2.1 e9.1 → (∀ a : Nat, a < x0.2.1.length → ad1 a = ad a) → ce1 + K ≤ mc → so1 + KS ≤ ms → gG Z ad1 e9.1 e9.2 ce1 so1 72 [(0, .ref a0), (1, .ref a1), (2, .ref a2), (4, .int i4), (5, .ref a5)] []), gG Z ad x0.2.1 x0.2.2 ce so 31 [(0, .ref a0), (1, .ref a1), (2, .ref a2), (4, .int i4), (5, .ref a5), (6, .int x0.1)] []
  | 0 => fun h => nomatch h
  | n9 + 1 => fun h hk1 hk2 hE => by
    rcases gloopc_sp h with hB | ⟨a9, c1, s1, c2, s2, hB, h2, e1, e2⟩
    · exact t_L_randomLinker_B31 (K := K) (KS := KS) hF hn hd hk1 hk2 hB (fun e9 ad1 ce1 so1 q9 => hE e9 ad1 ce1 so1 (Sum.inl.inj q9)) (fun n8 ad1 ce1 so1 q9 => nomatch q9)
    · exact t_L_randomLinker_B31 (K := c2 + K) (KS := s2 + KS) hF hn hd (by omega) (by omega) hB (fun e9 ad1 ce1 so1 q9 => nomatch q9) (fun n8 ad1 ce1 so1 q9 x9 y9 k1 k2 => by rw [← Sum.inr.inj q9] at x9 ⊢; exact t_L_randomLinker_L31 (K := K) (KS := KS) hF hn hd n9 h2 (by omega) (by omega) (fun e9 ad2 ce2 so2 q8 x2 y2 => hE e9 ad2 ce2 so2 q8 (gExt.tr x9 x2) (gad_call y2 x9 y9)))
