theorem t_L_law_1112 {Z : gZ} {d mc ms : Nat} {ad : Nat → Nat} {T : gT} {M : gM} {ce so c9 s9 K KS : Nat} {n : Nat} {f : Nat → Int32} {nm : String} {m_a3 m_a5 m_a6 m_a7 m_a10 : Nat} {i2 : Int32} {a3 : Nat} {a5 : Nat} {a6 : Nat} {a7 : Nat} {i8 : Int32} {i9 : Int32} {a10 : Nat} {i12 : Int32} {i13 : Int32} {i15 : Int32} {o : (Int32 × Int32 × gT × gM) ⊕ (Int32 × Int32 × Int32 × gT × gM)} (hFL : gFixL Z cL_law RL nm (some .boolean) d mc ms (fun v _ _ _ => v = some (.int 1)) (fun _ _ _ _ => False) n f) (hn : Z.2.2.2.2.2.1 = 31) (hd : 60 ≤ d) (hk1 : ce + c9 + K ≤ mc) (hk2 : so + s9 + KS ≤ ms) (q3 : T[a3]? = some (8, m_a3)) (q5 : T[a5]? = some (18, m_a5)) (q6 : T[a6]? = some (16, m_a6)) (q7 : T[a7]? = some (22, m_a7)) (q10 : T[a10]? = some (16, m_a10)) (h : f_L_law_1112 n f T M i2 a3 a5 a6 a7 i8 i9 a10 i12 i13 i15 = some (o, c9, s9)) (hE : ∀ (e9 : Int32 × Int32 × gT × gM) (ad1 : Nat → Nat) (ce1 so1 : Nat), o = .inl e9 → gExt T e9.2.2.1 → (∀ a : Nat, a < T.length → ad1 a = ad a) → ce1 + K ≤ mc → so1 + KS ≤ ms → gG Z ad1 e9.2.2.1 e9.2.2.2 ce1 so1 1195 [(0, .ref (gSB + 3000)), (1, .int e9.1), (2, .int i2), (3, .ref a3), (7, .ref a7), (8, .int e9.2.1)] []) (hN : ∀ (n9 : Int32 × Int32 × Int32 × gT × gM) (ad1 : Nat → Nat) (ce1 so1 : Nat), o = .inr n9 → gExt T n9.2.2.2.1 → (∀ a : Nat, a < T.length → ad1 a = ad a) → ce1 + K ≤ mc → so1 + KS ≤ ms → gG Z ad1 n9.2.2.2.1 n9.2.2.2.2 ce1 so1 192 [(0, .ref (gSB + 3000)), (1, .int n9.1), (2, .int i2), (3, .ref a3), (5, .ref a5), (6, .ref a6), (7, .ref a7), (8, .int n9.2.1), (9, .int n9.2.2.1)] []) : gG Z ad T M ce so 1112 [(0, .ref (gSB + 3000)), (2, .int i2), (3, .ref a3), (5, .ref a5), (6, .ref a6), (7, .ref a7), (8, .int i8), (9, .int i9), (10, .ref a10), (12, .int i12), (13, .int i13), (15, .int i15)] [] := by
  have hF := hFL.fix
  unfold f_L_law_1112 at h
  refine g_aload_n hF 2 rfl rfl dL_law_1112 ?_
  refine g_iload hF 11 rfl dL_law_1113 ?_
  obtain ⟨x43, h43, h⟩ := gbnd h
  obtain ⟨c43, s43, h, ec43, es43⟩ := cadd_sp h
  refine g_callSW hF (n := 2) kw_1038 kw_64 rfl (by decide +kernel) (by decide +kernel) (by decide) kw_1036 kw_1037 (c_L_reload (d := d - 1) (by omega) q3 h43) (by omega) (by omega) (by omega) rfl rfl (Nat.le_of_ble_eq_true rfl) dL_law_1115 (g_sameS ?_)
  refine g_iload hF 10 rfl dL_law_1118 ?_
  refine g_icmp_ne (tgt := 1127) hF dL_law_1120 (by decide) (fun c44 => ?_) (fun c44 => ?_)
  · replace h := gif_t c44 h
    refine g_iconst (v := (0 : Int32)) hF rfl dL_law_1127 ?_
    exact gG_sub [0, 1, 2, 3, 4, 5, 6, 7, 8, 9] rfl (t_L_law_1128 hFL hn hd (by omega) (by omega) q3 q5 q6 q7 q10 h (fun v9 ad1 ce1 so1 q9 x1 y1 => hE v9 ad1 ce1 so1 q9 (gExt.tr gExt.rf x1) (gad_call y1 gExt.rf (fun _ _ => rfl))) (fun v9 ad1 ce1 so1 q9 x1 y1 => hN v9 ad1 ce1 so1 q9 (gExt.tr gExt.rf x1) (gad_call y1 gExt.rf (fun _ _ => rfl))))
  · replace h := gif_n c44 h
    refine g_iconst (v := (1 : Int32)) hF rfl dL_law_1123 ?_
    refine g_goto (tgt := 1128) hF dL_law_1124 (by decide) ?_
    exact gG_sub [0, 1, 2, 3, 4, 5, 6, 7, 8, 9] rfl (t_L_law_1128 hFL hn hd (by omega) (by omega) q3 q5 q6 q7 q10 h (fun v9 ad1 ce1 so1 q9 x1 y1 => hE v9 ad1 ce1 so1 q9 (gExt.tr gExt.rf x1) (gad_call y1 gExt.rf (fun _ _ => rfl))) (fun v9 ad1 ce1 so1 q9 x1 y1 => hN v9 ad1 ce1 so1 q9 (gExt.tr gExt.rf x1) (gad_call y1 gExt.rf (fun _ _ => rfl))))
theorem t_L_law_1081 {Z : gZ} {d mc ms : Nat} {ad : Nat → Nat} {T : gT} {M : gM} {ce so c9 s9 K KS : Nat} {n : Nat} {f : Nat → Int32} {nm : String} {m_a3 m_a5 m_a6 m_a7 m_a10 m_a11 : Nat} {i2 : Int32} {a3 : Nat} {a5 : Nat} {a6 : Nat} {a7 : Nat} {i8 : Int32} {i9 : Int32} {a10 : Nat} {a11 : Nat} {i12 : Int32} {i13 : Int32} {i15 : Int32} {o : (Int32 × Int32 × gT × gM) ⊕ (Int32 × Int32 × Int32 × gT × gM)} (hFL : gFixL Z cL_law RL nm (some .boolean) d mc ms (fun v _ _ _ => v = some (.int 1)) (fun _ _ _ _ => False) n f) (hn : Z.2.2.2.2.2.1 = 31) (hd : 60 ≤ d) (hk1 : ce + c9 + K ≤ mc) (hk2 : so + s9 + KS ≤ ms) (q3 : T[a3]? = some (8, m_a3)) (q5 : T[a5]? = some (18, m_a5)) (q6 : T[a6]? = some (16, m_a6)) (q7 : T[a7]? = some (22, m_a7)) (q10 : T[a10]? = some (16, m_a10)) (q11 : T[a11]? = some (15, m_a11)) (h : f_L_law_1081 n f T M i2 a3 a5 a6 a7 i8 i9 a10 a11 i12 i13 i15 = some (o, c9, s9)) (hE : ∀ (e9 : Int32 × Int32 × gT × gM) (ad1 : Nat → Nat) (ce1 so1 : Nat), o = .inl e9 → gExt T e9.2.2.1 → (∀ a : Nat, a < T.length → ad1 a = ad a) → ce1 + K ≤ mc → so1 + KS ≤ ms → gG Z ad1 e9.2.2.1 e9.2.2.2 ce1 so1 1195 [(0, .ref (gSB + 3000)), (1, .int e9.1), (2, .int i2), (3, .ref a3), (7, .ref a7), (8, .int e9.2.1)] []) (hN : ∀ (n9 : Int32 × Int32 × Int32 × gT × gM) (ad1 : Nat → Nat) (ce1 so1 : Nat), o = .inr n9 → gExt T n9.2.2.2.1 → (∀ a : Nat, a < T.length → ad1 a = ad a) → ce1 + K ≤ mc → so1 + KS ≤ ms → gG Z ad1 n9.2.2.2.1 n9.2.2.2.2 ce1 so1 192 [(0, .ref (gSB + 3000)), (1, .int n9.1), (2, .int i2), (3, .ref a3), (5, .ref a5), (6, .ref a6), (7, .ref a7), (8, .int n9.2.1), (9, .int n9.2.2.1)] []) : gG Z ad T M ce so 1081 [(0, .ref (gSB + 3000)), (2, .int i2), (3, .ref a3), (5, .ref a5), (6, .ref a6), (7, .ref a7), (8, .int i8), (9, .int i9), (10, .ref a10), (11, .ref a11), (12, .int i12), (13, .int i13), (15, .int i15)] [] := by
  have hF := hFL.fix
  unfold f_L_law_1081 at h
  refine g_iload hF 10 rfl dL_law_1081 ?_
  refine g_if_eq (tgt := 1112) hF dL_law_1083 (by decide) (fun c45 => ?_) (fun c45 => ?_)
  · replace h := gif_t c45 h
    exact gG_sub [0, 1, 2, 3, 4, 5, 6, 7, 8, 10, 11, 12] rfl (t_L_law_1112 hFL hn hd (by omega) (by omega) q3 q5 q6 q7 q10 h (fun v9 ad1 ce1 so1 q9 x1 y1 => hE v9 ad1 ce1 so1 q9 (gExt.tr gExt.rf x1) (gad_call y1 gExt.rf (fun _ _ => rfl))) (fun v9 ad1 ce1 so1 q9 x1 y1 => hN v9 ad1 ce1 so1 q9 (gExt.tr gExt.rf x1) (gad_call y1 gExt.rf (fun _ _ => rfl))))
  · replace h := gif_f c45 h
    refine g_aload hF 4 rfl dL_law_1086 ?_
    refine g_aload hF 4 rfl dL_law_1088 ?_
    obtain ⟨b46, h46, h⟩ := gbnd h
    obtain ⟨g46, l46, q_b46⟩ := ldr_sp h46
    refine g_get_r hF g46 fl_RL_187 q6 dL_law_1090 ?_
    refine g_iload hF 12 rfl dL_law_1093 ?_
    obtain ⟨x47, h47, h⟩ := gbnd h
    obtain ⟨c47, s47, h, ec47, es47⟩ := cadd_sp h
    refine g_callS hF my_L_with kw_1099 kw_1100 (c_L_with (d := d - 1) (by omega) q_b46 (trip h47)) (by omega) (by omega) (by omega) rfl rfl (Nat.le_of_ble_eq_true rfl) dL_law_1095 (g_madeS (gOld_s (Nat.le_add_right _ _) (gOld_i (gOld_r (gT_lt q3) (gOld_r (gT_lt q5) (gOld_r (gT_lt q6) (gOld_r (gT_lt q7) (gOld_i (gOld_i (gOld_r (gT_lt q10) (gOld_r (gT_lt q11) (gOld_i (gOld_i (gOld_i gOld_0))))))))))))) (gOld_r (gT_lt q6) gOld_0) (fun ad47 e47 y47 => ?_))
    have X47 := gExt.tr gExt.rf e47
    have W47 := gad_call y47 gExt.rf (fun _ _ => rfl)
    have q_48 := e47 _ _ q3
    have q_49 := e47 _ _ q5
    have q_50 := e47 _ _ q6
    have q_51 := e47 _ _ q7
    have q_52 := e47 _ _ q10
    have q_53 := e47 _ _ q11
    obtain ⟨_, h54, h⟩ := gbnd h
    obtain ⟨l54, q_54⟩ := gkd_sp h54
    refine g_put_r hF (fun _ => rfl) (fun _ => rfl) (gT_lt q_54) fl_RL_187 q_50 dL_law_1098 ?_
    refine g_aload hF 4 rfl dL_law_1101 ?_
    refine g_aload hF 9 rfl dL_law_1103 ?_
    refine g_iload hF 12 rfl dL_law_1105 ?_
    obtain ⟨x55, h55, h⟩ := gbnd h
    obtain ⟨c55, s55, h, ec55, es55⟩ := cadd_sp h
    refine g_callV hF my_X10_changed kw_622 kw_623 kw_624 gC_16.1 (by decide) q_50 (c_X10_changed (d := d - 1) (by omega) q_50 q_53 (trip h55)) (by omega) (by omega) (by omega) rfl rfl (Nat.le_of_ble_eq_true rfl) dL_law_1107 (g_madeS (gOld_s (Nat.le_add_right _ _) (gOld_i (gOld_r (gT_lt q_48) (gOld_r (gT_lt q_49) (gOld_r (gT_lt q_50) (gOld_r (gT_lt q_51) (gOld_i (gOld_i (gOld_r (gT_lt q_52) (gOld_r (gT_lt q_53) (gOld_i (gOld_i (gOld_i gOld_0))))))))))))) gOld_0 (fun ad55 e55 y55 => ?_))
    have X55 := gExt.tr X47 e55
    have W55 := gad_call y55 X47 W47
    have q_56 := e55 _ _ q_48
    have q_57 := e55 _ _ q_49
    have q_58 := e55 _ _ q_50
    have q_59 := e55 _ _ q_51
    have q_60 := e55 _ _ q_52
    have q_61 := e55 _ _ q_53
    refine g_istore (ls' := [(13, .int x55.1.1), (0, .ref (gSB + 3000)), (2, .int i2), (3, .ref a3), (5, .ref a5), (6, .ref a6), (7, .ref a7), (8, .int i8), (9, .int i9), (10, .ref a10), (11, .ref a11), (12, .int i12), (15, .int i15)]) hF (by rw [hn]; decide) rfl dL_law_1110 ?_
    exact gG_sub [1, 2, 3, 4, 5, 6, 7, 8, 9, 11, 0, 12] rfl (t_L_law_1112 hFL hn hd (by omega) (by omega) q_56 q_57 q_58 q_59 q_60 h (fun v9 ad1 ce1 so1 q9 x1 y1 => hE v9 ad1 ce1 so1 q9 (gExt.tr X55 x1) (gad_call y1 X55 W55)) (fun v9 ad1 ce1 so1 q9 x1 y1 => hN v9 ad1 ce1 so1 q9 (gExt.tr X55 x1) (gad_call y1 X55 W55)))
theorem t_L_law_1070 {Z : gZ} {d mc ms : Nat} {ad : Nat → Nat} {T : gT} {M : gM} {ce so c9 s9 K KS : Nat} {n : Nat} {f : Nat → Int32} {nm : String} {m_a3 m_a5 m_a6 m_a7 m_a10 m_a11 : Nat} {i2 : Int32} {a3 : Nat} {a5 : Nat} {a6 : Nat} {a7 : Nat} {i8 : Int32} {i9 : Int32} {a10 : Nat} {a11 : Nat} {i13 : Int32} {i15 : Int32} {i17 : Int32} {k0 : Int32} {o : (Int32 × Int32 × gT × gM) ⊕ (Int32 × Int32 × Int32 × gT × gM)} (hFL : gFixL Z cL_law RL nm (some .boolean) d mc ms (fun v _ _ _ => v = some (.int 1)) (fun _ _ _ _ => False) n f) (hn : Z.2.2.2.2.2.1 = 31) (hd : 60 ≤ d) (hk1 : ce + c9 + K ≤ mc) (hk2 : so + s9 + KS ≤ ms) (q3 : T[a3]? = some (8, m_a3)) (q5 : T[a5]? = some (18, m_a5)) (q6 : T[a6]? = some (16, m_a6)) (q7 : T[a7]? = some (22, m_a7)) (q10 : T[a10]? = some (16, m_a10)) (q11 : T[a11]? = some (15, m_a11)) (h : f_L_law_1070 n f T M i2 a3 a5 a6 a7 i8 i9 a10 a11 i13 i15 i17 k0 = some (o, c9, s9)) (hE : ∀ (e9 : Int32 × Int32 × gT × gM) (ad1 : Nat → Nat) (ce1 so1 : Nat), o = .inl e9 → gExt T e9.2.2.1 → (∀ a : Nat, a < T.length → ad1 a = ad a) → ce1 + K ≤ mc → so1 + KS ≤ ms → gG Z ad1 e9.2.2.1 e9.2.2.2 ce1 so1 1195 [(0, .ref (gSB + 3000)), (1, .int e9.1), (2, .int i2), (3, .ref a3), (7, .ref a7), (8, .int e9.2.1)] []) (hN : ∀ (n9 : Int32 × Int32 × Int32 × gT × gM) (ad1 : Nat → Nat) (ce1 so1 : Nat), o = .inr n9 → gExt T n9.2.2.2.1 → (∀ a : Nat, a < T.length → ad1 a = ad a) → ce1 + K ≤ mc → so1 + KS ≤ ms → gG Z ad1 n9.2.2.2.1 n9.2.2.2.2 ce1 so1 192 [(0, .ref (gSB + 3000)), (1, .int n9.1), (2, .int i2), (3, .ref a3), (5, .ref a5), (6, .ref a6), (7, .ref a7), (8, .int n9.2.1), (9, .int n9.2.2.1)] []) : gG Z ad T M ce so 1070 [(0, .ref (gSB + 3000)), (2, .int i2), (3, .ref a3), (5, .ref a5), (6, .ref a6), (7, .ref a7), (8, .int i8), (9, .int i9), (10, .ref a10), (11, .ref a11), (13, .int i13), (15, .int i15), (17, .int i17)] [.int k0] := by
  have hF := hFL.fix
  unfold f_L_law_1070 at h
  refine g_istore (ls' := [(12, .int k0), (0, .ref (gSB + 3000)), (2, .int i2), (3, .ref a3), (5, .ref a5), (6, .ref a6), (7, .ref a7), (8, .int i8), (9, .int i9), (10, .ref a10), (11, .ref a11), (13, .int i13), (15, .int i15), (17, .int i17)]) hF (by rw [hn]; decide) rfl dL_law_1070 ?_
  refine g_iload hF 13 rfl dL_law_1072 ?_
  refine g_if_eq (tgt := 1081) hF dL_law_1074 (by decide) (fun c62 => ?_) (fun c62 => ?_)
  · replace h := gif_t c62 h
    exact gG_sub [1, 2, 3, 4, 5, 6, 7, 8, 9, 10, 0, 11, 12] rfl (t_L_law_1081 hFL hn hd (by omega) (by omega) q3 q5 q6 q7 q10 q11 h (fun v9 ad1 ce1 so1 q9 x1 y1 => hE v9 ad1 ce1 so1 q9 (gExt.tr gExt.rf x1) (gad_call y1 gExt.rf (fun _ _ => rfl))) (fun v9 ad1 ce1 so1 q9 x1 y1 => hN v9 ad1 ce1 so1 q9 (gExt.tr gExt.rf x1) (gad_call y1 gExt.rf (fun _ _ => rfl))))
  · replace h := gif_f c62 h
    refine g_ldc (v := (-2000000099 : Int32)) hF kw_1035 dL_law_1077 ?_
    refine g_istore (ls' := [(13, .int (-2000000099 : Int32)), (12, .int k0), (0, .ref (gSB + 3000)), (2, .int i2), (3, .ref a3), (5, .ref a5), (6, .ref a6), (7, .ref a7), (8, .int i8), (9, .int i9), (10, .ref a10), (11, .ref a11), (15, .int i15), (17, .int i17)]) hF (by rw [hn]; decide) rfl dL_law_1079 ?_
    exact gG_sub [2, 3, 4, 5, 6, 7, 8, 9, 10, 11, 1, 0, 12] rfl (t_L_law_1081 hFL hn hd (by omega) (by omega) q3 q5 q6 q7 q10 q11 h (fun v9 ad1 ce1 so1 q9 x1 y1 => hE v9 ad1 ce1 so1 q9 (gExt.tr gExt.rf x1) (gad_call y1 gExt.rf (fun _ _ => rfl))) (fun v9 ad1 ce1 so1 q9 x1 y1 => hN v9 ad1 ce1 so1 q9 (gExt.tr gExt.rf x1) (gad_call y1 gExt.rf (fun _ _ => rfl))))
theorem t_L_law_1069 {Z : gZ} {d mc ms : Nat} {ad : Nat → Nat} {T : gT} {M : gM} {ce so c9 s9 K KS : Nat} {n : Nat} {f : Nat → Int32} {nm : String} {m_a3 m_a5 m_a6 m_a7 m_a10 m_a11 : Nat} {i2 : Int32} {a3 : Nat} {a5 : Nat} {a6 : Nat} {a7 : Nat} {i8 : Int32} {i9 : Int32} {a10 : Nat} {a11 : Nat} {i13 : Int32} {i15 : Int32} {i17 : Int32} {o : (Int32 × Int32 × gT × gM) ⊕ (Int32 × Int32 × Int32 × gT × gM)} (hFL : gFixL Z cL_law RL nm (some .boolean) d mc ms (fun v _ _ _ => v = some (.int 1)) (fun _ _ _ _ => False) n f) (hn : Z.2.2.2.2.2.1 = 31) (hd : 60 ≤ d) (hk1 : ce + c9 + K ≤ mc) (hk2 : so + s9 + KS ≤ ms) (q3 : T[a3]? = some (8, m_a3)) (q5 : T[a5]? = some (18, m_a5)) (q6 : T[a6]? = some (16, m_a6)) (q7 : T[a7]? = some (22, m_a7)) (q10 : T[a10]? = some (16, m_a10)) (q11 : T[a11]? = some (15, m_a11)) (h : f_L_law_1069 n f T M i2 a3 a5 a6 a7 i8 i9 a10 a11 i13 i15 i17 = some (o, c9, s9)) (hE : ∀ (e9 : Int32 × Int32 × gT × gM) (ad1 : Nat → Nat) (ce1 so1 : Nat), o = .inl e9 → gExt T e9.2.2.1 → (∀ a : Nat, a < T.length → ad1 a = ad a) → ce1 + K ≤ mc → so1 + KS ≤ ms → gG Z ad1 e9.2.2.1 e9.2.2.2 ce1 so1 1195 [(0, .ref (gSB + 3000)), (1, .int e9.1), (2, .int i2), (3, .ref a3), (7, .ref a7), (8, .int e9.2.1)] []) (hN : ∀ (n9 : Int32 × Int32 × Int32 × gT × gM) (ad1 : Nat → Nat) (ce1 so1 : Nat), o = .inr n9 → gExt T n9.2.2.2.1 → (∀ a : Nat, a < T.length → ad1 a = ad a) → ce1 + K ≤ mc → so1 + KS ≤ ms → gG Z ad1 n9.2.2.2.1 n9.2.2.2.2 ce1 so1 192 [(0, .ref (gSB + 3000)), (1, .int n9.1), (2, .int i2), (3, .ref a3), (5, .ref a5), (6, .ref a6), (7, .ref a7), (8, .int n9.2.1), (9, .int n9.2.2.1)] []) : gG Z ad T M ce so 1069 [(0, .ref (gSB + 3000)), (2, .int i2), (3, .ref a3), (5, .ref a5), (6, .ref a6), (7, .ref a7), (8, .int i8), (9, .int i9), (10, .ref a10), (11, .ref a11), (13, .int i13), (15, .int i15), (17, .int i17)] [] := by
  have hF := hFL.fix
  unfold f_L_law_1069 at h
  refine g_iconst (v := (0 : Int32)) hF rfl dL_law_1069 ?_
  exact gG_sub [0, 1, 2, 3, 4, 5, 6, 7, 8, 9, 10, 11, 12] rfl (t_L_law_1070 hFL hn hd (by omega) (by omega) q3 q5 q6 q7 q10 q11 h (fun v9 ad1 ce1 so1 q9 x1 y1 => hE v9 ad1 ce1 so1 q9 (gExt.tr gExt.rf x1) (gad_call y1 gExt.rf (fun _ _ => rfl))) (fun v9 ad1 ce1 so1 q9 x1 y1 => hN v9 ad1 ce1 so1 q9 (gExt.tr gExt.rf x1) (gad_call y1 gExt.rf (fun _ _ => rfl))))
theorem t_L_law_1046 {Z : gZ} {d mc ms : Nat} {ad : Nat → Nat} {T : gT} {M : gM} {ce so c9 s9 K KS : Nat} {n : Nat} {f : Nat → Int32} {nm : String} {m_a3 m_a5 m_a6 m_a7 m_a10 : Nat} {i2 : Int32} {a3 : Nat} {a5 : Nat} {a6 : Nat} {a7 : Nat} {i8 : Int32} {i9 : Int32} {a10 : Nat} {i12 : Int32} {k0 : Int32} {o : (Int32 × Int32 × gT × gM) ⊕ (Int32 × Int32 × Int32 × gT × gM)} (hFL : gFixL Z cL_law RL nm (some .boolean) d mc ms (fun v _ _ _ => v = some (.int 1)) (fun _ _ _ _ => False) n f) (hn : Z.2.2.2.2.2.1 = 31) (hd : 60 ≤ d) (hk1 : ce + c9 + K ≤ mc) (hk2 : so + s9 + KS ≤ ms) (q3 : T[a3]? = some (8, m_a3)) (q5 : T[a5]? = some (18, m_a5)) (q6 : T[a6]? = some (16, m_a6)) (q7 : T[a7]? = some (22, m_a7)) (q10 : T[a10]? = some (16, m_a10)) (h : f_L_law_1046 n f T M i2 a3 a5 a6 a7 i8 i9 a10 i12 k0 = some (o, c9, s9)) (hE : ∀ (e9 : Int32 × Int32 × gT × gM) (ad1 : Nat → Nat) (ce1 so1 : Nat), o = .inl e9 → gExt T e9.2.2.1 → (∀ a : Nat, a < T.length → ad1 a = ad a) → ce1 + K ≤ mc → so1 + KS ≤ ms → gG Z ad1 e9.2.2.1 e9.2.2.2 ce1 so1 1195 [(0, .ref (gSB + 3000)), (1, .int e9.1), (2, .int i2), (3, .ref a3), (7, .ref a7), (8, .int e9.2.1)] []) (hN : ∀ (n9 : Int32 × Int32 × Int32 × gT × gM) (ad1 : Nat → Nat) (ce1 so1 : Nat), o = .inr n9 → gExt T n9.2.2.2.1 → (∀ a : Nat, a < T.length → ad1 a = ad a) → ce1 + K ≤ mc → so1 + KS ≤ ms → gG Z ad1 n9.2.2.2.1 n9.2.2.2.2 ce1 so1 192 [(0, .ref (gSB + 3000)), (1, .int n9.1), (2, .int i2), (3, .ref a3), (5, .ref a5), (6, .ref a6), (7, .ref a7), (8, .int n9.2.1), (9, .int n9.2.2.1)] []) : gG Z ad T M ce so 1046 [(0, .ref (gSB + 3000)), (2, .int i2), (3, .ref a3), (5, .ref a5), (6, .ref a6), (7, .ref a7), (8, .int i8), (9, .int i9), (10, .ref a10), (12, .int i12)] [.int k0] := by
  have hF := hFL.fix
  unfold f_L_law_1046 at h
  refine g_istore_n (ls' := [(1, .int k0), (0, .ref (gSB + 3000)), (2, .int i2), (3, .ref a3), (5, .ref a5), (6, .ref a6), (7, .ref a7), (8, .int i8), (9, .int i9), (10, .ref a10), (12, .int i12)]) hF rfl (by rw [hn]; decide) rfl dL_law_1046 ?_
  refine g_goto (tgt := 1129) hF dL_law_1047 (by decide) ?_
  exact gG_sub [1, 0, 2, 3, 4, 5, 6, 7, 8, 9, 10] rfl (t_L_law_1129 hFL hn hd (by omega) (by omega) q3 q5 q6 q7 q10 h (fun v9 ad1 ce1 so1 q9 x1 y1 => hE v9 ad1 ce1 so1 q9 (gExt.tr gExt.rf x1) (gad_call y1 gExt.rf (fun _ _ => rfl))) (fun v9 ad1 ce1 so1 q9 x1 y1 => hN v9 ad1 ce1 so1 q9 (gExt.tr gExt.rf x1) (gad_call y1 gExt.rf (fun _ _ => rfl))))
theorem t_L_law_1030 {Z : gZ} {d mc ms : Nat} {ad : Nat → Nat} {T : gT} {M : gM} {ce so c9 s9 K KS : Nat} {n : Nat} {f : Nat → Int32} {nm : String} {m_a3 m_a5 m_a6 m_a7 m_a10 : Nat} {i2 : Int32} {a3 : Nat} {a5 : Nat} {a6 : Nat} {a7 : Nat} {i8 : Int32} {i9 : Int32} {a10 : Nat} {i12 : Int32} {i13 : Int32} {i15 : Int32} {o : (Int32 × Int32 × gT × gM) ⊕ (Int32 × Int32 × Int32 × gT × gM)} (hFL : gFixL Z cL_law RL nm (some .boolean) d mc ms (fun v _ _ _ => v = some (.int 1)) (fun _ _ _ _ => False) n f) (hn : Z.2.2.2.2.2.1 = 31) (hd : 60 ≤ d) (hk1 : ce + c9 + K ≤ mc) (hk2 : so + s9 + KS ≤ ms) (q3 : T[a3]? = some (8, m_a3)) (q5 : T[a5]? = some (18, m_a5)) (q6 : T[a6]? = some (16, m_a6)) (q7 : T[a7]? = some (22, m_a7)) (q10 : T[a10]? = some (16, m_a10)) (h : f_L_law_1030 n f T M i2 a3 a5 a6 a7 i8 i9 a10 i12 i13 i15 = some (o, c9, s9)) (hE : ∀ (e9 : Int32 × Int32 × gT × gM) (ad1 : Nat → Nat) (ce1 so1 : Nat), o = .inl e9 → gExt T e9.2.2.1 → (∀ a : Nat, a < T.length → ad1 a = ad a) → ce1 + K ≤ mc → so1 + KS ≤ ms → gG Z ad1 e9.2.2.1 e9.2.2.2 ce1 so1 1195 [(0, .ref (gSB + 3000)), (1, .int e9.1), (2, .int i2), (3, .ref a3), (7, .ref a7), (8, .int e9.2.1)] []) (hN : ∀ (n9 : Int32 × Int32 × Int32 × gT × gM) (ad1 : Nat → Nat) (ce1 so1 : Nat), o = .inr n9 → gExt T n9.2.2.2.1 → (∀ a : Nat, a < T.length → ad1 a = ad a) → ce1 + K ≤ mc → so1 + KS ≤ ms → gG Z ad1 n9.2.2.2.1 n9.2.2.2.2 ce1 so1 192 [(0, .ref (gSB + 3000)), (1, .int n9.1), (2, .int i2), (3, .ref a3), (5, .ref a5), (6, .ref a6), (7, .ref a7), (8, .int n9.2.1), (9, .int n9.2.2.1)] []) : gG Z ad T M ce so 1030 [(0, .ref (gSB + 3000)), (2, .int i2), (3, .ref a3), (5, .ref a5), (6, .ref a6), (7, .ref a7), (8, .int i8), (9, .int i9), (10, .ref a10), (12, .int i12), (13, .int i13), (15, .int i15)] [] := by
  have hF := hFL.fix
  unfold f_L_law_1030 at h
  refine g_aload_n hF 2 rfl rfl dL_law_1030 ?_
  refine g_iload hF 11 rfl dL_law_1031 ?_
  obtain ⟨x63, h63, h⟩ := gbnd h
  obtain ⟨c63, s63, h, ec63, es63⟩ := cadd_sp h
  refine g_callSW hF (n := 2) kw_1001 kw_64 rfl (by decide +kernel) (by decide +kernel) (by decide) kw_999 kw_1000 (c_L_unload (d := d - 1) (by omega) q3 h63) (by omega) (by omega) (by omega) rfl rfl (Nat.le_of_ble_eq_true rfl) dL_law_1033 (g_sameS ?_)
  refine g_iload hF 10 rfl dL_law_1036 ?_
  refine g_icmp_ne (tgt := 1045) hF dL_law_1038 (by decide) (fun c64 => ?_) (fun c64 => ?_)
  · replace h := gif_t c64 h
    refine g_iconst (v := (0 : Int32)) hF rfl dL_law_1045 ?_
    exact gG_sub [0, 1, 2, 3, 4, 5, 6, 7, 8, 9] rfl (t_L_law_1046 hFL hn hd (by omega) (by omega) q3 q5 q6 q7 q10 h (fun v9 ad1 ce1 so1 q9 x1 y1 => hE v9 ad1 ce1 so1 q9 (gExt.tr gExt.rf x1) (gad_call y1 gExt.rf (fun _ _ => rfl))) (fun v9 ad1 ce1 so1 q9 x1 y1 => hN v9 ad1 ce1 so1 q9 (gExt.tr gExt.rf x1) (gad_call y1 gExt.rf (fun _ _ => rfl))))
  · replace h := gif_n c64 h
    refine g_iconst (v := (1 : Int32)) hF rfl dL_law_1041 ?_
    refine g_goto (tgt := 1046) hF dL_law_1042 (by decide) ?_
    exact gG_sub [0, 1, 2, 3, 4, 5, 6, 7, 8, 9] rfl (t_L_law_1046 hFL hn hd (by omega) (by omega) q3 q5 q6 q7 q10 h (fun v9 ad1 ce1 so1 q9 x1 y1 => hE v9 ad1 ce1 so1 q9 (gExt.tr gExt.rf x1) (gad_call y1 gExt.rf (fun _ _ => rfl))) (fun v9 ad1 ce1 so1 q9 x1 y1 => hN v9 ad1 ce1 so1 q9 (gExt.tr gExt.rf x1) (gad_call y1 gExt.rf (fun _ _ => rfl))))
theorem t_L_law_952 {Z : gZ} {d mc ms : Nat} {ad : Nat → Nat} {T : gT} {M : gM} {ce so c9 s9 K KS : Nat} {n : Nat} {f : Nat → Int32} {nm : String} {m_a3 m_a5 m_a6 m_a7 m_a10 m_a11 : Nat} {i2 : Int32} {a3 : Nat} {a5 : Nat} {a6 : Nat} {a7 : Nat} {i8 : Int32} {i9 : Int32} {a10 : Nat} {a11 : Nat} {i12 : Int32} {i13 : Int32} {i15 : Int32} {o : (Int32 × Int32 × gT × gM) ⊕ (Int32 × Int32 × Int32 × gT × gM)} (hFL : gFixL Z cL_law RL nm (some .boolean) d mc ms (fun v _ _ _ => v = some (.int 1)) (fun _ _ _ _ => False) n f) (hn : Z.2.2.2.2.2.1 = 31) (hd : 60 ≤ d) (hk1 : ce + c9 + K ≤ mc) (hk2 : so + s9 + KS ≤ ms) (q3 : T[a3]? = some (8, m_a3)) (q5 : T[a5]? = some (18, m_a5)) (q6 : T[a6]? = some (16, m_a6)) (q7 : T[a7]? = some (22, m_a7)) (q10 : T[a10]? = some (16, m_a10)) (q11 : T[a11]? = some (15, m_a11)) (h : f_L_law_952 n f T M i2 a3 a5 a6 a7 i8 i9 a10 a11 i12 i13 i15 = some (o, c9, s9)) (hE : ∀ (e9 : Int32 × Int32 × gT × gM) (ad1 : Nat → Nat) (ce1 so1 : Nat), o = .inl e9 → gExt T e9.2.2.1 → (∀ a : Nat, a < T.length → ad1 a = ad a) → ce1 + K ≤ mc → so1 + KS ≤ ms → gG Z ad1 e9.2.2.1 e9.2.2.2 ce1 so1 1195 [(0, .ref (gSB + 3000)), (1, .int e9.1), (2, .int i2), (3, .ref a3), (7, .ref a7), (8, .int e9.2.1)] []) (hN : ∀ (n9 : Int32 × Int32 × Int32 × gT × gM) (ad1 : Nat → Nat) (ce1 so1 : Nat), o = .inr n9 → gExt T n9.2.2.2.1 → (∀ a : Nat, a < T.length → ad1 a = ad a) → ce1 + K ≤ mc → so1 + KS ≤ ms → gG Z ad1 n9.2.2.2.1 n9.2.2.2.2 ce1 so1 192 [(0, .ref (gSB + 3000)), (1, .int n9.1), (2, .int i2), (3, .ref a3), (5, .ref a5), (6, .ref a6), (7, .ref a7), (8, .int n9.2.1), (9, .int n9.2.2.1)] []) : gG Z ad T M ce so 952 [(0, .ref (gSB + 3000)), (2, .int i2), (3, .ref a3), (5, .ref a5), (6, .ref a6), (7, .ref a7), (8, .int i8), (9, .int i9), (10, .ref a10), (11, .ref a11), (12, .int i12), (13, .int i13), (15, .int i15)] [] := by
  have hF := hFL.fix
  unfold f_L_law_952 at h
  refine g_iload hF 10 rfl dL_law_952 ?_
  refine g_if_eq (tgt := 1030) hF dL_law_954 (by decide) (fun c65 => ?_) (fun c65 => ?_)
  · replace h := gif_t c65 h
    exact gG_sub [0, 1, 2, 3, 4, 5, 6, 7, 8, 10, 11, 12] rfl (t_L_law_1030 hFL hn hd (by omega) (by omega) q3 q5 q6 q7 q10 h (fun v9 ad1 ce1 so1 q9 x1 y1 => hE v9 ad1 ce1 so1 q9 (gExt.tr gExt.rf x1) (gad_call y1 gExt.rf (fun _ _ => rfl))) (fun v9 ad1 ce1 so1 q9 x1 y1 => hN v9 ad1 ce1 so1 q9 (gExt.tr gExt.rf x1) (gad_call y1 gExt.rf (fun _ _ => rfl))))
  · replace h := gif_f c65 h
    refine g_iconst (v := (0 : Int32)) hF rfl dL_law_957 ?_
    obtain ⟨x66, h66, h⟩ := gbnd h
    obtain ⟨c66, s66, h, ec66, es66⟩ := cadd_sp h
    have g66 : gnew T M (11, 0) = some (x66.1, x66.2.1, x66.2.2) := h66
    refine g_newa_int (N := 0) hF (by decide) (by decide) (by decide) kw_167 g66 (gnew_lt g66) (gFr_r (Nat.ne_of_gt (Nat.lt_of_lt_of_le (gnew_lt g66) (Nat.le_add_right _ _))) (gFr_i (gFr_r (gT_ne q3) (gFr_r (gT_ne q5) (gFr_r (gT_ne q6) (gFr_r (gT_ne q7) (gFr_i (gFr_i (gFr_r (gT_ne q10) (gFr_r (gT_ne q11) (gFr_i (gFr_i (gFr_i gFr_0))))))))))))) gFr_0 (by omega) (by omega) dL_law_958 (fun ad66 z66 => ?_)
    have y66 : ∀ b : Nat, b < T.length → ad66 b = ad b := fun b hb => z66 b (by rw [(gnew_sp g66).1]; omega)
    have X66 := gExt.tr gExt.rf (gnew_ext g66)
    have W66 := gad_call y66 gExt.rf (fun _ _ => rfl)
    have q_67 := (gnew_ext g66) _ _ q3
    have q_68 := (gnew_ext g66) _ _ q5
    have q_69 := (gnew_ext g66) _ _ q6
    have q_70 := (gnew_ext g66) _ _ q7
    have q_71 := (gnew_ext g66) _ _ q10
    have q_72 := (gnew_ext g66) _ _ q11
    have q_y66 := gnew_at g66
    refine g_astore (ls' := [(26, .ref x66.1), (0, .ref (gSB + 3000)), (2, .int i2), (3, .ref a3), (5, .ref a5), (6, .ref a6), (7, .ref a7), (8, .int i8), (9, .int i9), (10, .ref a10), (11, .ref a11), (12, .int i12), (13, .int i13), (15, .int i15)]) hF (by rw [hn]; decide) rfl dL_law_960 ?_
    refine g_aload hF 5 rfl dL_law_962 ?_
    obtain ⟨b73, h73, h⟩ := gbnd h
    obtain ⟨g73, l73, q_b73⟩ := ldr_sp h73
    refine g_get_r hF g73 fl_RL_187 q_69 dL_law_964 ?_
    refine g_astore (ls' := [(27, .ref b73), (26, .ref x66.1), (0, .ref (gSB + 3000)), (2, .int i2), (3, .ref a3), (5, .ref a5), (6, .ref a6), (7, .ref a7), (8, .int i8), (9, .int i9), (10, .ref a10), (11, .ref a11), (12, .int i12), (13, .int i13), (15, .int i15)]) hF (by rw [hn]; decide) rfl dL_law_967 ?_
    refine g_aload hF 0 rfl dL_law_969 ?_
    refine g_alenA hF q_b73 (by decide) dL_law_971 ?_
    refine g_istore (ls' := [(28, .int (Int32.ofNat (alen x66.2.1 b73))), (27, .ref b73), (26, .ref x66.1), (0, .ref (gSB + 3000)), (2, .int i2), (3, .ref a3), (5, .ref a5), (6, .ref a6), (7, .ref a7), (8, .int i8), (9, .int i9), (10, .ref a10), (11, .ref a11), (12, .int i12), (13, .int i13), (15, .int i15)]) hF (by rw [hn]; decide) rfl dL_law_972 ?_
    refine g_iconst (v := (0 : Int32)) hF rfl dL_law_974 ?_
    refine g_istore (ls' := [(29, .int (0 : Int32)), (28, .int (Int32.ofNat (alen x66.2.1 b73))), (27, .ref b73), (26, .ref x66.1), (0, .ref (gSB + 3000)), (2, .int i2), (3, .ref a3), (5, .ref a5), (6, .ref a6), (7, .ref a7), (8, .int i8), (9, .int i9), (10, .ref a10), (11, .ref a11), (12, .int i12), (13, .int i13), (15, .int i15)]) hF (by rw [hn]; decide) rfl dL_law_975 ?_
    obtain ⟨x74, h74, h⟩ := gbnd h
    obtain ⟨c74, s74, h, ec74, es74⟩ := cadd_sp h
    refine gG_sub [4, 5, 6, 7, 8, 9, 10, 11, 12, 13, 14, 16, 3, 2, 1, 0] rfl (t_L_law_L977 (K := c74 + K) (KS := s74 + KS) hFL hn hd gFU (trip h74) (by omega) (by omega) (fun e74 adE74 ceE74 soE74 qE74 xE74 yE74 kE74 kS74 => ?_))
    subst qE74
    have X74 := gExt.tr X66 xE74
    have W74 := gad_call yE74 X66 W66
    have q_75 := xE74 _ _ q_b73
    have q_76 := xE74 _ _ q_y66
    have q_77 := xE74 _ _ q_67
    have q_78 := xE74 _ _ q_68
    have q_79 := xE74 _ _ q_69
    have q_80 := xE74 _ _ q_70
    have q_81 := xE74 _ _ q_71
    have q_82 := xE74 _ _ q_72
    obtain ⟨_, h83, h⟩ := gbnd h
    obtain ⟨l83, q_83⟩ := gkd_sp h83
    refine g_aload hF 4 rfl dL_law_1013 ?_
    refine g_aload hF 12 rfl dL_law_1015 ?_
    refine g_put_r hF (fun _ => rfl) (fun _ => rfl) (gT_lt q_83) fl_RL_187 q_79 dL_law_1017 ?_
    refine g_aload hF 4 rfl dL_law_1020 ?_
    refine g_aload hF 9 rfl dL_law_1022 ?_
    refine g_iconst (v := (-1 : Int32)) hF rfl dL_law_1024 ?_
    obtain ⟨x84, h84, h⟩ := gbnd h
    obtain ⟨c84, s84, h, ec84, es84⟩ := cadd_sp h
    refine g_callV hF my_X10_changed kw_622 kw_623 kw_624 gC_16.1 (by decide) q_79 (c_X10_changed (d := d - 1) (by omega) q_79 q_82 (trip h84)) (by omega) (by omega) (by omega) rfl rfl (Nat.le_of_ble_eq_true rfl) dL_law_1025 (g_madeS (gOld_s (Nat.le_add_right _ _) (gOld_i (gOld_r (gT_lt q_77) (gOld_r (gT_lt q_78) (gOld_r (gT_lt q_79) (gOld_r (gT_lt q_80) (gOld_i (gOld_i (gOld_r (gT_lt q_81) (gOld_r (gT_lt q_82) (gOld_i (gOld_i (gOld_r (gT_lt q_83) gOld_0))))))))))))) gOld_0 (fun ad84 e84 y84 => ?_))
    have X84 := gExt.tr X74 e84
    have W84 := gad_call y84 X74 W74
    have q_85 := e84 _ _ q_77
    have q_86 := e84 _ _ q_78
    have q_87 := e84 _ _ q_79
    have q_88 := e84 _ _ q_80
    have q_89 := e84 _ _ q_81
    have q_90 := e84 _ _ q_82
    have q_91 := e84 _ _ q_83
    refine g_istore (ls' := [(13, .int x84.1.1), (0, .ref (gSB + 3000)), (2, .int i2), (3, .ref a3), (5, .ref a5), (6, .ref a6), (7, .ref a7), (8, .int i8), (9, .int i9), (10, .ref a10), (11, .ref a11), (12, .int i12), (15, .int i15), (26, .ref x74.1.1)]) hF (by rw [hn]; decide) rfl dL_law_1028 ?_
    exact gG_sub [1, 2, 3, 4, 5, 6, 7, 8, 9, 11, 0, 12] rfl (t_L_law_1030 hFL hn hd (by omega) (by omega) q_85 q_86 q_87 q_88 q_89 h (fun v9 ad1 ce1 so1 q9 x1 y1 => hE v9 ad1 ce1 so1 q9 (gExt.tr X84 x1) (gad_call y1 X84 W84)) (fun v9 ad1 ce1 so1 q9 x1 y1 => hN v9 ad1 ce1 so1 q9 (gExt.tr X84 x1) (gad_call y1 X84 W84)))
theorem t_L_law_941 {Z : gZ} {d mc ms : Nat} {ad : Nat → Nat} {T : gT} {M : gM} {ce so c9 s9 K KS : Nat} {n : Nat} {f : Nat → Int32} {nm : String} {m_a3 m_a5 m_a6 m_a7 m_a10 m_a11 : Nat} {i2 : Int32} {a3 : Nat} {a5 : Nat} {a6 : Nat} {a7 : Nat} {i8 : Int32} {i9 : Int32} {a10 : Nat} {a11 : Nat} {i13 : Int32} {i15 : Int32} {i17 : Int32} {k0 : Int32} {o : (Int32 × Int32 × gT × gM) ⊕ (Int32 × Int32 × Int32 × gT × gM)} (hFL : gFixL Z cL_law RL nm (some .boolean) d mc ms (fun v _ _ _ => v = some (.int 1)) (fun _ _ _ _ => False) n f) (hn : Z.2.2.2.2.2.1 = 31) (hd : 60 ≤ d) (hk1 : ce + c9 + K ≤ mc) (hk2 : so + s9 + KS ≤ ms) (q3 : T[a3]? = some (8, m_a3)) (q5 : T[a5]? = some (18, m_a5)) (q6 : T[a6]? = some (16, m_a6)) (q7 : T[a7]? = some (22, m_a7)) (q10 : T[a10]? = some (16, m_a10)) (q11 : T[a11]? = some (15, m_a11)) (h : f_L_law_941 n f T M i2 a3 a5 a6 a7 i8 i9 a10 a11 i13 i15 i17 k0 = some (o, c9, s9)) (hE : ∀ (e9 : Int32 × Int32 × gT × gM) (ad1 : Nat → Nat) (ce1 so1 : Nat), o = .inl e9 → gExt T e9.2.2.1 → (∀ a : Nat, a < T.length → ad1 a = ad a) → ce1 + K ≤ mc → so1 + KS ≤ ms → gG Z ad1 e9.2.2.1 e9.2.2.2 ce1 so1 1195 [(0, .ref (gSB + 3000)), (1, .int e9.1), (2, .int i2), (3, .ref a3), (7, .ref a7), (8, .int e9.2.1)] []) (hN : ∀ (n9 : Int32 × Int32 × Int32 × gT × gM) (ad1 : Nat → Nat) (ce1 so1 : Nat), o = .inr n9 → gExt T n9.2.2.2.1 → (∀ a : Nat, a < T.length → ad1 a = ad a) → ce1 + K ≤ mc → so1 + KS ≤ ms → gG Z ad1 n9.2.2.2.1 n9.2.2.2.2 ce1 so1 192 [(0, .ref (gSB + 3000)), (1, .int n9.1), (2, .int i2), (3, .ref a3), (5, .ref a5), (6, .ref a6), (7, .ref a7), (8, .int n9.2.1), (9, .int n9.2.2.1)] []) : gG Z ad T M ce so 941 [(0, .ref (gSB + 3000)), (2, .int i2), (3, .ref a3), (5, .ref a5), (6, .ref a6), (7, .ref a7), (8, .int i8), (9, .int i9), (10, .ref a10), (11, .ref a11), (13, .int i13), (15, .int i15), (17, .int i17)] [.int k0] := by
  have hF := hFL.fix
  unfold f_L_law_941 at h
  refine g_istore (ls' := [(12, .int k0), (0, .ref (gSB + 3000)), (2, .int i2), (3, .ref a3), (5, .ref a5), (6, .ref a6), (7, .ref a7), (8, .int i8), (9, .int i9), (10, .ref a10), (11, .ref a11), (13, .int i13), (15, .int i15), (17, .int i17)]) hF (by rw [hn]; decide) rfl dL_law_941 ?_
  refine g_iload hF 13 rfl dL_law_943 ?_
  refine g_if_eq (tgt := 952) hF dL_law_945 (by decide) (fun c92 => ?_) (fun c92 => ?_)
  · replace h := gif_t c92 h
    exact gG_sub [1, 2, 3, 4, 5, 6, 7, 8, 9, 10, 0, 11, 12] rfl (t_L_law_952 hFL hn hd (by omega) (by omega) q3 q5 q6 q7 q10 q11 h (fun v9 ad1 ce1 so1 q9 x1 y1 => hE v9 ad1 ce1 so1 q9 (gExt.tr gExt.rf x1) (gad_call y1 gExt.rf (fun _ _ => rfl))) (fun v9 ad1 ce1 so1 q9 x1 y1 => hN v9 ad1 ce1 so1 q9 (gExt.tr gExt.rf x1) (gad_call y1 gExt.rf (fun _ _ => rfl))))
  · replace h := gif_f c92 h
    refine g_ldc (v := (-2000000099 : Int32)) hF kw_1035 dL_law_948 ?_
    refine g_istore (ls' := [(13, .int (-2000000099 : Int32)), (12, .int k0), (0, .ref (gSB + 3000)), (2, .int i2), (3, .ref a3), (5, .ref a5), (6, .ref a6), (7, .ref a7), (8, .int i8), (9, .int i9), (10, .ref a10), (11, .ref a11), (15, .int i15), (17, .int i17)]) hF (by rw [hn]; decide) rfl dL_law_950 ?_
    exact gG_sub [2, 3, 4, 5, 6, 7, 8, 9, 10, 11, 1, 0, 12] rfl (t_L_law_952 hFL hn hd (by omega) (by omega) q3 q5 q6 q7 q10 q11 h (fun v9 ad1 ce1 so1 q9 x1 y1 => hE v9 ad1 ce1 so1 q9 (gExt.tr gExt.rf x1) (gad_call y1 gExt.rf (fun _ _ => rfl))) (fun v9 ad1 ce1 so1 q9 x1 y1 => hN v9 ad1 ce1 so1 q9 (gExt.tr gExt.rf x1) (gad_call y1 gExt.rf (fun _ _ => rfl))))
theorem t_L_law_940 {Z : gZ} {d mc ms : Nat} {ad : Nat → Nat} {T : gT} {M : gM} {ce so c9 s9 K KS : Nat} {n : Nat} {f : Nat → Int32} {nm : String} {m_a3 m_a5 m_a6 m_a7 m_a10 m_a11 : Nat} {i2 : Int32} {a3 : Nat} {a5 : Nat} {a6 : Nat} {a7 : Nat} {i8 : Int32} {i9 : Int32} {a10 : Nat} {a11 : Nat} {i13 : Int32} {i15 : Int32} {i17 : Int32} {o : (Int32 × Int32 × gT × gM) ⊕ (Int32 × Int32 × Int32 × gT × gM)} (hFL : gFixL Z cL_law RL nm (some .boolean) d mc ms (fun v _ _ _ => v = some (.int 1)) (fun _ _ _ _ => False) n f) (hn : Z.2.2.2.2.2.1 = 31) (hd : 60 ≤ d) (hk1 : ce + c9 + K ≤ mc) (hk2 : so + s9 + KS ≤ ms) (q3 : T[a3]? = some (8, m_a3)) (q5 : T[a5]? = some (18, m_a5)) (q6 : T[a6]? = some (16, m_a6)) (q7 : T[a7]? = some (22, m_a7)) (q10 : T[a10]? = some (16, m_a10)) (q11 : T[a11]? = some (15, m_a11)) (h : f_L_law_940 n f T M i2 a3 a5 a6 a7 i8 i9 a10 a11 i13 i15 i17 = some (o, c9, s9)) (hE : ∀ (e9 : Int32 × Int32 × gT × gM) (ad1 : Nat → Nat) (ce1 so1 : Nat), o = .inl e9 → gExt T e9.2.2.1 → (∀ a : Nat, a < T.length → ad1 a = ad a) → ce1 + K ≤ mc → so1 + KS ≤ ms → gG Z ad1 e9.2.2.1 e9.2.2.2 ce1 so1 1195 [(0, .ref (gSB + 3000)), (1, .int e9.1), (2, .int i2), (3, .ref a3), (7, .ref a7), (8, .int e9.2.1)] []) (hN : ∀ (n9 : Int32 × Int32 × Int32 × gT × gM) (ad1 : Nat → Nat) (ce1 so1 : Nat), o = .inr n9 → gExt T n9.2.2.2.1 → (∀ a : Nat, a < T.length → ad1 a = ad a) → ce1 + K ≤ mc → so1 + KS ≤ ms → gG Z ad1 n9.2.2.2.1 n9.2.2.2.2 ce1 so1 192 [(0, .ref (gSB + 3000)), (1, .int n9.1), (2, .int i2), (3, .ref a3), (5, .ref a5), (6, .ref a6), (7, .ref a7), (8, .int n9.2.1), (9, .int n9.2.2.1)] []) : gG Z ad T M ce so 940 [(0, .ref (gSB + 3000)), (2, .int i2), (3, .ref a3), (5, .ref a5), (6, .ref a6), (7, .ref a7), (8, .int i8), (9, .int i9), (10, .ref a10), (11, .ref a11), (13, .int i13), (15, .int i15), (17, .int i17)] [] := by
  have hF := hFL.fix
  unfold f_L_law_940 at h
  refine g_iconst (v := (0 : Int32)) hF rfl dL_law_940 ?_
  exact gG_sub [0, 1, 2, 3, 4, 5, 6, 7, 8, 9, 10, 11, 12] rfl (t_L_law_941 hFL hn hd (by omega) (by omega) q3 q5 q6 q7 q10 q11 h (fun v9 ad1 ce1 so1 q9 x1 y1 => hE v9 ad1 ce1 so1 q9 (gExt.tr gExt.rf x1) (gad_call y1 gExt.rf (fun _ _ => rfl))) (fun v9 ad1 ce1 so1 q9 x1 y1 => hN v9 ad1 ce1 so1 q9 (gExt.tr gExt.rf x1) (gad_call y1 gExt.rf (fun _ _ => rfl))))
theorem t_L_law_917 {Z : gZ} {d mc ms : Nat} {ad : Nat → Nat} {T : gT} {M : gM} {ce so c9 s9 K KS : Nat} {n : Nat} {f : Nat → Int32} {nm : String} {m_a3 m_a5 m_a6 m_a7 m_a10 : Nat} {i2 : Int32} {a3 : Nat} {a5 : Nat} {a6 : Nat} {a7 : Nat} {i8 : Int32} {i9 : Int32} {a10 : Nat} {i12 : Int32} {k0 : Int32} {o : (Int32 × Int32 × gT × gM) ⊕ (Int32 × Int32 × Int32 × gT × gM)} (hFL : gFixL Z cL_law RL nm (some .boolean) d mc ms (fun v _ _ _ => v = some (.int 1)) (fun _ _ _ _ => False) n f) (hn : Z.2.2.2.2.2.1 = 31) (hd : 60 ≤ d) (hk1 : ce + c9 + K ≤ mc) (hk2 : so + s9 + KS ≤ ms) (q3 : T[a3]? = some (8, m_a3)) (q5 : T[a5]? = some (18, m_a5)) (q6 : T[a6]? = some (16, m_a6)) (q7 : T[a7]? = some (22, m_a7)) (q10 : T[a10]? = some (16, m_a10)) (h : f_L_law_917 n f T M i2 a3 a5 a6 a7 i8 i9 a10 i12 k0 = some (o, c9, s9)) (hE : ∀ (e9 : Int32 × Int32 × gT × gM) (ad1 : Nat → Nat) (ce1 so1 : Nat), o = .inl e9 → gExt T e9.2.2.1 → (∀ a : Nat, a < T.length → ad1 a = ad a) → ce1 + K ≤ mc → so1 + KS ≤ ms → gG Z ad1 e9.2.2.1 e9.2.2.2 ce1 so1 1195 [(0, .ref (gSB + 3000)), (1, .int e9.1), (2, .int i2), (3, .ref a3), (7, .ref a7), (8, .int e9.2.1)] []) (hN : ∀ (n9 : Int32 × Int32 × Int32 × gT × gM) (ad1 : Nat → Nat) (ce1 so1 : Nat), o = .inr n9 → gExt T n9.2.2.2.1 → (∀ a : Nat, a < T.length → ad1 a = ad a) → ce1 + K ≤ mc → so1 + KS ≤ ms → gG Z ad1 n9.2.2.2.1 n9.2.2.2.2 ce1 so1 192 [(0, .ref (gSB + 3000)), (1, .int n9.1), (2, .int i2), (3, .ref a3), (5, .ref a5), (6, .ref a6), (7, .ref a7), (8, .int n9.2.1), (9, .int n9.2.2.1)] []) : gG Z ad T M ce so 917 [(0, .ref (gSB + 3000)), (2, .int i2), (3, .ref a3), (5, .ref a5), (6, .ref a6), (7, .ref a7), (8, .int i8), (9, .int i9), (10, .ref a10), (12, .int i12)] [.int k0] := by
  have hF := hFL.fix
  unfold f_L_law_917 at h
  refine g_istore_n (ls' := [(1, .int k0), (0, .ref (gSB + 3000)), (2, .int i2), (3, .ref a3), (5, .ref a5), (6, .ref a6), (7, .ref a7), (8, .int i8), (9, .int i9), (10, .ref a10), (12, .int i12)]) hF rfl (by rw [hn]; decide) rfl dL_law_917 ?_
  refine g_goto (tgt := 1129) hF dL_law_918 (by decide) ?_
  exact gG_sub [1, 0, 2, 3, 4, 5, 6, 7, 8, 9, 10] rfl (t_L_law_1129 hFL hn hd (by omega) (by omega) q3 q5 q6 q7 q10 h (fun v9 ad1 ce1 so1 q9 x1 y1 => hE v9 ad1 ce1 so1 q9 (gExt.tr gExt.rf x1) (gad_call y1 gExt.rf (fun _ _ => rfl))) (fun v9 ad1 ce1 so1 q9 x1 y1 => hN v9 ad1 ce1 so1 q9 (gExt.tr gExt.rf x1) (gad_call y1 gExt.rf (fun _ _ => rfl))))
theorem t_L_law_907 {Z : gZ} {d mc ms : Nat} {ad : Nat → Nat} {T : gT} {M : gM} {ce so c9 s9 K KS : Nat} {n : Nat} {f : Nat → Int32} {nm : String} {m_a3 m_a5 m_a6 m_a7 m_a10 : Nat} {i2 : Int32} {a3 : Nat} {a5 : Nat} {a6 : Nat} {a7 : Nat} {i8 : Int32} {i9 : Int32} {a10 : Nat} {i12 : Int32} {i13 : Int32} {k0 : Int32} {o : (Int32 × Int32 × gT × gM) ⊕ (Int32 × Int32 × Int32 × gT × gM)} (hFL : gFixL Z cL_law RL nm (some .boolean) d mc ms (fun v _ _ _ => v = some (.int 1)) (fun _ _ _ _ => False) n f) (hn : Z.2.2.2.2.2.1 = 31) (hd : 60 ≤ d) (hk1 : ce + c9 + K ≤ mc) (hk2 : so + s9 + KS ≤ ms) (q3 : T[a3]? = some (8, m_a3)) (q5 : T[a5]? = some (18, m_a5)) (q6 : T[a6]? = some (16, m_a6)) (q7 : T[a7]? = some (22, m_a7)) (q10 : T[a10]? = some (16, m_a10)) (h : f_L_law_907 n f T M i2 a3 a5 a6 a7 i8 i9 a10 i12 i13 k0 = some (o, c9, s9)) (hE : ∀ (e9 : Int32 × Int32 × gT × gM) (ad1 : Nat → Nat) (ce1 so1 : Nat), o = .inl e9 → gExt T e9.2.2.1 → (∀ a : Nat, a < T.length → ad1 a = ad a) → ce1 + K ≤ mc → so1 + KS ≤ ms → gG Z ad1 e9.2.2.1 e9.2.2.2 ce1 so1 1195 [(0, .ref (gSB + 3000)), (1, .int e9.1), (2, .int i2), (3, .ref a3), (7, .ref a7), (8, .int e9.2.1)] []) (hN : ∀ (n9 : Int32 × Int32 × Int32 × gT × gM) (ad1 : Nat → Nat) (ce1 so1 : Nat), o = .inr n9 → gExt T n9.2.2.2.1 → (∀ a : Nat, a < T.length → ad1 a = ad a) → ce1 + K ≤ mc → so1 + KS ≤ ms → gG Z ad1 n9.2.2.2.1 n9.2.2.2.2 ce1 so1 192 [(0, .ref (gSB + 3000)), (1, .int n9.1), (2, .int i2), (3, .ref a3), (5, .ref a5), (6, .ref a6), (7, .ref a7), (8, .int n9.2.1), (9, .int n9.2.2.1)] []) : gG Z ad T M ce so 907 [(0, .ref (gSB + 3000)), (2, .int i2), (3, .ref a3), (5, .ref a5), (6, .ref a6), (7, .ref a7), (8, .int i8), (9, .int i9), (10, .ref a10), (12, .int i12), (13, .int i13)] [.int k0] := by
  have hF := hFL.fix
  unfold f_L_law_907 at h
  refine g_iload hF 10 rfl dL_law_907 ?_
  refine g_icmp_ne (tgt := 916) hF dL_law_909 (by decide) (fun c93 => ?_) (fun c93 => ?_)
  · replace h := gif_t c93 h
    refine g_iconst (v := (0 : Int32)) hF rfl dL_law_916 ?_
    exact gG_sub [0, 1, 2, 3, 4, 5, 6, 7, 8, 9] rfl (t_L_law_917 hFL hn hd (by omega) (by omega) q3 q5 q6 q7 q10 h (fun v9 ad1 ce1 so1 q9 x1 y1 => hE v9 ad1 ce1 so1 q9 (gExt.tr gExt.rf x1) (gad_call y1 gExt.rf (fun _ _ => rfl))) (fun v9 ad1 ce1 so1 q9 x1 y1 => hN v9 ad1 ce1 so1 q9 (gExt.tr gExt.rf x1) (gad_call y1 gExt.rf (fun _ _ => rfl))))
  · replace h := gif_n c93 h
    refine g_iconst (v := (1 : Int32)) hF rfl dL_law_912 ?_
    refine g_goto (tgt := 917) hF dL_law_913 (by decide) ?_
    exact gG_sub [0, 1, 2, 3, 4, 5, 6, 7, 8, 9] rfl (t_L_law_917 hFL hn hd (by omega) (by omega) q3 q5 q6 q7 q10 h (fun v9 ad1 ce1 so1 q9 x1 y1 => hE v9 ad1 ce1 so1 q9 (gExt.tr gExt.rf x1) (gad_call y1 gExt.rf (fun _ _ => rfl))) (fun v9 ad1 ce1 so1 q9 x1 y1 => hN v9 ad1 ce1 so1 q9 (gExt.tr gExt.rf x1) (gad_call y1 gExt.rf (fun _ _ => rfl))))
theorem t_L_law_879 {Z : gZ} {d mc ms : Nat} {ad : Nat → Nat} {T : gT} {M : gM} {ce so c9 s9 K KS : Nat} {n : Nat} {f : Nat → Int32} {nm : String} {m_a3 m_a5 m_a6 m_a7 m_a10 : Nat} {i2 : Int32} {a3 : Nat} {a5 : Nat} {a6 : Nat} {a7 : Nat} {i8 : Int32} {i9 : Int32} {a10 : Nat} {i12 : Int32} {i13 : Int32} {i15 : Int32} {i16 : Int32} {i23 : Int32} {i24 : Int32} {i25 : Int32} {o : (Int32 × Int32 × gT × gM) ⊕ (Int32 × Int32 × Int32 × gT × gM)} (hFL : gFixL Z cL_law RL nm (some .boolean) d mc ms (fun v _ _ _ => v = some (.int 1)) (fun _ _ _ _ => False) n f) (hn : Z.2.2.2.2.2.1 = 31) (hd : 60 ≤ d) (hk1 : ce + c9 + K ≤ mc) (hk2 : so + s9 + KS ≤ ms) (q3 : T[a3]? = some (8, m_a3)) (q5 : T[a5]? = some (18, m_a5)) (q6 : T[a6]? = some (16, m_a6)) (q7 : T[a7]? = some (22, m_a7)) (q10 : T[a10]? = some (16, m_a10)) (h : f_L_law_879 n f T M i2 a3 a5 a6 a7 i8 i9 a10 i12 i13 i15 i16 i23 i24 i25 = some (o, c9, s9)) (hE : ∀ (e9 : Int32 × Int32 × gT × gM) (ad1 : Nat → Nat) (ce1 so1 : Nat), o = .inl e9 → gExt T e9.2.2.1 → (∀ a : Nat, a < T.length → ad1 a = ad a) → ce1 + K ≤ mc → so1 + KS ≤ ms → gG Z ad1 e9.2.2.1 e9.2.2.2 ce1 so1 1195 [(0, .ref (gSB + 3000)), (1, .int e9.1), (2, .int i2), (3, .ref a3), (7, .ref a7), (8, .int e9.2.1)] []) (hN : ∀ (n9 : Int32 × Int32 × Int32 × gT × gM) (ad1 : Nat → Nat) (ce1 so1 : Nat), o = .inr n9 → gExt T n9.2.2.2.1 → (∀ a : Nat, a < T.length → ad1 a = ad a) → ce1 + K ≤ mc → so1 + KS ≤ ms → gG Z ad1 n9.2.2.2.1 n9.2.2.2.2 ce1 so1 192 [(0, .ref (gSB + 3000)), (1, .int n9.1), (2, .int i2), (3, .ref a3), (5, .ref a5), (6, .ref a6), (7, .ref a7), (8, .int n9.2.1), (9, .int n9.2.2.1)] []) : gG Z ad T M ce so 879 [(0, .ref (gSB + 3000)), (2, .int i2), (3, .ref a3), (5, .ref a5), (6, .ref a6), (7, .ref a7), (8, .int i8), (9, .int i9), (10, .ref a10), (12, .int i12), (13, .int i13), (15, .int i15), (16, .int i16), (23, .int i23), (24, .int i24), (25, .int i25)] [] := by
  have hF := hFL.fix
  unfold f_L_law_879 at h
  refine g_iload hF 14 rfl dL_law_879 ?_
  refine g_if_eq (tgt := 897) hF dL_law_881 (by decide) (fun c94 => ?_) (fun c94 => ?_)
  · replace h := gif_t c94 h
    refine g_aload_n hF 2 rfl rfl dL_law_897 ?_
    refine g_iload hF 11 rfl dL_law_898 ?_
    refine g_iload hF 12 rfl dL_law_900 ?_
    refine g_iload hF 15 rfl dL_law_902 ?_
    obtain ⟨x95, h95, h⟩ := gbnd h
    obtain ⟨c95, s95, h, ec95, es95⟩ := cadd_sp h
    refine g_callSW hF (n := 4) kw_1050 kw_64 rfl (by decide +kernel) (by decide +kernel) (by decide) kw_1048 kw_1049 (c_L_offerValue (d := d - 1) (by omega) q3 h95) (by omega) (by omega) (by omega) rfl rfl (Nat.le_of_ble_eq_true rfl) dL_law_904 (g_sameS ?_)
    exact gG_sub [0, 1, 2, 3, 4, 5, 6, 7, 8, 9, 10] rfl (t_L_law_907 hFL hn hd (by omega) (by omega) q3 q5 q6 q7 q10 h (fun v9 ad1 ce1 so1 q9 x1 y1 => hE v9 ad1 ce1 so1 q9 (gExt.tr gExt.rf x1) (gad_call y1 gExt.rf (fun _ _ => rfl))) (fun v9 ad1 ce1 so1 q9 x1 y1 => hN v9 ad1 ce1 so1 q9 (gExt.tr gExt.rf x1) (gad_call y1 gExt.rf (fun _ _ => rfl))))
  · replace h := gif_f c94 h
    refine g_aload_n hF 2 rfl rfl dL_law_884 ?_
    refine g_iload hF 11 rfl dL_law_885 ?_
    refine g_iload hF 12 rfl dL_law_887 ?_
    refine g_iload hF 13 rfl dL_law_889 ?_
    obtain ⟨x96, h96, h⟩ := gbnd h
    obtain ⟨c96, s96, h, ec96, es96⟩ := cadd_sp h
    refine g_callSW hF (n := 4) kw_1062 kw_64 rfl (by decide +kernel) (by decide +kernel) (by decide) kw_1060 kw_1061 (c_L_offerForward (d := d - 1) (by omega) q3 h96) (by omega) (by omega) (by omega) rfl rfl (Nat.le_of_ble_eq_true rfl) dL_law_891 (g_sameS ?_)
    refine g_goto (tgt := 907) hF dL_law_894 (by decide) ?_
    exact gG_sub [0, 1, 2, 3, 4, 5, 6, 7, 8, 9, 10] rfl (t_L_law_907 hFL hn hd (by omega) (by omega) q3 q5 q6 q7 q10 h (fun v9 ad1 ce1 so1 q9 x1 y1 => hE v9 ad1 ce1 so1 q9 (gExt.tr gExt.rf x1) (gad_call y1 gExt.rf (fun _ _ => rfl))) (fun v9 ad1 ce1 so1 q9 x1 y1 => hN v9 ad1 ce1 so1 q9 (gExt.tr gExt.rf x1) (gad_call y1 gExt.rf (fun _ _ => rfl))))
theorem t_L_law_869 {Z : gZ} {d mc ms : Nat} {ad : Nat → Nat} {T : gT} {M : gM} {ce so c9 s9 K KS : Nat} {n : Nat} {f : Nat → Int32} {nm : String} {m_a3 m_a5 m_a6 m_a7 m_a10 m_b0 : Nat} {i2 : Int32} {a3 : Nat} {a5 : Nat} {a6 : Nat} {a7 : Nat} {i8 : Int32} {i9 : Int32} {a10 : Nat} {i12 : Int32} {i15 : Int32} {i16 : Int32} {i23 : Int32} {i24 : Int32} {i25 : Int32} {b0 : Nat} {k1 : Int32} {k2 : Int32} {o : (Int32 × Int32 × gT × gM) ⊕ (Int32 × Int32 × Int32 × gT × gM)} (hFL : gFixL Z cL_law RL nm (some .boolean) d mc ms (fun v _ _ _ => v = some (.int 1)) (fun _ _ _ _ => False) n f) (hn : Z.2.2.2.2.2.1 = 31) (hd : 60 ≤ d) (hk1 : ce + c9 + K ≤ mc) (hk2 : so + s9 + KS ≤ ms) (q3 : T[a3]? = some (8, m_a3)) (q5 : T[a5]? = some (18, m_a5)) (q6 : T[a6]? = some (16, m_a6)) (q7 : T[a7]? = some (22, m_a7)) (q10 : T[a10]? = some (16, m_a10)) (p0 : T[b0]? = some (11, m_b0)) (h : f_L_law_869 n f T M i2 a3 a5 a6 a7 i8 i9 a10 i12 i15 i16 i23 i24 i25 b0 k1 k2 = some (o, c9, s9)) (hE : ∀ (e9 : Int32 × Int32 × gT × gM) (ad1 : Nat → Nat) (ce1 so1 : Nat), o = .inl e9 → gExt T e9.2.2.1 → (∀ a : Nat, a < T.length → ad1 a = ad a) → ce1 + K ≤ mc → so1 + KS ≤ ms → gG Z ad1 e9.2.2.1 e9.2.2.2 ce1 so1 1195 [(0, .ref (gSB + 3000)), (1, .int e9.1), (2, .int i2), (3, .ref a3), (7, .ref a7), (8, .int e9.2.1)] []) (hN : ∀ (n9 : Int32 × Int32 × Int32 × gT × gM) (ad1 : Nat → Nat) (ce1 so1 : Nat), o = .inr n9 → gExt T n9.2.2.2.1 → (∀ a : Nat, a < T.length → ad1 a = ad a) → ce1 + K ≤ mc → so1 + KS ≤ ms → gG Z ad1 n9.2.2.2.1 n9.2.2.2.2 ce1 so1 192 [(0, .ref (gSB + 3000)), (1, .int n9.1), (2, .int i2), (3, .ref a3), (5, .ref a5), (6, .ref a6), (7, .ref a7), (8, .int n9.2.1), (9, .int n9.2.2.1)] []) : gG Z ad T M ce so 869 [(0, .ref (gSB + 3000)), (2, .int i2), (3, .ref a3), (5, .ref a5), (6, .ref a6), (7, .ref a7), (8, .int i8), (9, .int i9), (10, .ref a10), (12, .int i12), (15, .int i15), (16, .int i16), (23, .int i23), (24, .int i24), (25, .int i25)] [.int k2, .int k1, .ref b0] := by
  have hF := hFL.fix
  unfold f_L_law_869 at h
  obtain ⟨M97, h97, h⟩ := gbnd h
  obtain ⟨i97h, e97v⟩ := ast_sp p0 h97
  refine g_iast hF p0 i97h dL_law_869 ?_
  rw [← e97v]
  refine g_aload hF 4 rfl dL_law_870 ?_
  refine g_iload hF 11 rfl dL_law_872 ?_
  obtain ⟨x98, h98, h⟩ := gbnd h
  obtain ⟨c98, s98, h, ec98, es98⟩ := cadd_sp h
  refine g_callV hF my_X10_winner kw_571 kw_572 kw_573 gC_16.1 (by decide) q6 (c_X10_winner (d := d - 1) (by omega) q6 (trip h98)) (by omega) (by omega) (by omega) rfl rfl (Nat.le_of_ble_eq_true rfl) dL_law_874 (g_madeS (gOld_s (Nat.le_add_right _ _) (gOld_i (gOld_r (gT_lt q3) (gOld_r (gT_lt q5) (gOld_r (gT_lt q6) (gOld_r (gT_lt q7) (gOld_i (gOld_i (gOld_r (gT_lt q10) (gOld_i (gOld_i (gOld_i (gOld_i (gOld_i (gOld_i gOld_0))))))))))))))) gOld_0 (fun ad98 e98 y98 => ?_))
  have X98 := gExt.tr gExt.rf e98
  have W98 := gad_call y98 gExt.rf (fun _ _ => rfl)
  have q_99 := e98 _ _ q3
  have q_100 := e98 _ _ q5
  have q_101 := e98 _ _ q6
  have q_102 := e98 _ _ q7
  have q_103 := e98 _ _ q10
  refine g_istore (ls' := [(13, .int x98.1.1), (0, .ref (gSB + 3000)), (2, .int i2), (3, .ref a3), (5, .ref a5), (6, .ref a6), (7, .ref a7), (8, .int i8), (9, .int i9), (10, .ref a10), (12, .int i12), (15, .int i15), (16, .int i16), (23, .int i23), (24, .int i24), (25, .int i25)]) hF (by rw [hn]; decide) rfl dL_law_877 ?_
  exact gG_sub [1, 2, 3, 4, 5, 6, 7, 8, 9, 10, 0, 11, 12, 13, 14, 15] rfl (t_L_law_879 hFL hn hd (by omega) (by omega) q_99 q_100 q_101 q_102 q_103 h (fun v9 ad1 ce1 so1 q9 x1 y1 => hE v9 ad1 ce1 so1 q9 (gExt.tr X98 x1) (gad_call y1 X98 W98)) (fun v9 ad1 ce1 so1 q9 x1 y1 => hN v9 ad1 ce1 so1 q9 (gExt.tr X98 x1) (gad_call y1 X98 W98)))
