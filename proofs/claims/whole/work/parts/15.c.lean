theorem t_L_law_1692 {Z : gZ} {nm : String} {d mc ms n : Nat} {f : Nat → Int32} {ad : Nat → Nat} {T : gT} {M : gM} {m_a1 m_a2 m_a3 : Nat} {a1 : Nat} {a2 : Nat} {a3 : Nat} {i4 : Int32} {ce so ce2 so2 : Nat} {o : Int32 ⊕ (Int32 × gT × gM)} (hFL : gFixL Z cL_law RL nm (some .boolean) d mc ms (fun v _ _ _ => v = some (.int 1)) (fun _ _ _ _ => False) n f) (hn : Z.2.2.2.2.2.1 = 7) (hd : 58 ≤ d) (hc : ce + 0 ≤ ce2) (hs : so + 0 ≤ so2) (hc2 : ce2 ≤ mc) (hs2 : so2 ≤ ms) (q1 : T[a1]? = some (8, m_a1)) (q2 : T[a2]? = some (9, m_a2)) (q3 : T[a3]? = some (12, m_a3)) (h : f_L_law_1692 n f T M a1 a2 a3 i4 = some o) (hR : ∀ r9, o = .inl r9 → (some (Value.int r9) : Option Value) = some (.int 1)) (hN : ∀ (n9 : Int32 × gT × gM) (ad1 : Nat → Nat), o = .inr n9 → gExt T n9.2.1 → (∀ a : Nat, a < T.length → ad1 a = ad a) → gG Z ad1 n9.2.1 n9.2.2 ce2 so2 23 [(0, .ref (gSB + 3000)), (1, .ref a1), (2, .ref a2), (3, .ref a3), (4, .int n9.1)] []) : gG Z ad T M ce so 1692 [(0, .ref (gSB + 3000)), (1, .ref a1), (2, .ref a2), (3, .ref a3), (4, .int i4)] [] := by
  have hF := hFL.fix
  unfold f_L_law_1692 at h
  refine g_iinc (n := 6) (v := (i4 + (6 : Int32))) (ls' := [(4, .int (i4 + (6 : Int32))), (0, .ref (gSB + 3000)), (1, .ref a1), (2, .ref a2), (3, .ref a3)]) hF 4 rfl rfl (by rw [hn]; decide) rfl dL_law_1692 ?_
  refine g_goto (tgt := 23) hF dL_law_1695 (by decide) ?_
  exact gG_wid (k := ce2) (n := so2) hF (by omega) (by omega) (gG_sub [1, 2, 3, 4, 0] rfl (hN _ ad (Option.some.inj h).symm gExt.rf (fun _ _ => rfl)))
theorem t_L_law_1573 {Z : gZ} {nm : String} {d mc ms n : Nat} {f : Nat → Int32} {ad : Nat → Nat} {T : gT} {M : gM} {m_a1 m_a2 m_a3 m_b0 : Nat} {a1 : Nat} {a2 : Nat} {a3 : Nat} {i4 : Int32} {i5 : Int32} {b0 : Nat} {k1 : Int32} {k2 : Int32} {ce so ce2 so2 : Nat} {o : Int32 ⊕ (Int32 × gT × gM)} (hFL : gFixL Z cL_law RL nm (some .boolean) d mc ms (fun v _ _ _ => v = some (.int 1)) (fun _ _ _ _ => False) n f) (hn : Z.2.2.2.2.2.1 = 7) (hd : 58 ≤ d) (hc : ce + 0 ≤ ce2) (hs : so + 0 ≤ so2) (hc2 : ce2 ≤ mc) (hs2 : so2 ≤ ms) (q1 : T[a1]? = some (8, m_a1)) (q2 : T[a2]? = some (9, m_a2)) (q3 : T[a3]? = some (12, m_a3)) (p0 : T[b0]? = some (9, m_b0)) (h : f_L_law_1573 n f T M a1 a2 a3 i4 i5 b0 k1 k2 = some o) (hR : ∀ r9, o = .inl r9 → (some (Value.int r9) : Option Value) = some (.int 1)) (hN : ∀ (n9 : Int32 × gT × gM) (ad1 : Nat → Nat), o = .inr n9 → gExt T n9.2.1 → (∀ a : Nat, a < T.length → ad1 a = ad a) → gG Z ad1 n9.2.1 n9.2.2 ce2 so2 23 [(0, .ref (gSB + 3000)), (1, .ref a1), (2, .ref a2), (3, .ref a3), (4, .int n9.1)] []) : gG Z ad T M ce so 1573 [(0, .ref (gSB + 3000)), (1, .ref a1), (2, .ref a2), (3, .ref a3), (4, .int i4), (5, .int i5)] [.int k2, .int k1, .ref b0] := by
  have hF := hFL.fix
  unfold f_L_law_1573 at h
  obtain ⟨x1, h1, h⟩ := gbnd h
  refine g_callV hF my_X9_setKeeps kw_1476 kw_1477 kw_1478 gC_9.1 (by decide) p0 (c_X9_setKeeps (d := d - 1) (by omega) p0 h1) (by omega) (by omega) (by omega) rfl rfl (Nat.le_of_ble_eq_true rfl) dL_law_1573 (g_sameS ?_)
  refine g_istore (ls' := [(6, .int x1.1), (0, .ref (gSB + 3000)), (1, .ref a1), (2, .ref a2), (3, .ref a3), (4, .int i4), (5, .int i5)]) hF (by rw [hn]; decide) rfl dL_law_1576 ?_
  refine g_aload_n hF 3 rfl rfl dL_law_1578 ?_
  obtain ⟨x2, h2, h⟩ := gbnd h
  refine g_callV hF my_X9_thrown kw_1171 kw_1172 kw_1173 gC_9.1 (by decide) q2 (c_X9_thrown (d := d - 1) (by omega) q2 h2) (by omega) (by omega) (by omega) rfl rfl (Nat.le_of_ble_eq_true rfl) dL_law_1579 (g_sameS ?_)
  refine g_iload hF 6 rfl dL_law_1582 ?_
  refine g_icmp_eq (tgt := 1589) hF dL_law_1584 (by decide) (fun c3 => ?_) (fun c3 => ?_)
  · replace h := gif_t c3 h
    refine g_iload hF 6 rfl dL_law_1589 ?_
    refine g_if_ne (tgt := 1606) hF dL_law_1591 (by decide) (fun c4 => ?_) (fun c4 => ?_)
    · replace h := gif_t c4 h
      refine g_goto (tgt := 1692) hF dL_law_1606 (by decide) ?_
      exact gG_sub [1, 2, 3, 4, 5] rfl (t_L_law_1692 hFL hn (by omega) (by omega) (by omega) hc2 hs2 q1 q2 q3 h hR (fun n9 ad9 q9 x9 y9 => hN n9 ad9 q9 (gExt.tr gExt.rf x9) (gad_call y9 gExt.rf (fun _ _ => rfl))))
    · replace h := gif_n c4 h
      refine g_aload_n hF 4 rfl rfl dL_law_1594 ?_
      refine g_iconst (v := (0 : Int32)) hF rfl dL_law_1595 ?_
      obtain ⟨v5, h5, h⟩ := gbnd h
      obtain ⟨i5h, e5v⟩ := aldl_sp q3 h5
      refine g_lald hF q3 i5h dL_law_1596 ?_
      rw [← e5v]
      refine g_iload hF 0 rfl dL_law_1597 ?_
      refine g_i2l hF dL_law_1599 ?_
      refine g_lcmp hF dL_law_1600 ?_
      refine g_if_eq (tgt := 1606) hF dL_law_1601 (by decide) (fun c6 => ?_) (fun c6 => ?_)
      · replace h := gif_t c6 h
        refine g_goto (tgt := 1692) hF dL_law_1606 (by decide) ?_
        exact gG_sub [1, 2, 3, 4, 5] rfl (t_L_law_1692 hFL hn (by omega) (by omega) (by omega) hc2 hs2 q1 q2 q3 h hR (fun n9 ad9 q9 x9 y9 => hN n9 ad9 q9 (gExt.tr gExt.rf x9) (gad_call y9 gExt.rf (fun _ _ => rfl))))
      · replace h := gif_f c6 h
        refine g_iconst (v := (0 : Int32)) hF rfl dL_law_1604 ?_
        cases h
        exact g_ret_i hF rfl rfl dL_law_1605 (hR _ rfl) (by omega) (by omega)
  · replace h := gif_f c3 h
    refine g_iconst (v := (0 : Int32)) hF rfl dL_law_1587 ?_
    cases h
    exact g_ret_i hF rfl rfl dL_law_1588 (hR _ rfl) (by omega) (by omega)
theorem t_L_law_1546 {Z : gZ} {nm : String} {d mc ms n : Nat} {f : Nat → Int32} {ad : Nat → Nat} {T : gT} {M : gM} {m_a1 m_a2 m_a3 m_b0 : Nat} {a1 : Nat} {a2 : Nat} {a3 : Nat} {i4 : Int32} {b0 : Nat} {k1 : Int32} {k2 : Int32} {ce so ce2 so2 : Nat} {o : Int32 ⊕ (Int32 × gT × gM)} (hFL : gFixL Z cL_law RL nm (some .boolean) d mc ms (fun v _ _ _ => v = some (.int 1)) (fun _ _ _ _ => False) n f) (hn : Z.2.2.2.2.2.1 = 7) (hd : 58 ≤ d) (hc : ce + 1 ≤ ce2) (hs : so + 6 ≤ so2) (hc2 : ce2 ≤ mc) (hs2 : so2 ≤ ms) (q1 : T[a1]? = some (8, m_a1)) (q2 : T[a2]? = some (9, m_a2)) (q3 : T[a3]? = some (12, m_a3)) (p0 : T[b0]? = some (8, m_b0)) (h : f_L_law_1546 n f T M a1 a2 a3 i4 b0 k1 k2 = some o) (hR : ∀ r9, o = .inl r9 → (some (Value.int r9) : Option Value) = some (.int 1)) (hN : ∀ (n9 : Int32 × gT × gM) (ad1 : Nat → Nat), o = .inr n9 → gExt T n9.2.1 → (∀ a : Nat, a < T.length → ad1 a = ad a) → gG Z ad1 n9.2.1 n9.2.2 ce2 so2 23 [(0, .ref (gSB + 3000)), (1, .ref a1), (2, .ref a2), (3, .ref a3), (4, .int n9.1)] []) : gG Z ad T M ce so 1546 [(0, .ref (gSB + 3000)), (1, .ref a1), (2, .ref a2), (3, .ref a3), (4, .int i4)] [.int k2, .int k1, .ref b0] := by
  have hF := hFL.fix
  unfold f_L_law_1546 at h
  refine g_aload_n hF 3 rfl rfl dL_law_1546 ?_
  obtain ⟨x7, h7, h⟩ := gbnd h
  refine g_callSW hF (n := 4) kw_1068 kw_104 rfl (by decide +kernel) (by decide +kernel) (by decide) kw_1066 kw_1067 (c_L_setKeeps (d := d - 1) (by omega) p0 q3 h7) (by omega) (by omega) (by omega) rfl rfl (Nat.le_of_ble_eq_true rfl) dL_law_1547 (g_sameS ?_)
  refine g_istore (ls' := [(5, .int x7.1), (0, .ref (gSB + 3000)), (1, .ref a1), (2, .ref a2), (3, .ref a3), (4, .int i4)]) hF (by rw [hn]; decide) rfl dL_law_1550 ?_
  refine g_aload_n hF 3 rfl rfl dL_law_1552 ?_
  refine g_aload_n hF 1 rfl rfl dL_law_1553 ?_
  refine g_iload hF 5 rfl dL_law_1554 ?_
  refine g_iconst (v := (1 : Int32)) hF rfl dL_law_1556 ?_
  refine g_iadd hF dL_law_1557 ?_
  obtain ⟨v8, h8, h⟩ := gbnd h
  obtain ⟨i8h, e8v⟩ := scr_sp h8
  refine g_sci hFL i8h dL_law_1558 ?_
  rw [← e8v]
  refine g_aload_n hF 1 rfl rfl dL_law_1559 ?_
  refine g_iload hF 5 rfl dL_law_1560 ?_
  refine g_iconst (v := (2 : Int32)) hF rfl dL_law_1562 ?_
  refine g_iadd hF dL_law_1563 ?_
  obtain ⟨v9, h9, h⟩ := gbnd h
  obtain ⟨i9h, e9v⟩ := scr_sp h9
  refine g_sci hFL i9h dL_law_1564 ?_
  rw [← e9v]
  refine g_if_eq (tgt := 1572) hF dL_law_1565 (by decide) (fun c10 => ?_) (fun c10 => ?_)
  · replace h := gif_t c10 h
    refine g_iconst (v := (0 : Int32)) hF rfl dL_law_1572 ?_
    exact gG_sub [1, 2, 3, 4, 5, 0] rfl (t_L_law_1573 hFL hn (by omega) (by omega) (by omega) hc2 hs2 q1 q2 q3 q2 h hR (fun n9 ad9 q9 x9 y9 => hN n9 ad9 q9 (gExt.tr gExt.rf x9) (gad_call y9 gExt.rf (fun _ _ => rfl))))
  · replace h := gif_f c10 h
    refine g_iconst (v := (1 : Int32)) hF rfl dL_law_1568 ?_
    refine g_goto (tgt := 1573) hF dL_law_1569 (by decide) ?_
    exact gG_sub [1, 2, 3, 4, 5, 0] rfl (t_L_law_1573 hFL hn (by omega) (by omega) (by omega) hc2 hs2 q1 q2 q3 q2 h hR (fun n9 ad9 q9 x9 y9 => hN n9 ad9 q9 (gExt.tr gExt.rf x9) (gad_call y9 gExt.rf (fun _ _ => rfl))))
theorem t_L_law_B23 {Z : gZ} {nm : String} {d mc ms n : Nat} {f : Nat → Int32} {ad : Nat → Nat} {T : gT} {M : gM} {m_a1 m_a2 m_a3 : Nat} {a1 : Nat} {a2 : Nat} {a3 : Nat} {i4 : Int32} {ce so ce2 so2 : Nat} {o : Int32 ⊕ (Int32 × gT × gM)} (hFL : gFixL Z cL_law RL nm (some .boolean) d mc ms (fun v _ _ _ => v = some (.int 1)) (fun _ _ _ _ => False) n f) (hn : Z.2.2.2.2.2.1 = 7) (hd : 58 ≤ d) (hc : ce + 3 ≤ ce2) (hs : so + 813 ≤ so2) (hc2 : ce2 ≤ mc) (hs2 : so2 ≤ ms) (q1 : T[a1]? = some (8, m_a1)) (q2 : T[a2]? = some (9, m_a2)) (q3 : T[a3]? = some (12, m_a3)) (h : f_L_law_B23 n f T M a1 a2 a3 i4 = some o) (hR : ∀ r9, o = .inl r9 → (some (Value.int r9) : Option Value) = some (.int 1)) (hN : ∀ (n9 : Int32 × gT × gM) (ad1 : Nat → Nat), o = .inr n9 → gExt T n9.2.1 → (∀ a : Nat, a < T.length → ad1 a = ad a) → gG Z ad1 n9.2.1 n9.2.2 ce2 so2 23 [(0, .ref (gSB + 3000)), (1, .ref a1), (2, .ref a2), (3, .ref a3), (4, .int n9.1)] []) : gG Z ad T M ce so 23 [(0, .ref (gSB + 3000)), (1, .ref a1), (2, .ref a2), (3, .ref a3), (4, .int i4)] [] := by
  have hF := hFL.fix
  unfold f_L_law_B23 at h
  refine g_iload hF 4 rfl dL_law_23 ?_
  refine g_aload_n hF 0 rfl rfl dL_law_25 ?_
  refine g_scl hFL dL_law_26 ?_
  refine g_bipush (v := (6 : Int32)) hF rfl dL_law_27 ?_
  refine g_isub hF dL_law_29 ?_
  refine g_icmp_gt (tgt := 1698) hF dL_law_30 (by decide) (fun c11 => ?_) (fun c11 => ?_)
  · replace h := gif_t c11 h
    refine g_iconst (v := (1 : Int32)) hF rfl dL_law_1698 ?_
    cases h
    exact g_ret_i hF rfl rfl dL_law_1699 (hR _ rfl) (by omega) (by omega)
  · replace h := gif_f c11 h
    refine g_aload_n hF 0 rfl rfl dL_law_33 ?_
    refine g_iload hF 4 rfl dL_law_34 ?_
    obtain ⟨v12, h12, h⟩ := gbnd h
    obtain ⟨i12h, e12v⟩ := scr_sp h12
    refine g_sci hFL i12h dL_law_36 ?_
    rw [← e12v]
    refine g_bipush (v := (31 : Int32)) hF rfl dL_law_37 ?_
    refine g_iand hF dL_law_39 ?_
    by_cases c13_0 : (v12 &&& (31 : Int32)) = (0 : Int32)
    · replace h := gif_t c13_0 h
      refine g_tabIn (tgt := 168) (off := 128) hF dL_law_40 (by rw [c13_0]; decide) (by rw [c13_0]; decide) (by rw [c13_0]; decide +kernel) (by decide) ?_
      refine g_aload_n hF 1 rfl rfl dL_law_168 ?_
      refine g_aload_n hF 0 rfl rfl dL_law_169 ?_
      refine g_iload hF 4 rfl dL_law_170 ?_
      refine g_iconst (v := (1 : Int32)) hF rfl dL_law_172 ?_
      refine g_iadd hF dL_law_173 ?_
      obtain ⟨v14, h14, h⟩ := gbnd h
      obtain ⟨i14h, e14v⟩ := scr_sp h14
      refine g_sci hFL i14h dL_law_174 ?_
      rw [← e14v]
      refine g_aload_n hF 0 rfl rfl dL_law_175 ?_
      refine g_iload hF 4 rfl dL_law_176 ?_
      refine g_iconst (v := (2 : Int32)) hF rfl dL_law_178 ?_
      refine g_iadd hF dL_law_179 ?_
      obtain ⟨v15, h15, h⟩ := gbnd h
      obtain ⟨i15h, e15v⟩ := scr_sp h15
      refine g_sci hFL i15h dL_law_180 ?_
      rw [← e15v]
      refine g_aload_n hF 0 rfl rfl dL_law_181 ?_
      refine g_iload hF 4 rfl dL_law_182 ?_
      refine g_iconst (v := (3 : Int32)) hF rfl dL_law_184 ?_
      refine g_iadd hF dL_law_185 ?_
      obtain ⟨v16, h16, h⟩ := gbnd h
      obtain ⟨i16h, e16v⟩ := scr_sp h16
      refine g_sci hFL i16h dL_law_186 ?_
      rw [← e16v]
      refine g_aload_n hF 0 rfl rfl dL_law_187 ?_
      refine g_iload hF 4 rfl dL_law_188 ?_
      refine g_iconst (v := (4 : Int32)) hF rfl dL_law_190 ?_
      refine g_iadd hF dL_law_191 ?_
      obtain ⟨v17, h17, h⟩ := gbnd h
      obtain ⟨i17h, e17v⟩ := scr_sp h17
      refine g_sci hFL i17h dL_law_192 ?_
      rw [← e17v]
      refine g_aload_n hF 0 rfl rfl dL_law_193 ?_
      refine g_iload hF 4 rfl dL_law_194 ?_
      refine g_iconst (v := (5 : Int32)) hF rfl dL_law_196 ?_
      refine g_iadd hF dL_law_197 ?_
      obtain ⟨v18, h18, h⟩ := gbnd h
      obtain ⟨i18h, e18v⟩ := scr_sp h18
      refine g_sci hFL i18h dL_law_198 ?_
      rw [← e18v]
      obtain ⟨x19, h19, h⟩ := gbnd h
      refine g_callV hF my_X8_append kw_410 kw_411 kw_412 gC_8.1 (by decide) q1 (c_X8_append (d := d - 1) (by omega) q1 h19) (by omega) (by omega) (by omega) rfl rfl (Nat.le_of_ble_eq_true rfl) dL_law_199 (g_sameS ?_)
      refine g_aload_n hF 2 rfl rfl dL_law_202 ?_
      refine g_aload_n hF 0 rfl rfl dL_law_203 ?_
      refine g_iload hF 4 rfl dL_law_204 ?_
      refine g_iconst (v := (1 : Int32)) hF rfl dL_law_206 ?_
      refine g_iadd hF dL_law_207 ?_
      obtain ⟨v20, h20, h⟩ := gbnd h
      obtain ⟨i20h, e20v⟩ := scr_sp h20
      refine g_sci hFL i20h dL_law_208 ?_
      rw [← e20v]
      refine g_aload_n hF 0 rfl rfl dL_law_209 ?_
      refine g_iload hF 4 rfl dL_law_210 ?_
      refine g_iconst (v := (2 : Int32)) hF rfl dL_law_212 ?_
      refine g_iadd hF dL_law_213 ?_
      obtain ⟨v21, h21, h⟩ := gbnd h
      obtain ⟨i21h, e21v⟩ := scr_sp h21
      refine g_sci hFL i21h dL_law_214 ?_
      rw [← e21v]
      refine g_aload_n hF 0 rfl rfl dL_law_215 ?_
      refine g_iload hF 4 rfl dL_law_216 ?_
      refine g_iconst (v := (3 : Int32)) hF rfl dL_law_218 ?_
      refine g_iadd hF dL_law_219 ?_
      obtain ⟨v22, h22, h⟩ := gbnd h
      obtain ⟨i22h, e22v⟩ := scr_sp h22
      refine g_sci hFL i22h dL_law_220 ?_
      rw [← e22v]
      refine g_aload_n hF 0 rfl rfl dL_law_221 ?_
      refine g_iload hF 4 rfl dL_law_222 ?_
      refine g_iconst (v := (4 : Int32)) hF rfl dL_law_224 ?_
      refine g_iadd hF dL_law_225 ?_
      obtain ⟨v23, h23, h⟩ := gbnd h
      obtain ⟨i23h, e23v⟩ := scr_sp h23
      refine g_sci hFL i23h dL_law_226 ?_
      rw [← e23v]
      refine g_aload_n hF 0 rfl rfl dL_law_227 ?_
      refine g_iload hF 4 rfl dL_law_228 ?_
      refine g_iconst (v := (5 : Int32)) hF rfl dL_law_230 ?_
      refine g_iadd hF dL_law_231 ?_
      obtain ⟨v24, h24, h⟩ := gbnd h
      obtain ⟨i24h, e24v⟩ := scr_sp h24
      refine g_sci hFL i24h dL_law_232 ?_
      rw [← e24v]
      obtain ⟨x25, h25, h⟩ := gbnd h
      refine g_callV hF my_X9_append kw_1175 kw_1176 kw_1177 gC_9.1 (by decide) q2 (c_X9_append (d := d - 1) (by omega) q2 h25) (by omega) (by omega) (by omega) rfl rfl (Nat.le_of_ble_eq_true rfl) dL_law_233 (g_sameS ?_)
      refine g_icmp_eq (tgt := 1692) hF dL_law_236 (by decide) (fun c26 => ?_) (fun c26 => ?_)
      · replace h := gif_t c26 h
        exact gG_sub [0, 1, 2, 3, 4] rfl (t_L_law_1692 hFL hn (by omega) (by omega) (by omega) hc2 hs2 q1 q2 q3 h hR (fun n9 ad9 q9 x9 y9 => hN n9 ad9 q9 (gExt.tr gExt.rf x9) (gad_call y9 gExt.rf (fun _ _ => rfl))))
      · replace h := gif_f c26 h
        refine g_iconst (v := (0 : Int32)) hF rfl dL_law_239 ?_
        cases h
        exact g_ret_i hF rfl rfl dL_law_240 (hR _ rfl) (by omega) (by omega)
    · replace h := gif_f c13_0 h
      by_cases c13_1 : (v12 &&& (31 : Int32)) = (1 : Int32)
      · replace h := gif_t c13_1 h
        refine g_tabIn (tgt := 241) (off := 201) hF dL_law_40 (by rw [c13_1]; decide) (by rw [c13_1]; decide) (by rw [c13_1]; decide +kernel) (by decide) ?_
        refine g_aload_n hF 1 rfl rfl dL_law_241 ?_
        refine g_aload_n hF 0 rfl rfl dL_law_242 ?_
        refine g_iload hF 4 rfl dL_law_243 ?_
        refine g_iconst (v := (1 : Int32)) hF rfl dL_law_245 ?_
        refine g_iadd hF dL_law_246 ?_
        obtain ⟨v27, h27, h⟩ := gbnd h
        obtain ⟨i27h, e27v⟩ := scr_sp h27
        refine g_sci hFL i27h dL_law_247 ?_
        rw [← e27v]
        refine g_aload_n hF 3 rfl rfl dL_law_248 ?_
        obtain ⟨x28, h28, h⟩ := gbnd h
        refine g_callSW hF (n := 3) kw_672 kw_104 rfl (by decide +kernel) (by decide +kernel) (by decide) kw_670 kw_671 (c_L_load (d := d - 1) (by omega) q1 q3 h28) (by omega) (by omega) (by omega) rfl rfl (Nat.le_of_ble_eq_true rfl) dL_law_249 (g_madeS (gOld_s (Nat.le_add_right _ _) (gOld_r (gT_lt q1) (gOld_r (gT_lt q2) (gOld_r (gT_lt q3) (gOld_i gOld_0))))) gOld_0 (fun ad28 e28 y28 => ?_))
        have X28 := gExt.tr gExt.rf e28
        have W28 := gad_call y28 gExt.rf (fun _ _ => rfl)
        have q_29 := e28 _ _ q1
        have q_30 := e28 _ _ q2
        have q_31 := e28 _ _ q3
        refine g_istore (ls' := [(5, .int x28.1), (0, .ref (gSB + 3000)), (1, .ref a1), (2, .ref a2), (3, .ref a3), (4, .int i4)]) hF (by rw [hn]; decide) rfl dL_law_252 ?_
        refine g_aload_n hF 3 rfl rfl dL_law_254 ?_
        refine g_aload_n hF 1 rfl rfl dL_law_255 ?_
        refine g_iload hF 5 rfl dL_law_256 ?_
        refine g_iconst (v := (1 : Int32)) hF rfl dL_law_258 ?_
        refine g_iadd hF dL_law_259 ?_
        obtain ⟨v32, h32, h⟩ := gbnd h
        obtain ⟨i32h, e32v⟩ := scr_sp h32
        refine g_sci hFL i32h dL_law_260 ?_
        rw [← e32v]
        obtain ⟨x33, h33, h⟩ := gbnd h
        refine g_callV hF my_X9_load kw_1179 kw_1180 kw_1181 gC_9.1 (by decide) q_30 (c_X9_load (d := d - 1) (by omega) q_30 h33) (by omega) (by omega) (by omega) rfl rfl (Nat.le_of_ble_eq_true rfl) dL_law_261 (g_sameS ?_)
        refine g_istore (ls' := [(6, .int x33.1), (5, .int x28.1), (0, .ref (gSB + 3000)), (1, .ref a1), (2, .ref a2), (3, .ref a3), (4, .int i4)]) hF (by rw [hn]; decide) rfl dL_law_264 ?_
        refine g_aload_n hF 4 rfl rfl dL_law_266 ?_
        obtain ⟨x34, h34, h⟩ := gbnd h
        refine g_callV hF my_X9_thrown kw_1171 kw_1172 kw_1173 gC_9.1 (by decide) q_30 (c_X9_thrown (d := d - 1) (by omega) q_30 h34) (by omega) (by omega) (by omega) rfl rfl (Nat.le_of_ble_eq_true rfl) dL_law_267 (g_sameS ?_)
        refine g_iload hF 1 rfl dL_law_270 ?_
        refine g_icmp_eq (tgt := 277) hF dL_law_272 (by decide) (fun c35 => ?_) (fun c35 => ?_)
        · replace h := gif_t c35 h
          refine g_iload hF 1 rfl dL_law_277 ?_
          refine g_if_ne (tgt := 294) hF dL_law_279 (by decide) (fun c36 => ?_) (fun c36 => ?_)
          · replace h := gif_t c36 h
            refine g_goto (tgt := 1692) hF dL_law_294 (by decide) ?_
            exact gG_sub [2, 3, 4, 5, 6] rfl (t_L_law_1692 hFL hn (by omega) (by omega) (by omega) hc2 hs2 q_29 q_30 q_31 h hR (fun n9 ad9 q9 x9 y9 => hN n9 ad9 q9 (gExt.tr X28 x9) (gad_call y9 X28 W28)))
          · replace h := gif_n c36 h
            refine g_aload_n hF 5 rfl rfl dL_law_282 ?_
            refine g_iconst (v := (0 : Int32)) hF rfl dL_law_283 ?_
            obtain ⟨v37, h37, h⟩ := gbnd h
            obtain ⟨i37h, e37v⟩ := aldl_sp q_31 h37
            refine g_lald hF q_31 i37h dL_law_284 ?_
            rw [← e37v]
            refine g_iload hF 0 rfl dL_law_285 ?_
            refine g_i2l hF dL_law_287 ?_
            refine g_lcmp hF dL_law_288 ?_
            refine g_if_eq (tgt := 294) hF dL_law_289 (by decide) (fun c38 => ?_) (fun c38 => ?_)
            · replace h := gif_t c38 h
              refine g_goto (tgt := 1692) hF dL_law_294 (by decide) ?_
              exact gG_sub [2, 3, 4, 5, 6] rfl (t_L_law_1692 hFL hn (by omega) (by omega) (by omega) hc2 hs2 q_29 q_30 q_31 h hR (fun n9 ad9 q9 x9 y9 => hN n9 ad9 q9 (gExt.tr X28 x9) (gad_call y9 X28 W28)))
            · replace h := gif_f c38 h
              refine g_iconst (v := (0 : Int32)) hF rfl dL_law_292 ?_
              cases h
              exact g_ret_i hF rfl rfl dL_law_293 (hR _ rfl) (by omega) (by omega)
        · replace h := gif_f c35 h
          refine g_iconst (v := (0 : Int32)) hF rfl dL_law_275 ?_
          cases h
          exact g_ret_i hF rfl rfl dL_law_276 (hR _ rfl) (by omega) (by omega)
      · replace h := gif_f c13_1 h
        by_cases c13_2 : (v12 &&& (31 : Int32)) = (2 : Int32)
        · replace h := gif_t c13_2 h
          refine g_tabIn (tgt := 297) (off := 257) hF dL_law_40 (by rw [c13_2]; decide) (by rw [c13_2]; decide) (by rw [c13_2]; decide +kernel) (by decide) ?_
          refine g_aload_n hF 1 rfl rfl dL_law_297 ?_
          obtain ⟨x39, h39, h⟩ := gbnd h
          refine g_callV hF my_X8_errorOffset kw_418 kw_419 kw_420 gC_8.1 (by decide) q1 (c_X8_errorOffset (d := d - 1) (by omega) q1 h39) (by omega) (by omega) (by omega) rfl rfl (Nat.le_of_ble_eq_true rfl) dL_law_298 (g_sameS ?_)
          refine g_aload_n hF 2 rfl rfl dL_law_301 ?_
          obtain ⟨x40, h40, h⟩ := gbnd h
          refine g_callV hF my_X9_errorOffset kw_1311 kw_1312 kw_1313 gC_9.1 (by decide) q2 (c_X9_errorOffset (d := d - 1) (by omega) q2 h40) (by omega) (by omega) (by omega) rfl rfl (Nat.le_of_ble_eq_true rfl) dL_law_302 (g_sameS ?_)
          refine g_icmp_eq (tgt := 1692) hF dL_law_305 (by decide) (fun c41 => ?_) (fun c41 => ?_)
          · replace h := gif_t c41 h
            exact gG_sub [0, 1, 2, 3, 4] rfl (t_L_law_1692 hFL hn (by omega) (by omega) (by omega) hc2 hs2 q1 q2 q3 h hR (fun n9 ad9 q9 x9 y9 => hN n9 ad9 q9 (gExt.tr gExt.rf x9) (gad_call y9 gExt.rf (fun _ _ => rfl))))
          · replace h := gif_f c41 h
            refine g_iconst (v := (0 : Int32)) hF rfl dL_law_308 ?_
            cases h
            exact g_ret_i hF rfl rfl dL_law_309 (hR _ rfl) (by omega) (by omega)
        · replace h := gif_f c13_2 h
          by_cases c13_3 : (v12 &&& (31 : Int32)) = (3 : Int32)
          · replace h := gif_t c13_3 h
            refine g_tabIn (tgt := 310) (off := 270) hF dL_law_40 (by rw [c13_3]; decide) (by rw [c13_3]; decide) (by rw [c13_3]; decide +kernel) (by decide) ?_
            refine g_aload_n hF 1 rfl rfl dL_law_310 ?_
            obtain ⟨x42, h42, h⟩ := gbnd h
            refine g_callV hF my_X8_libraries kw_422 kw_423 kw_424 gC_8.1 (by decide) q1 (c_X8_libraries (d := d - 1) (by omega) q1 h42) (by omega) (by omega) (by omega) rfl rfl (Nat.le_of_ble_eq_true rfl) dL_law_311 (g_sameS ?_)
            refine g_aload_n hF 2 rfl rfl dL_law_314 ?_
            obtain ⟨x43, h43, h⟩ := gbnd h
            refine g_callV hF my_X9_libraries kw_1315 kw_1316 kw_1317 gC_9.1 (by decide) q2 (c_X9_libraries (d := d - 1) (by omega) q2 h43) (by omega) (by omega) (by omega) rfl rfl (Nat.le_of_ble_eq_true rfl) dL_law_315 (g_sameS ?_)
            refine g_icmp_eq (tgt := 1692) hF dL_law_318 (by decide) (fun c44 => ?_) (fun c44 => ?_)
            · replace h := gif_t c44 h
              exact gG_sub [0, 1, 2, 3, 4] rfl (t_L_law_1692 hFL hn (by omega) (by omega) (by omega) hc2 hs2 q1 q2 q3 h hR (fun n9 ad9 q9 x9 y9 => hN n9 ad9 q9 (gExt.tr gExt.rf x9) (gad_call y9 gExt.rf (fun _ _ => rfl))))
            · replace h := gif_f c44 h
              refine g_iconst (v := (0 : Int32)) hF rfl dL_law_321 ?_
              cases h
              exact g_ret_i hF rfl rfl dL_law_322 (hR _ rfl) (by omega) (by omega)
          · replace h := gif_f c13_3 h
            by_cases c13_4 : (v12 &&& (31 : Int32)) = (4 : Int32)
            · replace h := gif_t c13_4 h
              refine g_tabIn (tgt := 323) (off := 283) hF dL_law_40 (by rw [c13_4]; decide) (by rw [c13_4]; decide) (by rw [c13_4]; decide +kernel) (by decide) ?_
              refine g_aload_n hF 1 rfl rfl dL_law_323 ?_
              obtain ⟨x45, h45, h⟩ := gbnd h
              refine g_callV hF my_X8_names kw_426 kw_427 kw_428 gC_8.1 (by decide) q1 (c_X8_names (d := d - 1) (by omega) q1 h45) (by omega) (by omega) (by omega) rfl rfl (Nat.le_of_ble_eq_true rfl) dL_law_324 (g_sameS ?_)
              refine g_aload_n hF 2 rfl rfl dL_law_327 ?_
              obtain ⟨x46, h46, h⟩ := gbnd h
              refine g_callV hF my_X9_names kw_1319 kw_1320 kw_1321 gC_9.1 (by decide) q2 (c_X9_names (d := d - 1) (by omega) q2 h46) (by omega) (by omega) (by omega) rfl rfl (Nat.le_of_ble_eq_true rfl) dL_law_328 (g_sameS ?_)
              refine g_icmp_eq (tgt := 1692) hF dL_law_331 (by decide) (fun c47 => ?_) (fun c47 => ?_)
              · replace h := gif_t c47 h
                exact gG_sub [0, 1, 2, 3, 4] rfl (t_L_law_1692 hFL hn (by omega) (by omega) (by omega) hc2 hs2 q1 q2 q3 h hR (fun n9 ad9 q9 x9 y9 => hN n9 ad9 q9 (gExt.tr gExt.rf x9) (gad_call y9 gExt.rf (fun _ _ => rfl))))
              · replace h := gif_f c47 h
                refine g_iconst (v := (0 : Int32)) hF rfl dL_law_334 ?_
                cases h
                exact g_ret_i hF rfl rfl dL_law_335 (hR _ rfl) (by omega) (by omega)
            · replace h := gif_f c13_4 h
              by_cases c13_5 : (v12 &&& (31 : Int32)) = (5 : Int32)
              · replace h := gif_t c13_5 h
                refine g_tabIn (tgt := 336) (off := 296) hF dL_law_40 (by rw [c13_5]; decide) (by rw [c13_5]; decide) (by rw [c13_5]; decide +kernel) (by decide) ?_
                refine g_aload_n hF 1 rfl rfl dL_law_336 ?_
                obtain ⟨x48, h48, h⟩ := gbnd h
                refine g_callV hF my_X8_share kw_430 kw_431 kw_432 gC_8.1 (by decide) q1 (c_X8_share (d := d - 1) (by omega) q1 h48) (by omega) (by omega) (by omega) rfl rfl (Nat.le_of_ble_eq_true rfl) dL_law_337 (g_sameS ?_)
                refine g_aload_n hF 2 rfl rfl dL_law_340 ?_
                obtain ⟨x49, h49, h⟩ := gbnd h
                refine g_callV hF my_X9_share kw_1323 kw_1324 kw_1325 gC_9.1 (by decide) q2 (c_X9_share (d := d - 1) (by omega) q2 h49) (by omega) (by omega) (by omega) rfl rfl (Nat.le_of_ble_eq_true rfl) dL_law_341 (g_sameS ?_)
                refine g_icmp_eq (tgt := 1692) hF dL_law_344 (by decide) (fun c50 => ?_) (fun c50 => ?_)
                · replace h := gif_t c50 h
                  exact gG_sub [0, 1, 2, 3, 4] rfl (t_L_law_1692 hFL hn (by omega) (by omega) (by omega) hc2 hs2 q1 q2 q3 h hR (fun n9 ad9 q9 x9 y9 => hN n9 ad9 q9 (gExt.tr gExt.rf x9) (gad_call y9 gExt.rf (fun _ _ => rfl))))
                · replace h := gif_f c50 h
                  refine g_iconst (v := (0 : Int32)) hF rfl dL_law_347 ?_
                  cases h
                  exact g_ret_i hF rfl rfl dL_law_348 (hR _ rfl) (by omega) (by omega)
              · replace h := gif_f c13_5 h
                by_cases c13_6 : (v12 &&& (31 : Int32)) = (6 : Int32)
                · replace h := gif_t c13_6 h
                  refine g_tabIn (tgt := 349) (off := 309) hF dL_law_40 (by rw [c13_6]; decide) (by rw [c13_6]; decide) (by rw [c13_6]; decide +kernel) (by decide) ?_
                  refine g_aload_n hF 1 rfl rfl dL_law_349 ?_
                  refine g_aload_n hF 0 rfl rfl dL_law_350 ?_
                  refine g_iload hF 4 rfl dL_law_351 ?_
                  refine g_iconst (v := (1 : Int32)) hF rfl dL_law_353 ?_
                  refine g_iadd hF dL_law_354 ?_
                  obtain ⟨v51, h51, h⟩ := gbnd h
                  obtain ⟨i51h, e51v⟩ := scr_sp h51
                  refine g_sci hFL i51h dL_law_355 ?_
                  rw [← e51v]
                  refine g_aload_n hF 0 rfl rfl dL_law_356 ?_
                  refine g_iload hF 4 rfl dL_law_357 ?_
                  refine g_iconst (v := (2 : Int32)) hF rfl dL_law_359 ?_
                  refine g_iadd hF dL_law_360 ?_
                  obtain ⟨v52, h52, h⟩ := gbnd h
                  obtain ⟨i52h, e52v⟩ := scr_sp h52
                  refine g_sci hFL i52h dL_law_361 ?_
                  rw [← e52v]
                  refine g_aload_n hF 3 rfl rfl dL_law_362 ?_
                  obtain ⟨x53, h53, h⟩ := gbnd h
                  refine g_callSW hF (n := 4) kw_910 kw_104 rfl (by decide +kernel) (by decide +kernel) (by decide) kw_908 kw_909 (c_L_library (d := d - 1) (by omega) q1 q3 h53) (by omega) (by omega) (by omega) rfl rfl (Nat.le_of_ble_eq_true rfl) dL_law_363 (g_sameS ?_)
                  refine g_istore (ls' := [(5, .int x53.1), (0, .ref (gSB + 3000)), (1, .ref a1), (2, .ref a2), (3, .ref a3), (4, .int i4)]) hF (by rw [hn]; decide) rfl dL_law_366 ?_
                  refine g_aload_n hF 3 rfl rfl dL_law_368 ?_
                  refine g_aload_n hF 1 rfl rfl dL_law_369 ?_
                  refine g_iload hF 5 rfl dL_law_370 ?_
                  refine g_iconst (v := (1 : Int32)) hF rfl dL_law_372 ?_
                  refine g_iadd hF dL_law_373 ?_
                  obtain ⟨v54, h54, h⟩ := gbnd h
                  obtain ⟨i54h, e54v⟩ := scr_sp h54
                  refine g_sci hFL i54h dL_law_374 ?_
                  rw [← e54v]
                  refine g_aload_n hF 1 rfl rfl dL_law_375 ?_
                  refine g_iload hF 5 rfl dL_law_376 ?_
                  refine g_iconst (v := (2 : Int32)) hF rfl dL_law_378 ?_
                  refine g_iadd hF dL_law_379 ?_
                  obtain ⟨v55, h55, h⟩ := gbnd h
                  obtain ⟨i55h, e55v⟩ := scr_sp h55
                  refine g_sci hFL i55h dL_law_380 ?_
                  rw [← e55v]
                  obtain ⟨x56, h56, h⟩ := gbnd h
                  refine g_callV hF my_X9_library kw_1327 kw_1328 kw_1329 gC_9.1 (by decide) q2 (c_X9_library (d := d - 1) (by omega) q2 h56) (by omega) (by omega) (by omega) rfl rfl (Nat.le_of_ble_eq_true rfl) dL_law_381 (g_sameS ?_)
                  refine g_istore (ls' := [(6, .int x56.1), (5, .int x53.1), (0, .ref (gSB + 3000)), (1, .ref a1), (2, .ref a2), (3, .ref a3), (4, .int i4)]) hF (by rw [hn]; decide) rfl dL_law_384 ?_
                  refine g_aload_n hF 4 rfl rfl dL_law_386 ?_
                  obtain ⟨x57, h57, h⟩ := gbnd h
                  refine g_callV hF my_X9_thrown kw_1171 kw_1172 kw_1173 gC_9.1 (by decide) q2 (c_X9_thrown (d := d - 1) (by omega) q2 h57) (by omega) (by omega) (by omega) rfl rfl (Nat.le_of_ble_eq_true rfl) dL_law_387 (g_sameS ?_)
                  refine g_iload hF 1 rfl dL_law_390 ?_
                  refine g_icmp_eq (tgt := 397) hF dL_law_392 (by decide) (fun c58 => ?_) (fun c58 => ?_)
                  · replace h := gif_t c58 h
                    refine g_iload hF 1 rfl dL_law_397 ?_
                    refine g_if_ne (tgt := 414) hF dL_law_399 (by decide) (fun c59 => ?_) (fun c59 => ?_)
                    · replace h := gif_t c59 h
                      refine g_goto (tgt := 1692) hF dL_law_414 (by decide) ?_
                      exact gG_sub [2, 3, 4, 5, 6] rfl (t_L_law_1692 hFL hn (by omega) (by omega) (by omega) hc2 hs2 q1 q2 q3 h hR (fun n9 ad9 q9 x9 y9 => hN n9 ad9 q9 (gExt.tr gExt.rf x9) (gad_call y9 gExt.rf (fun _ _ => rfl))))
                    · replace h := gif_n c59 h
                      refine g_aload_n hF 5 rfl rfl dL_law_402 ?_
                      refine g_iconst (v := (0 : Int32)) hF rfl dL_law_403 ?_
                      obtain ⟨v60, h60, h⟩ := gbnd h
                      obtain ⟨i60h, e60v⟩ := aldl_sp q3 h60
                      refine g_lald hF q3 i60h dL_law_404 ?_
                      rw [← e60v]
                      refine g_iload hF 0 rfl dL_law_405 ?_
                      refine g_i2l hF dL_law_407 ?_
                      refine g_lcmp hF dL_law_408 ?_
                      refine g_if_eq (tgt := 414) hF dL_law_409 (by decide) (fun c61 => ?_) (fun c61 => ?_)
                      · replace h := gif_t c61 h
                        refine g_goto (tgt := 1692) hF dL_law_414 (by decide) ?_
                        exact gG_sub [2, 3, 4, 5, 6] rfl (t_L_law_1692 hFL hn (by omega) (by omega) (by omega) hc2 hs2 q1 q2 q3 h hR (fun n9 ad9 q9 x9 y9 => hN n9 ad9 q9 (gExt.tr gExt.rf x9) (gad_call y9 gExt.rf (fun _ _ => rfl))))
                      · replace h := gif_f c61 h
                        refine g_iconst (v := (0 : Int32)) hF rfl dL_law_412 ?_
                        cases h
                        exact g_ret_i hF rfl rfl dL_law_413 (hR _ rfl) (by omega) (by omega)
                  · replace h := gif_f c58 h
                    refine g_iconst (v := (0 : Int32)) hF rfl dL_law_395 ?_
                    cases h
                    exact g_ret_i hF rfl rfl dL_law_396 (hR _ rfl) (by omega) (by omega)
                · replace h := gif_f c13_6 h
                  by_cases c13_7 : (v12 &&& (31 : Int32)) = (7 : Int32)
                  · replace h := gif_t c13_7 h
                    refine g_tabIn (tgt := 417) (off := 377) hF dL_law_40 (by rw [c13_7]; decide) (by rw [c13_7]; decide) (by rw [c13_7]; decide +kernel) (by decide) ?_
                    refine g_aload_n hF 1 rfl rfl dL_law_417 ?_
                    refine g_aload_n hF 0 rfl rfl dL_law_418 ?_
                    refine g_iload hF 4 rfl dL_law_419 ?_
                    refine g_iconst (v := (1 : Int32)) hF rfl dL_law_421 ?_
                    refine g_iadd hF dL_law_422 ?_
                    obtain ⟨v62, h62, h⟩ := gbnd h
                    obtain ⟨i62h, e62v⟩ := scr_sp h62
                    refine g_sci hFL i62h dL_law_423 ?_
                    rw [← e62v]
                    refine g_aload_n hF 0 rfl rfl dL_law_424 ?_
                    refine g_iload hF 4 rfl dL_law_425 ?_
                    refine g_iconst (v := (2 : Int32)) hF rfl dL_law_427 ?_
                    refine g_iadd hF dL_law_428 ?_
                    obtain ⟨v63, h63, h⟩ := gbnd h
                    obtain ⟨i63h, e63v⟩ := scr_sp h63
                    refine g_sci hFL i63h dL_law_429 ?_
                    rw [← e63v]
                    refine g_aload_n hF 3 rfl rfl dL_law_430 ?_
                    obtain ⟨x64, h64, h⟩ := gbnd h
                    refine g_callSW hF (n := 4) kw_915 kw_104 rfl (by decide +kernel) (by decide +kernel) (by decide) kw_913 kw_914 (c_L_offer (d := d - 1) (by omega) q1 q3 h64) (by omega) (by omega) (by omega) rfl rfl (Nat.le_of_ble_eq_true rfl) dL_law_431 (g_sameS ?_)
                    refine g_istore (ls' := [(5, .int x64.1), (0, .ref (gSB + 3000)), (1, .ref a1), (2, .ref a2), (3, .ref a3), (4, .int i4)]) hF (by rw [hn]; decide) rfl dL_law_434 ?_
                    refine g_aload_n hF 3 rfl rfl dL_law_436 ?_
                    refine g_aload_n hF 1 rfl rfl dL_law_437 ?_
                    refine g_iload hF 5 rfl dL_law_438 ?_
                    refine g_iconst (v := (1 : Int32)) hF rfl dL_law_440 ?_
                    refine g_iadd hF dL_law_441 ?_
                    obtain ⟨v65, h65, h⟩ := gbnd h
                    obtain ⟨i65h, e65v⟩ := scr_sp h65
                    refine g_sci hFL i65h dL_law_442 ?_
                    rw [← e65v]
                    refine g_aload_n hF 1 rfl rfl dL_law_443 ?_
                    refine g_iload hF 5 rfl dL_law_444 ?_
                    refine g_iconst (v := (2 : Int32)) hF rfl dL_law_446 ?_
                    refine g_iadd hF dL_law_447 ?_
                    obtain ⟨v66, h66, h⟩ := gbnd h
                    obtain ⟨i66h, e66v⟩ := scr_sp h66
                    refine g_sci hFL i66h dL_law_448 ?_
                    rw [← e66v]
                    obtain ⟨x67, h67, h⟩ := gbnd h
                    refine g_callV hF my_X9_offer kw_1368 kw_1369 kw_1370 gC_9.1 (by decide) q2 (c_X9_offer (d := d - 1) (by omega) q2 h67) (by omega) (by omega) (by omega) rfl rfl (Nat.le_of_ble_eq_true rfl) dL_law_449 (g_sameS ?_)
                    refine g_istore (ls' := [(6, .int x67.1), (5, .int x64.1), (0, .ref (gSB + 3000)), (1, .ref a1), (2, .ref a2), (3, .ref a3), (4, .int i4)]) hF (by rw [hn]; decide) rfl dL_law_452 ?_
                    refine g_aload_n hF 4 rfl rfl dL_law_454 ?_
                    obtain ⟨x68, h68, h⟩ := gbnd h
                    refine g_callV hF my_X9_thrown kw_1171 kw_1172 kw_1173 gC_9.1 (by decide) q2 (c_X9_thrown (d := d - 1) (by omega) q2 h68) (by omega) (by omega) (by omega) rfl rfl (Nat.le_of_ble_eq_true rfl) dL_law_455 (g_sameS ?_)
                    refine g_iload hF 1 rfl dL_law_458 ?_
                    refine g_icmp_eq (tgt := 465) hF dL_law_460 (by decide) (fun c69 => ?_) (fun c69 => ?_)
                    · replace h := gif_t c69 h
                      refine g_iload hF 1 rfl dL_law_465 ?_
                      refine g_if_ne (tgt := 482) hF dL_law_467 (by decide) (fun c70 => ?_) (fun c70 => ?_)
                      · replace h := gif_t c70 h
                        refine g_goto (tgt := 1692) hF dL_law_482 (by decide) ?_
                        exact gG_sub [2, 3, 4, 5, 6] rfl (t_L_law_1692 hFL hn (by omega) (by omega) (by omega) hc2 hs2 q1 q2 q3 h hR (fun n9 ad9 q9 x9 y9 => hN n9 ad9 q9 (gExt.tr gExt.rf x9) (gad_call y9 gExt.rf (fun _ _ => rfl))))
                      · replace h := gif_n c70 h
                        refine g_aload_n hF 5 rfl rfl dL_law_470 ?_
                        refine g_iconst (v := (0 : Int32)) hF rfl dL_law_471 ?_
                        obtain ⟨v71, h71, h⟩ := gbnd h
                        obtain ⟨i71h, e71v⟩ := aldl_sp q3 h71
                        refine g_lald hF q3 i71h dL_law_472 ?_
                        rw [← e71v]
                        refine g_iload hF 0 rfl dL_law_473 ?_
                        refine g_i2l hF dL_law_475 ?_
                        refine g_lcmp hF dL_law_476 ?_
                        refine g_if_eq (tgt := 482) hF dL_law_477 (by decide) (fun c72 => ?_) (fun c72 => ?_)
                        · replace h := gif_t c72 h
                          refine g_goto (tgt := 1692) hF dL_law_482 (by decide) ?_
                          exact gG_sub [2, 3, 4, 5, 6] rfl (t_L_law_1692 hFL hn (by omega) (by omega) (by omega) hc2 hs2 q1 q2 q3 h hR (fun n9 ad9 q9 x9 y9 => hN n9 ad9 q9 (gExt.tr gExt.rf x9) (gad_call y9 gExt.rf (fun _ _ => rfl))))
                        · replace h := gif_f c72 h
                          refine g_iconst (v := (0 : Int32)) hF rfl dL_law_480 ?_
                          cases h
                          exact g_ret_i hF rfl rfl dL_law_481 (hR _ rfl) (by omega) (by omega)
                    · replace h := gif_f c69 h
                      refine g_iconst (v := (0 : Int32)) hF rfl dL_law_463 ?_
                      cases h
                      exact g_ret_i hF rfl rfl dL_law_464 (hR _ rfl) (by omega) (by omega)
                  · replace h := gif_f c13_7 h
                    by_cases c13_8 : (v12 &&& (31 : Int32)) = (8 : Int32)
                    · replace h := gif_t c13_8 h
                      refine g_tabIn (tgt := 485) (off := 445) hF dL_law_40 (by rw [c13_8]; decide) (by rw [c13_8]; decide) (by rw [c13_8]; decide +kernel) (by decide) ?_
                      refine g_aload_n hF 1 rfl rfl dL_law_485 ?_
                      refine g_aload_n hF 0 rfl rfl dL_law_486 ?_
                      refine g_iload hF 4 rfl dL_law_487 ?_
                      refine g_iconst (v := (1 : Int32)) hF rfl dL_law_489 ?_
                      refine g_iadd hF dL_law_490 ?_
                      obtain ⟨v73, h73, h⟩ := gbnd h
                      obtain ⟨i73h, e73v⟩ := scr_sp h73
                      refine g_sci hFL i73h dL_law_491 ?_
                      rw [← e73v]
                      refine g_aload_n hF 3 rfl rfl dL_law_492 ?_
                      obtain ⟨x74, h74, h⟩ := gbnd h
                      refine g_callSW hF (n := 3) kw_919 kw_104 rfl (by decide +kernel) (by decide +kernel) (by decide) kw_917 kw_918 (c_L_candidates (d := d - 1) (by omega) q1 q3 h74) (by omega) (by omega) (by omega) rfl rfl (Nat.le_of_ble_eq_true rfl) dL_law_493 (g_sameS ?_)
                      refine g_istore (ls' := [(5, .int x74.1), (0, .ref (gSB + 3000)), (1, .ref a1), (2, .ref a2), (3, .ref a3), (4, .int i4)]) hF (by rw [hn]; decide) rfl dL_law_496 ?_
                      refine g_aload_n hF 3 rfl rfl dL_law_498 ?_
                      refine g_aload_n hF 1 rfl rfl dL_law_499 ?_
                      refine g_iload hF 5 rfl dL_law_500 ?_
                      refine g_iconst (v := (1 : Int32)) hF rfl dL_law_502 ?_
                      refine g_iadd hF dL_law_503 ?_
                      obtain ⟨v75, h75, h⟩ := gbnd h
                      obtain ⟨i75h, e75v⟩ := scr_sp h75
                      refine g_sci hFL i75h dL_law_504 ?_
                      rw [← e75v]
                      obtain ⟨x76, h76, h⟩ := gbnd h
                      refine g_callV hF my_X9_candidates kw_1376 kw_1377 kw_1378 gC_9.1 (by decide) q2 (c_X9_candidates (d := d - 1) (by omega) q2 h76) (by omega) (by omega) (by omega) rfl rfl (Nat.le_of_ble_eq_true rfl) dL_law_505 (g_sameS ?_)
                      refine g_istore (ls' := [(6, .int x76.1), (5, .int x74.1), (0, .ref (gSB + 3000)), (1, .ref a1), (2, .ref a2), (3, .ref a3), (4, .int i4)]) hF (by rw [hn]; decide) rfl dL_law_508 ?_
                      refine g_aload_n hF 4 rfl rfl dL_law_510 ?_
                      obtain ⟨x77, h77, h⟩ := gbnd h
                      refine g_callV hF my_X9_thrown kw_1171 kw_1172 kw_1173 gC_9.1 (by decide) q2 (c_X9_thrown (d := d - 1) (by omega) q2 h77) (by omega) (by omega) (by omega) rfl rfl (Nat.le_of_ble_eq_true rfl) dL_law_511 (g_sameS ?_)
                      refine g_iload hF 1 rfl dL_law_514 ?_
                      refine g_icmp_eq (tgt := 521) hF dL_law_516 (by decide) (fun c78 => ?_) (fun c78 => ?_)
                      · replace h := gif_t c78 h
                        refine g_iload hF 1 rfl dL_law_521 ?_
                        refine g_if_ne (tgt := 538) hF dL_law_523 (by decide) (fun c79 => ?_) (fun c79 => ?_)
                        · replace h := gif_t c79 h
                          refine g_goto (tgt := 1692) hF dL_law_538 (by decide) ?_
                          exact gG_sub [2, 3, 4, 5, 6] rfl (t_L_law_1692 hFL hn (by omega) (by omega) (by omega) hc2 hs2 q1 q2 q3 h hR (fun n9 ad9 q9 x9 y9 => hN n9 ad9 q9 (gExt.tr gExt.rf x9) (gad_call y9 gExt.rf (fun _ _ => rfl))))
                        · replace h := gif_n c79 h
                          refine g_aload_n hF 5 rfl rfl dL_law_526 ?_
                          refine g_iconst (v := (0 : Int32)) hF rfl dL_law_527 ?_
                          obtain ⟨v80, h80, h⟩ := gbnd h
                          obtain ⟨i80h, e80v⟩ := aldl_sp q3 h80
                          refine g_lald hF q3 i80h dL_law_528 ?_
                          rw [← e80v]
                          refine g_iload hF 0 rfl dL_law_529 ?_
                          refine g_i2l hF dL_law_531 ?_
                          refine g_lcmp hF dL_law_532 ?_
                          refine g_if_eq (tgt := 538) hF dL_law_533 (by decide) (fun c81 => ?_) (fun c81 => ?_)
                          · replace h := gif_t c81 h
                            refine g_goto (tgt := 1692) hF dL_law_538 (by decide) ?_
                            exact gG_sub [2, 3, 4, 5, 6] rfl (t_L_law_1692 hFL hn (by omega) (by omega) (by omega) hc2 hs2 q1 q2 q3 h hR (fun n9 ad9 q9 x9 y9 => hN n9 ad9 q9 (gExt.tr gExt.rf x9) (gad_call y9 gExt.rf (fun _ _ => rfl))))
                          · replace h := gif_f c81 h
                            refine g_iconst (v := (0 : Int32)) hF rfl dL_law_536 ?_
                            cases h
                            exact g_ret_i hF rfl rfl dL_law_537 (hR _ rfl) (by omega) (by omega)
                      · replace h := gif_f c78 h
                        refine g_iconst (v := (0 : Int32)) hF rfl dL_law_519 ?_
                        cases h
                        exact g_ret_i hF rfl rfl dL_law_520 (hR _ rfl) (by omega) (by omega)
                    · replace h := gif_f c13_8 h
                      by_cases c13_9 : (v12 &&& (31 : Int32)) = (9 : Int32)
                      · replace h := gif_t c13_9 h
                        refine g_tabIn (tgt := 541) (off := 501) hF dL_law_40 (by rw [c13_9]; decide) (by rw [c13_9]; decide) (by rw [c13_9]; decide +kernel) (by decide) ?_
                        refine g_aload_n hF 1 rfl rfl dL_law_541 ?_
                        refine g_aload_n hF 0 rfl rfl dL_law_542 ?_
                        refine g_iload hF 4 rfl dL_law_543 ?_
                        refine g_iconst (v := (1 : Int32)) hF rfl dL_law_545 ?_
                        refine g_iadd hF dL_law_546 ?_
                        obtain ⟨v82, h82, h⟩ := gbnd h
                        obtain ⟨i82h, e82v⟩ := scr_sp h82
                        refine g_sci hFL i82h dL_law_547 ?_
                        rw [← e82v]
                        refine g_aload_n hF 0 rfl rfl dL_law_548 ?_
                        refine g_iload hF 4 rfl dL_law_549 ?_
                        refine g_iconst (v := (2 : Int32)) hF rfl dL_law_551 ?_
                        refine g_iadd hF dL_law_552 ?_
                        obtain ⟨v83, h83, h⟩ := gbnd h
                        obtain ⟨i83h, e83v⟩ := scr_sp h83
                        refine g_sci hFL i83h dL_law_553 ?_
                        rw [← e83v]
                        refine g_aload_n hF 3 rfl rfl dL_law_554 ?_
                        obtain ⟨x84, h84, h⟩ := gbnd h
                        refine g_callSW hF (n := 4) kw_926 kw_104 rfl (by decide +kernel) (by decide +kernel) (by decide) kw_924 kw_925 (c_L_vote (d := d - 1) (by omega) q1 q3 h84) (by omega) (by omega) (by omega) rfl rfl (Nat.le_of_ble_eq_true rfl) dL_law_555 (g_sameS ?_)
                        refine g_istore (ls' := [(5, .int x84.1), (0, .ref (gSB + 3000)), (1, .ref a1), (2, .ref a2), (3, .ref a3), (4, .int i4)]) hF (by rw [hn]; decide) rfl dL_law_558 ?_
                        refine g_aload_n hF 3 rfl rfl dL_law_560 ?_
                        refine g_aload_n hF 1 rfl rfl dL_law_561 ?_
                        refine g_iload hF 5 rfl dL_law_562 ?_
                        refine g_iconst (v := (1 : Int32)) hF rfl dL_law_564 ?_
                        refine g_iadd hF dL_law_565 ?_
                        obtain ⟨v85, h85, h⟩ := gbnd h
                        obtain ⟨i85h, e85v⟩ := scr_sp h85
                        refine g_sci hFL i85h dL_law_566 ?_
                        rw [← e85v]
                        refine g_aload_n hF 1 rfl rfl dL_law_567 ?_
                        refine g_iload hF 5 rfl dL_law_568 ?_
                        refine g_iconst (v := (2 : Int32)) hF rfl dL_law_570 ?_
                        refine g_iadd hF dL_law_571 ?_
                        obtain ⟨v86, h86, h⟩ := gbnd h
                        obtain ⟨i86h, e86v⟩ := scr_sp h86
                        refine g_sci hFL i86h dL_law_572 ?_
                        rw [← e86v]
                        obtain ⟨x87, h87, h⟩ := gbnd h
                        refine g_callV hF my_X9_vote kw_1384 kw_1385 kw_1386 gC_9.1 (by decide) q2 (c_X9_vote (d := d - 1) (by omega) q2 h87) (by omega) (by omega) (by omega) rfl rfl (Nat.le_of_ble_eq_true rfl) dL_law_573 (g_sameS ?_)
                        refine g_istore (ls' := [(6, .int x87.1), (5, .int x84.1), (0, .ref (gSB + 3000)), (1, .ref a1), (2, .ref a2), (3, .ref a3), (4, .int i4)]) hF (by rw [hn]; decide) rfl dL_law_576 ?_
                        refine g_aload_n hF 4 rfl rfl dL_law_578 ?_
                        obtain ⟨x88, h88, h⟩ := gbnd h
                        refine g_callV hF my_X9_thrown kw_1171 kw_1172 kw_1173 gC_9.1 (by decide) q2 (c_X9_thrown (d := d - 1) (by omega) q2 h88) (by omega) (by omega) (by omega) rfl rfl (Nat.le_of_ble_eq_true rfl) dL_law_579 (g_sameS ?_)
                        refine g_iload hF 1 rfl dL_law_582 ?_
                        refine g_icmp_eq (tgt := 589) hF dL_law_584 (by decide) (fun c89 => ?_) (fun c89 => ?_)
                        · replace h := gif_t c89 h
                          refine g_iload hF 1 rfl dL_law_589 ?_
                          refine g_if_ne (tgt := 606) hF dL_law_591 (by decide) (fun c90 => ?_) (fun c90 => ?_)
                          · replace h := gif_t c90 h
                            refine g_goto (tgt := 1692) hF dL_law_606 (by decide) ?_
                            exact gG_sub [2, 3, 4, 5, 6] rfl (t_L_law_1692 hFL hn (by omega) (by omega) (by omega) hc2 hs2 q1 q2 q3 h hR (fun n9 ad9 q9 x9 y9 => hN n9 ad9 q9 (gExt.tr gExt.rf x9) (gad_call y9 gExt.rf (fun _ _ => rfl))))
                          · replace h := gif_n c90 h
                            refine g_aload_n hF 5 rfl rfl dL_law_594 ?_
                            refine g_iconst (v := (0 : Int32)) hF rfl dL_law_595 ?_
                            obtain ⟨v91, h91, h⟩ := gbnd h
                            obtain ⟨i91h, e91v⟩ := aldl_sp q3 h91
                            refine g_lald hF q3 i91h dL_law_596 ?_
                            rw [← e91v]
                            refine g_iload hF 0 rfl dL_law_597 ?_
                            refine g_i2l hF dL_law_599 ?_
                            refine g_lcmp hF dL_law_600 ?_
                            refine g_if_eq (tgt := 606) hF dL_law_601 (by decide) (fun c92 => ?_) (fun c92 => ?_)
                            · replace h := gif_t c92 h
                              refine g_goto (tgt := 1692) hF dL_law_606 (by decide) ?_
                              exact gG_sub [2, 3, 4, 5, 6] rfl (t_L_law_1692 hFL hn (by omega) (by omega) (by omega) hc2 hs2 q1 q2 q3 h hR (fun n9 ad9 q9 x9 y9 => hN n9 ad9 q9 (gExt.tr gExt.rf x9) (gad_call y9 gExt.rf (fun _ _ => rfl))))
                            · replace h := gif_f c92 h
                              refine g_iconst (v := (0 : Int32)) hF rfl dL_law_604 ?_
                              cases h
                              exact g_ret_i hF rfl rfl dL_law_605 (hR _ rfl) (by omega) (by omega)
                        · replace h := gif_f c89 h
                          refine g_iconst (v := (0 : Int32)) hF rfl dL_law_587 ?_
                          cases h
                          exact g_ret_i hF rfl rfl dL_law_588 (hR _ rfl) (by omega) (by omega)
                      · replace h := gif_f c13_9 h
                        by_cases c13_10 : (v12 &&& (31 : Int32)) = (10 : Int32)
                        · replace h := gif_t c13_10 h
                          refine g_tabIn (tgt := 609) (off := 569) hF dL_law_40 (by rw [c13_10]; decide) (by rw [c13_10]; decide) (by rw [c13_10]; decide +kernel) (by decide) ?_
                          refine g_aload_n hF 1 rfl rfl dL_law_609 ?_
                          refine g_aload_n hF 0 rfl rfl dL_law_610 ?_
                          refine g_iload hF 4 rfl dL_law_611 ?_
                          refine g_iconst (v := (1 : Int32)) hF rfl dL_law_613 ?_
                          refine g_iadd hF dL_law_614 ?_
                          obtain ⟨v93, h93, h⟩ := gbnd h
                          obtain ⟨i93h, e93v⟩ := scr_sp h93
                          refine g_sci hFL i93h dL_law_615 ?_
                          rw [← e93v]
                          refine g_aload_n hF 0 rfl rfl dL_law_616 ?_
                          refine g_iload hF 4 rfl dL_law_617 ?_
                          refine g_iconst (v := (2 : Int32)) hF rfl dL_law_619 ?_
                          refine g_iadd hF dL_law_620 ?_
                          obtain ⟨v94, h94, h⟩ := gbnd h
                          obtain ⟨i94h, e94v⟩ := scr_sp h94
                          refine g_sci hFL i94h dL_law_621 ?_
                          rw [← e94v]
                          refine g_aload_n hF 3 rfl rfl dL_law_622 ?_
                          obtain ⟨x95, h95, h⟩ := gbnd h
                          refine g_callSW hF (n := 4) kw_933 kw_104 rfl (by decide +kernel) (by decide +kernel) (by decide) kw_931 kw_932 (c_L_support (d := d - 1) (by omega) q1 q3 h95) (by omega) (by omega) (by omega) rfl rfl (Nat.le_of_ble_eq_true rfl) dL_law_623 (g_sameS ?_)
                          refine g_istore (ls' := [(5, .int x95.1), (0, .ref (gSB + 3000)), (1, .ref a1), (2, .ref a2), (3, .ref a3), (4, .int i4)]) hF (by rw [hn]; decide) rfl dL_law_626 ?_
                          refine g_aload_n hF 3 rfl rfl dL_law_628 ?_
                          refine g_aload_n hF 1 rfl rfl dL_law_629 ?_
                          refine g_iload hF 5 rfl dL_law_630 ?_
                          refine g_iconst (v := (1 : Int32)) hF rfl dL_law_632 ?_
                          refine g_iadd hF dL_law_633 ?_
                          obtain ⟨v96, h96, h⟩ := gbnd h
                          obtain ⟨i96h, e96v⟩ := scr_sp h96
                          refine g_sci hFL i96h dL_law_634 ?_
                          rw [← e96v]
                          refine g_aload_n hF 1 rfl rfl dL_law_635 ?_
                          refine g_iload hF 5 rfl dL_law_636 ?_
                          refine g_iconst (v := (2 : Int32)) hF rfl dL_law_638 ?_
                          refine g_iadd hF dL_law_639 ?_
                          obtain ⟨v97, h97, h⟩ := gbnd h
                          obtain ⟨i97h, e97v⟩ := scr_sp h97
                          refine g_sci hFL i97h dL_law_640 ?_
                          rw [← e97v]
                          obtain ⟨x98, h98, h⟩ := gbnd h
                          refine g_callV hF my_X9_support kw_1392 kw_1393 kw_1394 gC_9.1 (by decide) q2 (c_X9_support (d := d - 1) (by omega) q2 h98) (by omega) (by omega) (by omega) rfl rfl (Nat.le_of_ble_eq_true rfl) dL_law_641 (g_sameS ?_)
                          refine g_istore (ls' := [(6, .int x98.1), (5, .int x95.1), (0, .ref (gSB + 3000)), (1, .ref a1), (2, .ref a2), (3, .ref a3), (4, .int i4)]) hF (by rw [hn]; decide) rfl dL_law_644 ?_
                          refine g_aload_n hF 4 rfl rfl dL_law_646 ?_
                          obtain ⟨x99, h99, h⟩ := gbnd h
                          refine g_callV hF my_X9_thrown kw_1171 kw_1172 kw_1173 gC_9.1 (by decide) q2 (c_X9_thrown (d := d - 1) (by omega) q2 h99) (by omega) (by omega) (by omega) rfl rfl (Nat.le_of_ble_eq_true rfl) dL_law_647 (g_sameS ?_)
                          refine g_iload hF 1 rfl dL_law_650 ?_
                          refine g_icmp_eq (tgt := 657) hF dL_law_652 (by decide) (fun c100 => ?_) (fun c100 => ?_)
                          · replace h := gif_t c100 h
                            refine g_iload hF 1 rfl dL_law_657 ?_
                            refine g_if_ne (tgt := 674) hF dL_law_659 (by decide) (fun c101 => ?_) (fun c101 => ?_)
                            · replace h := gif_t c101 h
                              refine g_goto (tgt := 1692) hF dL_law_674 (by decide) ?_
                              exact gG_sub [2, 3, 4, 5, 6] rfl (t_L_law_1692 hFL hn (by omega) (by omega) (by omega) hc2 hs2 q1 q2 q3 h hR (fun n9 ad9 q9 x9 y9 => hN n9 ad9 q9 (gExt.tr gExt.rf x9) (gad_call y9 gExt.rf (fun _ _ => rfl))))
                            · replace h := gif_n c101 h
                              refine g_aload_n hF 5 rfl rfl dL_law_662 ?_
                              refine g_iconst (v := (0 : Int32)) hF rfl dL_law_663 ?_
                              obtain ⟨v102, h102, h⟩ := gbnd h
                              obtain ⟨i102h, e102v⟩ := aldl_sp q3 h102
                              refine g_lald hF q3 i102h dL_law_664 ?_
                              rw [← e102v]
                              refine g_iload hF 0 rfl dL_law_665 ?_
                              refine g_i2l hF dL_law_667 ?_
                              refine g_lcmp hF dL_law_668 ?_
                              refine g_if_eq (tgt := 674) hF dL_law_669 (by decide) (fun c103 => ?_) (fun c103 => ?_)
                              · replace h := gif_t c103 h
                                refine g_goto (tgt := 1692) hF dL_law_674 (by decide) ?_
                                exact gG_sub [2, 3, 4, 5, 6] rfl (t_L_law_1692 hFL hn (by omega) (by omega) (by omega) hc2 hs2 q1 q2 q3 h hR (fun n9 ad9 q9 x9 y9 => hN n9 ad9 q9 (gExt.tr gExt.rf x9) (gad_call y9 gExt.rf (fun _ _ => rfl))))
                              · replace h := gif_f c103 h
                                refine g_iconst (v := (0 : Int32)) hF rfl dL_law_672 ?_
                                cases h
                                exact g_ret_i hF rfl rfl dL_law_673 (hR _ rfl) (by omega) (by omega)
                          · replace h := gif_f c100 h
                            refine g_iconst (v := (0 : Int32)) hF rfl dL_law_655 ?_
                            cases h
                            exact g_ret_i hF rfl rfl dL_law_656 (hR _ rfl) (by omega) (by omega)
                        · replace h := gif_f c13_10 h
                          by_cases c13_11 : (v12 &&& (31 : Int32)) = (11 : Int32)
                          · replace h := gif_t c13_11 h
                            refine g_tabIn (tgt := 677) (off := 637) hF dL_law_40 (by rw [c13_11]; decide) (by rw [c13_11]; decide) (by rw [c13_11]; decide +kernel) (by decide) ?_
                            refine g_aload_n hF 1 rfl rfl dL_law_677 ?_
                            refine g_aload_n hF 0 rfl rfl dL_law_678 ?_
                            refine g_iload hF 4 rfl dL_law_679 ?_
                            refine g_iconst (v := (1 : Int32)) hF rfl dL_law_681 ?_
                            refine g_iadd hF dL_law_682 ?_
                            obtain ⟨v104, h104, h⟩ := gbnd h
                            obtain ⟨i104h, e104v⟩ := scr_sp h104
                            refine g_sci hFL i104h dL_law_683 ?_
                            rw [← e104v]
                            refine g_aload_n hF 3 rfl rfl dL_law_684 ?_
                            obtain ⟨x105, h105, h⟩ := gbnd h
                            refine g_callSW hF (n := 3) kw_940 kw_104 rfl (by decide +kernel) (by decide +kernel) (by decide) kw_938 kw_939 (c_L_winner (d := d - 1) (by omega) q1 q3 h105) (by omega) (by omega) (by omega) rfl rfl (Nat.le_of_ble_eq_true rfl) dL_law_685 (g_sameS ?_)
                            refine g_istore (ls' := [(5, .int x105.1), (0, .ref (gSB + 3000)), (1, .ref a1), (2, .ref a2), (3, .ref a3), (4, .int i4)]) hF (by rw [hn]; decide) rfl dL_law_688 ?_
                            refine g_aload_n hF 3 rfl rfl dL_law_690 ?_
                            refine g_aload_n hF 1 rfl rfl dL_law_691 ?_
                            refine g_iload hF 5 rfl dL_law_692 ?_
                            refine g_iconst (v := (1 : Int32)) hF rfl dL_law_694 ?_
                            refine g_iadd hF dL_law_695 ?_
                            obtain ⟨v106, h106, h⟩ := gbnd h
                            obtain ⟨i106h, e106v⟩ := scr_sp h106
                            refine g_sci hFL i106h dL_law_696 ?_
                            rw [← e106v]
                            obtain ⟨x107, h107, h⟩ := gbnd h
                            refine g_callV hF my_X9_winner kw_1408 kw_1409 kw_1410 gC_9.1 (by decide) q2 (c_X9_winner (d := d - 1) (by omega) q2 h107) (by omega) (by omega) (by omega) rfl rfl (Nat.le_of_ble_eq_true rfl) dL_law_697 (g_sameS ?_)
                            refine g_istore (ls' := [(6, .int x107.1), (5, .int x105.1), (0, .ref (gSB + 3000)), (1, .ref a1), (2, .ref a2), (3, .ref a3), (4, .int i4)]) hF (by rw [hn]; decide) rfl dL_law_700 ?_
                            refine g_aload_n hF 4 rfl rfl dL_law_702 ?_
                            obtain ⟨x108, h108, h⟩ := gbnd h
                            refine g_callV hF my_X9_thrown kw_1171 kw_1172 kw_1173 gC_9.1 (by decide) q2 (c_X9_thrown (d := d - 1) (by omega) q2 h108) (by omega) (by omega) (by omega) rfl rfl (Nat.le_of_ble_eq_true rfl) dL_law_703 (g_sameS ?_)
                            refine g_iload hF 1 rfl dL_law_706 ?_
                            refine g_icmp_eq (tgt := 713) hF dL_law_708 (by decide) (fun c109 => ?_) (fun c109 => ?_)
                            · replace h := gif_t c109 h
                              refine g_iload hF 1 rfl dL_law_713 ?_
                              refine g_if_ne (tgt := 730) hF dL_law_715 (by decide) (fun c110 => ?_) (fun c110 => ?_)
                              · replace h := gif_t c110 h
                                refine g_goto (tgt := 1692) hF dL_law_730 (by decide) ?_
                                exact gG_sub [2, 3, 4, 5, 6] rfl (t_L_law_1692 hFL hn (by omega) (by omega) (by omega) hc2 hs2 q1 q2 q3 h hR (fun n9 ad9 q9 x9 y9 => hN n9 ad9 q9 (gExt.tr gExt.rf x9) (gad_call y9 gExt.rf (fun _ _ => rfl))))
                              · replace h := gif_n c110 h
                                refine g_aload_n hF 5 rfl rfl dL_law_718 ?_
                                refine g_iconst (v := (0 : Int32)) hF rfl dL_law_719 ?_
                                obtain ⟨v111, h111, h⟩ := gbnd h
                                obtain ⟨i111h, e111v⟩ := aldl_sp q3 h111
                                refine g_lald hF q3 i111h dL_law_720 ?_
                                rw [← e111v]
                                refine g_iload hF 0 rfl dL_law_721 ?_
                                refine g_i2l hF dL_law_723 ?_
                                refine g_lcmp hF dL_law_724 ?_
                                refine g_if_eq (tgt := 730) hF dL_law_725 (by decide) (fun c112 => ?_) (fun c112 => ?_)
                                · replace h := gif_t c112 h
                                  refine g_goto (tgt := 1692) hF dL_law_730 (by decide) ?_
                                  exact gG_sub [2, 3, 4, 5, 6] rfl (t_L_law_1692 hFL hn (by omega) (by omega) (by omega) hc2 hs2 q1 q2 q3 h hR (fun n9 ad9 q9 x9 y9 => hN n9 ad9 q9 (gExt.tr gExt.rf x9) (gad_call y9 gExt.rf (fun _ _ => rfl))))
                                · replace h := gif_f c112 h
                                  refine g_iconst (v := (0 : Int32)) hF rfl dL_law_728 ?_
                                  cases h
                                  exact g_ret_i hF rfl rfl dL_law_729 (hR _ rfl) (by omega) (by omega)
                            · replace h := gif_f c109 h
                              refine g_iconst (v := (0 : Int32)) hF rfl dL_law_711 ?_
                              cases h
                              exact g_ret_i hF rfl rfl dL_law_712 (hR _ rfl) (by omega) (by omega)
                          · replace h := gif_f c13_11 h
                            by_cases c13_12 : (v12 &&& (31 : Int32)) = (12 : Int32)
                            · replace h := gif_t c13_12 h
                              refine g_tabIn (tgt := 733) (off := 693) hF dL_law_40 (by rw [c13_12]; decide) (by rw [c13_12]; decide) (by rw [c13_12]; decide +kernel) (by decide) ?_
                              refine g_aload_n hF 1 rfl rfl dL_law_733 ?_
                              refine g_aload_n hF 0 rfl rfl dL_law_734 ?_
                              refine g_iload hF 4 rfl dL_law_735 ?_
                              refine g_iconst (v := (1 : Int32)) hF rfl dL_law_737 ?_
                              refine g_iadd hF dL_law_738 ?_
                              obtain ⟨v113, h113, h⟩ := gbnd h
                              obtain ⟨i113h, e113v⟩ := scr_sp h113
                              refine g_sci hFL i113h dL_law_739 ?_
                              rw [← e113v]
                              refine g_aload_n hF 3 rfl rfl dL_law_740 ?_
                              obtain ⟨x114, h114, h⟩ := gbnd h
                              refine g_callSW hF (n := 3) kw_947 kw_104 rfl (by decide +kernel) (by decide +kernel) (by decide) kw_945 kw_946 (c_L_margin (d := d - 1) (by omega) q1 q3 h114) (by omega) (by omega) (by omega) rfl rfl (Nat.le_of_ble_eq_true rfl) dL_law_741 (g_sameS ?_)
                              refine g_istore (ls' := [(5, .int x114.1), (0, .ref (gSB + 3000)), (1, .ref a1), (2, .ref a2), (3, .ref a3), (4, .int i4)]) hF (by rw [hn]; decide) rfl dL_law_744 ?_
                              refine g_aload_n hF 3 rfl rfl dL_law_746 ?_
                              refine g_aload_n hF 1 rfl rfl dL_law_747 ?_
                              refine g_iload hF 5 rfl dL_law_748 ?_
                              refine g_iconst (v := (1 : Int32)) hF rfl dL_law_750 ?_
                              refine g_iadd hF dL_law_751 ?_
                              obtain ⟨v115, h115, h⟩ := gbnd h
                              obtain ⟨i115h, e115v⟩ := scr_sp h115
                              refine g_sci hFL i115h dL_law_752 ?_
                              rw [← e115v]
                              obtain ⟨x116, h116, h⟩ := gbnd h
                              refine g_callV hF my_X9_margin kw_1412 kw_1413 kw_1414 gC_9.1 (by decide) q2 (c_X9_margin (d := d - 1) (by omega) q2 h116) (by omega) (by omega) (by omega) rfl rfl (Nat.le_of_ble_eq_true rfl) dL_law_753 (g_sameS ?_)
                              refine g_istore (ls' := [(6, .int x116.1), (5, .int x114.1), (0, .ref (gSB + 3000)), (1, .ref a1), (2, .ref a2), (3, .ref a3), (4, .int i4)]) hF (by rw [hn]; decide) rfl dL_law_756 ?_
                              refine g_aload_n hF 4 rfl rfl dL_law_758 ?_
                              obtain ⟨x117, h117, h⟩ := gbnd h
                              refine g_callV hF my_X9_thrown kw_1171 kw_1172 kw_1173 gC_9.1 (by decide) q2 (c_X9_thrown (d := d - 1) (by omega) q2 h117) (by omega) (by omega) (by omega) rfl rfl (Nat.le_of_ble_eq_true rfl) dL_law_759 (g_sameS ?_)
                              refine g_iload hF 1 rfl dL_law_762 ?_
                              refine g_icmp_eq (tgt := 769) hF dL_law_764 (by decide) (fun c118 => ?_) (fun c118 => ?_)
                              · replace h := gif_t c118 h
                                refine g_iload hF 1 rfl dL_law_769 ?_
                                refine g_if_ne (tgt := 786) hF dL_law_771 (by decide) (fun c119 => ?_) (fun c119 => ?_)
                                · replace h := gif_t c119 h
                                  refine g_goto (tgt := 1692) hF dL_law_786 (by decide) ?_
                                  exact gG_sub [2, 3, 4, 5, 6] rfl (t_L_law_1692 hFL hn (by omega) (by omega) (by omega) hc2 hs2 q1 q2 q3 h hR (fun n9 ad9 q9 x9 y9 => hN n9 ad9 q9 (gExt.tr gExt.rf x9) (gad_call y9 gExt.rf (fun _ _ => rfl))))
                                · replace h := gif_n c119 h
                                  refine g_aload_n hF 5 rfl rfl dL_law_774 ?_
                                  refine g_iconst (v := (0 : Int32)) hF rfl dL_law_775 ?_
                                  obtain ⟨v120, h120, h⟩ := gbnd h
                                  obtain ⟨i120h, e120v⟩ := aldl_sp q3 h120
                                  refine g_lald hF q3 i120h dL_law_776 ?_
                                  rw [← e120v]
                                  refine g_iload hF 0 rfl dL_law_777 ?_
                                  refine g_i2l hF dL_law_779 ?_
                                  refine g_lcmp hF dL_law_780 ?_
                                  refine g_if_eq (tgt := 786) hF dL_law_781 (by decide) (fun c121 => ?_) (fun c121 => ?_)
                                  · replace h := gif_t c121 h
                                    refine g_goto (tgt := 1692) hF dL_law_786 (by decide) ?_
                                    exact gG_sub [2, 3, 4, 5, 6] rfl (t_L_law_1692 hFL hn (by omega) (by omega) (by omega) hc2 hs2 q1 q2 q3 h hR (fun n9 ad9 q9 x9 y9 => hN n9 ad9 q9 (gExt.tr gExt.rf x9) (gad_call y9 gExt.rf (fun _ _ => rfl))))
                                  · replace h := gif_f c121 h
                                    refine g_iconst (v := (0 : Int32)) hF rfl dL_law_784 ?_
                                    cases h
                                    exact g_ret_i hF rfl rfl dL_law_785 (hR _ rfl) (by omega) (by omega)
                              · replace h := gif_f c118 h
                                refine g_iconst (v := (0 : Int32)) hF rfl dL_law_767 ?_
                                cases h
                                exact g_ret_i hF rfl rfl dL_law_768 (hR _ rfl) (by omega) (by omega)
                            · replace h := gif_f c13_12 h
                              by_cases c13_13 : (v12 &&& (31 : Int32)) = (13 : Int32)
                              · replace h := gif_t c13_13 h
                                refine g_tabIn (tgt := 789) (off := 749) hF dL_law_40 (by rw [c13_13]; decide) (by rw [c13_13]; decide) (by rw [c13_13]; decide +kernel) (by decide) ?_
                                refine g_aload_n hF 1 rfl rfl dL_law_789 ?_
                                refine g_aload_n hF 0 rfl rfl dL_law_790 ?_
                                refine g_iload hF 4 rfl dL_law_791 ?_
                                refine g_iconst (v := (1 : Int32)) hF rfl dL_law_793 ?_
                                refine g_iadd hF dL_law_794 ?_
                                obtain ⟨v122, h122, h⟩ := gbnd h
                                obtain ⟨i122h, e122v⟩ := scr_sp h122
                                refine g_sci hFL i122h dL_law_795 ?_
                                rw [← e122v]
                                refine g_aload_n hF 0 rfl rfl dL_law_796 ?_
                                refine g_iload hF 4 rfl dL_law_797 ?_
                                refine g_iconst (v := (2 : Int32)) hF rfl dL_law_799 ?_
                                refine g_iadd hF dL_law_800 ?_
                                obtain ⟨v123, h123, h⟩ := gbnd h
                                obtain ⟨i123h, e123v⟩ := scr_sp h123
                                refine g_sci hFL i123h dL_law_801 ?_
                                rw [← e123v]
                                refine g_aload_n hF 3 rfl rfl dL_law_802 ?_
                                obtain ⟨x124, h124, h⟩ := gbnd h
                                refine g_callSW hF (n := 4) kw_954 kw_104 rfl (by decide +kernel) (by decide +kernel) (by decide) kw_952 kw_953 (c_L_binding (d := d - 1) (by omega) q1 q3 h124) (by omega) (by omega) (by omega) rfl rfl (Nat.le_of_ble_eq_true rfl) dL_law_803 (g_sameS ?_)
                                refine g_istore (ls' := [(5, .int x124.1), (0, .ref (gSB + 3000)), (1, .ref a1), (2, .ref a2), (3, .ref a3), (4, .int i4)]) hF (by rw [hn]; decide) rfl dL_law_806 ?_
                                refine g_aload_n hF 3 rfl rfl dL_law_808 ?_
                                refine g_aload_n hF 1 rfl rfl dL_law_809 ?_
                                refine g_iload hF 5 rfl dL_law_810 ?_
                                refine g_iconst (v := (1 : Int32)) hF rfl dL_law_812 ?_
                                refine g_iadd hF dL_law_813 ?_
                                obtain ⟨v125, h125, h⟩ := gbnd h
                                obtain ⟨i125h, e125v⟩ := scr_sp h125
                                refine g_sci hFL i125h dL_law_814 ?_
                                rw [← e125v]
                                refine g_aload_n hF 1 rfl rfl dL_law_815 ?_
                                refine g_iload hF 5 rfl dL_law_816 ?_
                                refine g_iconst (v := (2 : Int32)) hF rfl dL_law_818 ?_
                                refine g_iadd hF dL_law_819 ?_
                                obtain ⟨v126, h126, h⟩ := gbnd h
                                obtain ⟨i126h, e126v⟩ := scr_sp h126
                                refine g_sci hFL i126h dL_law_820 ?_
                                rw [← e126v]
                                obtain ⟨x127, h127, h⟩ := gbnd h
                                refine g_callV hF my_X9_binding kw_1416 kw_1417 kw_1418 gC_9.1 (by decide) q2 (c_X9_binding (d := d - 1) (by omega) q2 h127) (by omega) (by omega) (by omega) rfl rfl (Nat.le_of_ble_eq_true rfl) dL_law_821 (g_sameS ?_)
                                refine g_istore (ls' := [(6, .int x127.1), (5, .int x124.1), (0, .ref (gSB + 3000)), (1, .ref a1), (2, .ref a2), (3, .ref a3), (4, .int i4)]) hF (by rw [hn]; decide) rfl dL_law_824 ?_
                                refine g_aload_n hF 4 rfl rfl dL_law_826 ?_
                                obtain ⟨x128, h128, h⟩ := gbnd h
                                refine g_callV hF my_X9_thrown kw_1171 kw_1172 kw_1173 gC_9.1 (by decide) q2 (c_X9_thrown (d := d - 1) (by omega) q2 h128) (by omega) (by omega) (by omega) rfl rfl (Nat.le_of_ble_eq_true rfl) dL_law_827 (g_sameS ?_)
                                refine g_iload hF 1 rfl dL_law_830 ?_
                                refine g_icmp_eq (tgt := 837) hF dL_law_832 (by decide) (fun c129 => ?_) (fun c129 => ?_)
                                · replace h := gif_t c129 h
                                  refine g_iload hF 1 rfl dL_law_837 ?_
                                  refine g_if_ne (tgt := 854) hF dL_law_839 (by decide) (fun c130 => ?_) (fun c130 => ?_)
                                  · replace h := gif_t c130 h
                                    refine g_goto (tgt := 1692) hF dL_law_854 (by decide) ?_
                                    exact gG_sub [2, 3, 4, 5, 6] rfl (t_L_law_1692 hFL hn (by omega) (by omega) (by omega) hc2 hs2 q1 q2 q3 h hR (fun n9 ad9 q9 x9 y9 => hN n9 ad9 q9 (gExt.tr gExt.rf x9) (gad_call y9 gExt.rf (fun _ _ => rfl))))
                                  · replace h := gif_n c130 h
                                    refine g_aload_n hF 5 rfl rfl dL_law_842 ?_
                                    refine g_iconst (v := (0 : Int32)) hF rfl dL_law_843 ?_
                                    obtain ⟨v131, h131, h⟩ := gbnd h
                                    obtain ⟨i131h, e131v⟩ := aldl_sp q3 h131
                                    refine g_lald hF q3 i131h dL_law_844 ?_
                                    rw [← e131v]
                                    refine g_iload hF 0 rfl dL_law_845 ?_
                                    refine g_i2l hF dL_law_847 ?_
                                    refine g_lcmp hF dL_law_848 ?_
                                    refine g_if_eq (tgt := 854) hF dL_law_849 (by decide) (fun c132 => ?_) (fun c132 => ?_)
                                    · replace h := gif_t c132 h
                                      refine g_goto (tgt := 1692) hF dL_law_854 (by decide) ?_
                                      exact gG_sub [2, 3, 4, 5, 6] rfl (t_L_law_1692 hFL hn (by omega) (by omega) (by omega) hc2 hs2 q1 q2 q3 h hR (fun n9 ad9 q9 x9 y9 => hN n9 ad9 q9 (gExt.tr gExt.rf x9) (gad_call y9 gExt.rf (fun _ _ => rfl))))
                                    · replace h := gif_f c132 h
                                      refine g_iconst (v := (0 : Int32)) hF rfl dL_law_852 ?_
                                      cases h
                                      exact g_ret_i hF rfl rfl dL_law_853 (hR _ rfl) (by omega) (by omega)
                                · replace h := gif_f c129 h
                                  refine g_iconst (v := (0 : Int32)) hF rfl dL_law_835 ?_
                                  cases h
                                  exact g_ret_i hF rfl rfl dL_law_836 (hR _ rfl) (by omega) (by omega)
                              · replace h := gif_f c13_13 h
                                by_cases c13_14 : (v12 &&& (31 : Int32)) = (14 : Int32)
                                · replace h := gif_t c13_14 h
                                  refine g_tabIn (tgt := 857) (off := 817) hF dL_law_40 (by rw [c13_14]; decide) (by rw [c13_14]; decide) (by rw [c13_14]; decide +kernel) (by decide) ?_
                                  refine g_aload_n hF 1 rfl rfl dL_law_857 ?_
                                  refine g_aload_n hF 0 rfl rfl dL_law_858 ?_
                                  refine g_iload hF 4 rfl dL_law_859 ?_
                                  refine g_iconst (v := (1 : Int32)) hF rfl dL_law_861 ?_
                                  refine g_iadd hF dL_law_862 ?_
                                  obtain ⟨v133, h133, h⟩ := gbnd h
                                  obtain ⟨i133h, e133v⟩ := scr_sp h133
                                  refine g_sci hFL i133h dL_law_863 ?_
                                  rw [← e133v]
                                  refine g_aload_n hF 3 rfl rfl dL_law_864 ?_
                                  obtain ⟨x134, h134, h⟩ := gbnd h
                                  refine g_callSW hF (n := 3) kw_958 kw_104 rfl (by decide +kernel) (by decide +kernel) (by decide) kw_956 kw_957 (c_L_minority (d := d - 1) (by omega) q1 q3 h134) (by omega) (by omega) (by omega) rfl rfl (Nat.le_of_ble_eq_true rfl) dL_law_865 (g_sameS ?_)
                                  refine g_istore (ls' := [(5, .int x134.1), (0, .ref (gSB + 3000)), (1, .ref a1), (2, .ref a2), (3, .ref a3), (4, .int i4)]) hF (by rw [hn]; decide) rfl dL_law_868 ?_
                                  refine g_aload_n hF 3 rfl rfl dL_law_870 ?_
                                  refine g_aload_n hF 1 rfl rfl dL_law_871 ?_
                                  refine g_iload hF 5 rfl dL_law_872 ?_
                                  refine g_iconst (v := (1 : Int32)) hF rfl dL_law_874 ?_
                                  refine g_iadd hF dL_law_875 ?_
                                  obtain ⟨v135, h135, h⟩ := gbnd h
                                  obtain ⟨i135h, e135v⟩ := scr_sp h135
                                  refine g_sci hFL i135h dL_law_876 ?_
                                  rw [← e135v]
                                  obtain ⟨x136, h136, h⟩ := gbnd h
                                  refine g_callV hF my_X9_minority kw_1420 kw_1421 kw_1422 gC_9.1 (by decide) q2 (c_X9_minority (d := d - 1) (by omega) q2 h136) (by omega) (by omega) (by omega) rfl rfl (Nat.le_of_ble_eq_true rfl) dL_law_877 (g_sameS ?_)
                                  refine g_istore (ls' := [(6, .int x136.1), (5, .int x134.1), (0, .ref (gSB + 3000)), (1, .ref a1), (2, .ref a2), (3, .ref a3), (4, .int i4)]) hF (by rw [hn]; decide) rfl dL_law_880 ?_
                                  refine g_aload_n hF 4 rfl rfl dL_law_882 ?_
                                  obtain ⟨x137, h137, h⟩ := gbnd h
                                  refine g_callV hF my_X9_thrown kw_1171 kw_1172 kw_1173 gC_9.1 (by decide) q2 (c_X9_thrown (d := d - 1) (by omega) q2 h137) (by omega) (by omega) (by omega) rfl rfl (Nat.le_of_ble_eq_true rfl) dL_law_883 (g_sameS ?_)
                                  refine g_iload hF 1 rfl dL_law_886 ?_
                                  refine g_icmp_eq (tgt := 893) hF dL_law_888 (by decide) (fun c138 => ?_) (fun c138 => ?_)
                                  · replace h := gif_t c138 h
                                    refine g_iload hF 1 rfl dL_law_893 ?_
                                    refine g_if_ne (tgt := 910) hF dL_law_895 (by decide) (fun c139 => ?_) (fun c139 => ?_)
                                    · replace h := gif_t c139 h
                                      refine g_goto (tgt := 1692) hF dL_law_910 (by decide) ?_
                                      exact gG_sub [2, 3, 4, 5, 6] rfl (t_L_law_1692 hFL hn (by omega) (by omega) (by omega) hc2 hs2 q1 q2 q3 h hR (fun n9 ad9 q9 x9 y9 => hN n9 ad9 q9 (gExt.tr gExt.rf x9) (gad_call y9 gExt.rf (fun _ _ => rfl))))
                                    · replace h := gif_n c139 h
                                      refine g_aload_n hF 5 rfl rfl dL_law_898 ?_
                                      refine g_iconst (v := (0 : Int32)) hF rfl dL_law_899 ?_
                                      obtain ⟨v140, h140, h⟩ := gbnd h
                                      obtain ⟨i140h, e140v⟩ := aldl_sp q3 h140
                                      refine g_lald hF q3 i140h dL_law_900 ?_
                                      rw [← e140v]
                                      refine g_iload hF 0 rfl dL_law_901 ?_
                                      refine g_i2l hF dL_law_903 ?_
                                      refine g_lcmp hF dL_law_904 ?_
                                      refine g_if_eq (tgt := 910) hF dL_law_905 (by decide) (fun c141 => ?_) (fun c141 => ?_)
                                      · replace h := gif_t c141 h
                                        refine g_goto (tgt := 1692) hF dL_law_910 (by decide) ?_
                                        exact gG_sub [2, 3, 4, 5, 6] rfl (t_L_law_1692 hFL hn (by omega) (by omega) (by omega) hc2 hs2 q1 q2 q3 h hR (fun n9 ad9 q9 x9 y9 => hN n9 ad9 q9 (gExt.tr gExt.rf x9) (gad_call y9 gExt.rf (fun _ _ => rfl))))
                                      · replace h := gif_f c141 h
                                        refine g_iconst (v := (0 : Int32)) hF rfl dL_law_908 ?_
                                        cases h
                                        exact g_ret_i hF rfl rfl dL_law_909 (hR _ rfl) (by omega) (by omega)
                                  · replace h := gif_f c138 h
                                    refine g_iconst (v := (0 : Int32)) hF rfl dL_law_891 ?_
                                    cases h
                                    exact g_ret_i hF rfl rfl dL_law_892 (hR _ rfl) (by omega) (by omega)
                                · replace h := gif_f c13_14 h
                                  by_cases c13_15 : (v12 &&& (31 : Int32)) = (15 : Int32)
                                  · replace h := gif_t c13_15 h
                                    refine g_tabIn (tgt := 913) (off := 873) hF dL_law_40 (by rw [c13_15]; decide) (by rw [c13_15]; decide) (by rw [c13_15]; decide +kernel) (by decide) ?_
                                    refine g_aload_n hF 1 rfl rfl dL_law_913 ?_
                                    refine g_aload_n hF 0 rfl rfl dL_law_914 ?_
                                    refine g_iload hF 4 rfl dL_law_915 ?_
                                    refine g_iconst (v := (1 : Int32)) hF rfl dL_law_917 ?_
                                    refine g_iadd hF dL_law_918 ?_
                                    obtain ⟨v142, h142, h⟩ := gbnd h
                                    obtain ⟨i142h, e142v⟩ := scr_sp h142
                                    refine g_sci hFL i142h dL_law_919 ?_
                                    rw [← e142v]
                                    refine g_aload_n hF 0 rfl rfl dL_law_920 ?_
                                    refine g_iload hF 4 rfl dL_law_921 ?_
                                    refine g_iconst (v := (2 : Int32)) hF rfl dL_law_923 ?_
                                    refine g_iadd hF dL_law_924 ?_
                                    obtain ⟨v143, h143, h⟩ := gbnd h
                                    obtain ⟨i143h, e143v⟩ := scr_sp h143
                                    refine g_sci hFL i143h dL_law_925 ?_
                                    rw [← e143v]
                                    refine g_aload_n hF 3 rfl rfl dL_law_926 ?_
                                    obtain ⟨x144, h144, h⟩ := gbnd h
                                    refine g_callSW hF (n := 4) kw_966 kw_104 rfl (by decide +kernel) (by decide +kernel) (by decide) kw_964 kw_965 (c_L_call (d := d - 1) (by omega) q1 q3 h144) (by omega) (by omega) (by omega) rfl rfl (Nat.le_of_ble_eq_true rfl) dL_law_927 (g_sameS ?_)
                                    refine g_istore (ls' := [(5, .int x144.1), (0, .ref (gSB + 3000)), (1, .ref a1), (2, .ref a2), (3, .ref a3), (4, .int i4)]) hF (by rw [hn]; decide) rfl dL_law_930 ?_
                                    refine g_aload_n hF 3 rfl rfl dL_law_932 ?_
                                    refine g_aload_n hF 1 rfl rfl dL_law_933 ?_
                                    refine g_iload hF 5 rfl dL_law_934 ?_
                                    refine g_iconst (v := (1 : Int32)) hF rfl dL_law_936 ?_
                                    refine g_iadd hF dL_law_937 ?_
                                    obtain ⟨v145, h145, h⟩ := gbnd h
                                    obtain ⟨i145h, e145v⟩ := scr_sp h145
                                    refine g_sci hFL i145h dL_law_938 ?_
                                    rw [← e145v]
                                    refine g_aload_n hF 1 rfl rfl dL_law_939 ?_
                                    refine g_iload hF 5 rfl dL_law_940 ?_
                                    refine g_iconst (v := (2 : Int32)) hF rfl dL_law_942 ?_
                                    refine g_iadd hF dL_law_943 ?_
                                    obtain ⟨v146, h146, h⟩ := gbnd h
                                    obtain ⟨i146h, e146v⟩ := scr_sp h146
                                    refine g_sci hFL i146h dL_law_944 ?_
                                    rw [← e146v]
                                    obtain ⟨x147, h147, h⟩ := gbnd h
                                    refine g_callV hF my_X9_call kw_1424 kw_1425 kw_1426 gC_9.1 (by decide) q2 (c_X9_call (d := d - 1) (by omega) q2 h147) (by omega) (by omega) (by omega) rfl rfl (Nat.le_of_ble_eq_true rfl) dL_law_945 (g_sameS ?_)
                                    refine g_istore (ls' := [(6, .int x147.1), (5, .int x144.1), (0, .ref (gSB + 3000)), (1, .ref a1), (2, .ref a2), (3, .ref a3), (4, .int i4)]) hF (by rw [hn]; decide) rfl dL_law_948 ?_
                                    refine g_aload_n hF 4 rfl rfl dL_law_950 ?_
                                    obtain ⟨x148, h148, h⟩ := gbnd h
                                    refine g_callV hF my_X9_thrown kw_1171 kw_1172 kw_1173 gC_9.1 (by decide) q2 (c_X9_thrown (d := d - 1) (by omega) q2 h148) (by omega) (by omega) (by omega) rfl rfl (Nat.le_of_ble_eq_true rfl) dL_law_951 (g_sameS ?_)
                                    refine g_iload hF 1 rfl dL_law_954 ?_
                                    refine g_icmp_eq (tgt := 961) hF dL_law_956 (by decide) (fun c149 => ?_) (fun c149 => ?_)
                                    · replace h := gif_t c149 h
                                      refine g_iload hF 1 rfl dL_law_961 ?_
                                      refine g_if_ne (tgt := 978) hF dL_law_963 (by decide) (fun c150 => ?_) (fun c150 => ?_)
                                      · replace h := gif_t c150 h
                                        refine g_goto (tgt := 1692) hF dL_law_978 (by decide) ?_
                                        exact gG_sub [2, 3, 4, 5, 6] rfl (t_L_law_1692 hFL hn (by omega) (by omega) (by omega) hc2 hs2 q1 q2 q3 h hR (fun n9 ad9 q9 x9 y9 => hN n9 ad9 q9 (gExt.tr gExt.rf x9) (gad_call y9 gExt.rf (fun _ _ => rfl))))
                                      · replace h := gif_n c150 h
                                        refine g_aload_n hF 5 rfl rfl dL_law_966 ?_
                                        refine g_iconst (v := (0 : Int32)) hF rfl dL_law_967 ?_
                                        obtain ⟨v151, h151, h⟩ := gbnd h
                                        obtain ⟨i151h, e151v⟩ := aldl_sp q3 h151
                                        refine g_lald hF q3 i151h dL_law_968 ?_
                                        rw [← e151v]
                                        refine g_iload hF 0 rfl dL_law_969 ?_
                                        refine g_i2l hF dL_law_971 ?_
                                        refine g_lcmp hF dL_law_972 ?_
                                        refine g_if_eq (tgt := 978) hF dL_law_973 (by decide) (fun c152 => ?_) (fun c152 => ?_)
                                        · replace h := gif_t c152 h
                                          refine g_goto (tgt := 1692) hF dL_law_978 (by decide) ?_
                                          exact gG_sub [2, 3, 4, 5, 6] rfl (t_L_law_1692 hFL hn (by omega) (by omega) (by omega) hc2 hs2 q1 q2 q3 h hR (fun n9 ad9 q9 x9 y9 => hN n9 ad9 q9 (gExt.tr gExt.rf x9) (gad_call y9 gExt.rf (fun _ _ => rfl))))
                                        · replace h := gif_f c152 h
                                          refine g_iconst (v := (0 : Int32)) hF rfl dL_law_976 ?_
                                          cases h
                                          exact g_ret_i hF rfl rfl dL_law_977 (hR _ rfl) (by omega) (by omega)
                                    · replace h := gif_f c149 h
                                      refine g_iconst (v := (0 : Int32)) hF rfl dL_law_959 ?_
                                      cases h
                                      exact g_ret_i hF rfl rfl dL_law_960 (hR _ rfl) (by omega) (by omega)
                                  · replace h := gif_f c13_15 h
                                    by_cases c13_16 : (v12 &&& (31 : Int32)) = (16 : Int32)
                                    · replace h := gif_t c13_16 h
                                      refine g_tabIn (tgt := 981) (off := 941) hF dL_law_40 (by rw [c13_16]; decide) (by rw [c13_16]; decide) (by rw [c13_16]; decide +kernel) (by decide) ?_
                                      refine g_aload_n hF 1 rfl rfl dL_law_981 ?_
                                      refine g_aload_n hF 0 rfl rfl dL_law_982 ?_
                                      refine g_iload hF 4 rfl dL_law_983 ?_
                                      refine g_iconst (v := (1 : Int32)) hF rfl dL_law_985 ?_
                                      refine g_iadd hF dL_law_986 ?_
                                      obtain ⟨v153, h153, h⟩ := gbnd h
                                      obtain ⟨i153h, e153v⟩ := scr_sp h153
                                      refine g_sci hFL i153h dL_law_987 ?_
                                      rw [← e153v]
                                      refine g_aload_n hF 0 rfl rfl dL_law_988 ?_
                                      refine g_iload hF 4 rfl dL_law_989 ?_
                                      refine g_iconst (v := (2 : Int32)) hF rfl dL_law_991 ?_
                                      refine g_iadd hF dL_law_992 ?_
                                      obtain ⟨v154, h154, h⟩ := gbnd h
                                      obtain ⟨i154h, e154v⟩ := scr_sp h154
                                      refine g_sci hFL i154h dL_law_993 ?_
                                      rw [← e154v]
                                      refine g_aload_n hF 3 rfl rfl dL_law_994 ?_
                                      obtain ⟨x155, h155, h⟩ := gbnd h
                                      refine g_callSW hF (n := 4) kw_970 kw_104 rfl (by decide +kernel) (by decide +kernel) (by decide) kw_968 kw_969 (c_L_steps (d := d - 1) (by omega) q1 q3 h155) (by omega) (by omega) (by omega) rfl rfl (Nat.le_of_ble_eq_true rfl) dL_law_995 (g_sameS ?_)
                                      refine g_istore (ls' := [(5, .int x155.1), (0, .ref (gSB + 3000)), (1, .ref a1), (2, .ref a2), (3, .ref a3), (4, .int i4)]) hF (by rw [hn]; decide) rfl dL_law_998 ?_
                                      refine g_aload_n hF 3 rfl rfl dL_law_1000 ?_
                                      refine g_aload_n hF 1 rfl rfl dL_law_1001 ?_
                                      refine g_iload hF 5 rfl dL_law_1002 ?_
                                      refine g_iconst (v := (1 : Int32)) hF rfl dL_law_1004 ?_
                                      refine g_iadd hF dL_law_1005 ?_
                                      obtain ⟨v156, h156, h⟩ := gbnd h
                                      obtain ⟨i156h, e156v⟩ := scr_sp h156
                                      refine g_sci hFL i156h dL_law_1006 ?_
                                      rw [← e156v]
                                      refine g_aload_n hF 1 rfl rfl dL_law_1007 ?_
                                      refine g_iload hF 5 rfl dL_law_1008 ?_
                                      refine g_iconst (v := (2 : Int32)) hF rfl dL_law_1010 ?_
                                      refine g_iadd hF dL_law_1011 ?_
                                      obtain ⟨v157, h157, h⟩ := gbnd h
                                      obtain ⟨i157h, e157v⟩ := scr_sp h157
                                      refine g_sci hFL i157h dL_law_1012 ?_
                                      rw [← e157v]
                                      obtain ⟨x158, h158, h⟩ := gbnd h
                                      refine g_callV hF my_X9_steps kw_1432 kw_1433 kw_1434 gC_9.1 (by decide) q2 (c_X9_steps (d := d - 1) (by omega) q2 h158) (by omega) (by omega) (by omega) rfl rfl (Nat.le_of_ble_eq_true rfl) dL_law_1013 (g_sameS ?_)
                                      refine g_istore (ls' := [(6, .int x158.1), (5, .int x155.1), (0, .ref (gSB + 3000)), (1, .ref a1), (2, .ref a2), (3, .ref a3), (4, .int i4)]) hF (by rw [hn]; decide) rfl dL_law_1016 ?_
                                      refine g_aload_n hF 4 rfl rfl dL_law_1018 ?_
                                      obtain ⟨x159, h159, h⟩ := gbnd h
                                      refine g_callV hF my_X9_thrown kw_1171 kw_1172 kw_1173 gC_9.1 (by decide) q2 (c_X9_thrown (d := d - 1) (by omega) q2 h159) (by omega) (by omega) (by omega) rfl rfl (Nat.le_of_ble_eq_true rfl) dL_law_1019 (g_sameS ?_)
                                      refine g_iload hF 1 rfl dL_law_1022 ?_
                                      refine g_icmp_eq (tgt := 1029) hF dL_law_1024 (by decide) (fun c160 => ?_) (fun c160 => ?_)
                                      · replace h := gif_t c160 h
                                        refine g_iload hF 1 rfl dL_law_1029 ?_
                                        refine g_if_ne (tgt := 1046) hF dL_law_1031 (by decide) (fun c161 => ?_) (fun c161 => ?_)
                                        · replace h := gif_t c161 h
                                          refine g_goto (tgt := 1692) hF dL_law_1046 (by decide) ?_
                                          exact gG_sub [2, 3, 4, 5, 6] rfl (t_L_law_1692 hFL hn (by omega) (by omega) (by omega) hc2 hs2 q1 q2 q3 h hR (fun n9 ad9 q9 x9 y9 => hN n9 ad9 q9 (gExt.tr gExt.rf x9) (gad_call y9 gExt.rf (fun _ _ => rfl))))
                                        · replace h := gif_n c161 h
                                          refine g_aload_n hF 5 rfl rfl dL_law_1034 ?_
                                          refine g_iconst (v := (0 : Int32)) hF rfl dL_law_1035 ?_
                                          obtain ⟨v162, h162, h⟩ := gbnd h
                                          obtain ⟨i162h, e162v⟩ := aldl_sp q3 h162
                                          refine g_lald hF q3 i162h dL_law_1036 ?_
                                          rw [← e162v]
                                          refine g_iload hF 0 rfl dL_law_1037 ?_
                                          refine g_i2l hF dL_law_1039 ?_
                                          refine g_lcmp hF dL_law_1040 ?_
                                          refine g_if_eq (tgt := 1046) hF dL_law_1041 (by decide) (fun c163 => ?_) (fun c163 => ?_)
                                          · replace h := gif_t c163 h
                                            refine g_goto (tgt := 1692) hF dL_law_1046 (by decide) ?_
                                            exact gG_sub [2, 3, 4, 5, 6] rfl (t_L_law_1692 hFL hn (by omega) (by omega) (by omega) hc2 hs2 q1 q2 q3 h hR (fun n9 ad9 q9 x9 y9 => hN n9 ad9 q9 (gExt.tr gExt.rf x9) (gad_call y9 gExt.rf (fun _ _ => rfl))))
                                          · replace h := gif_f c163 h
                                            refine g_iconst (v := (0 : Int32)) hF rfl dL_law_1044 ?_
                                            cases h
                                            exact g_ret_i hF rfl rfl dL_law_1045 (hR _ rfl) (by omega) (by omega)
                                      · replace h := gif_f c160 h
                                        refine g_iconst (v := (0 : Int32)) hF rfl dL_law_1027 ?_
                                        cases h
                                        exact g_ret_i hF rfl rfl dL_law_1028 (hR _ rfl) (by omega) (by omega)
                                    · replace h := gif_f c13_16 h
                                      by_cases c13_17 : (v12 &&& (31 : Int32)) = (17 : Int32)
                                      · replace h := gif_t c13_17 h
                                        refine g_tabIn (tgt := 1049) (off := 1009) hF dL_law_40 (by rw [c13_17]; decide) (by rw [c13_17]; decide) (by rw [c13_17]; decide +kernel) (by decide) ?_
                                        refine g_aload_n hF 1 rfl rfl dL_law_1049 ?_
                                        refine g_aload_n hF 0 rfl rfl dL_law_1050 ?_
                                        refine g_iload hF 4 rfl dL_law_1051 ?_
                                        refine g_iconst (v := (1 : Int32)) hF rfl dL_law_1053 ?_
                                        refine g_iadd hF dL_law_1054 ?_
                                        obtain ⟨v164, h164, h⟩ := gbnd h
                                        obtain ⟨i164h, e164v⟩ := scr_sp h164
                                        refine g_sci hFL i164h dL_law_1055 ?_
                                        rw [← e164v]
                                        refine g_aload_n hF 0 rfl rfl dL_law_1056 ?_
                                        refine g_iload hF 4 rfl dL_law_1057 ?_
                                        refine g_iconst (v := (2 : Int32)) hF rfl dL_law_1059 ?_
                                        refine g_iadd hF dL_law_1060 ?_
                                        obtain ⟨v165, h165, h⟩ := gbnd h
                                        obtain ⟨i165h, e165v⟩ := scr_sp h165
                                        refine g_sci hFL i165h dL_law_1061 ?_
                                        rw [← e165v]
                                        refine g_aload_n hF 3 rfl rfl dL_law_1062 ?_
                                        obtain ⟨x166, h166, h⟩ := gbnd h
                                        refine g_callSW hF (n := 4) kw_977 kw_104 rfl (by decide +kernel) (by decide +kernel) (by decide) kw_975 kw_976 (c_L_users (d := d - 1) (by omega) q1 q3 h166) (by omega) (by omega) (by omega) rfl rfl (Nat.le_of_ble_eq_true rfl) dL_law_1063 (g_sameS ?_)
                                        refine g_istore (ls' := [(5, .int x166.1), (0, .ref (gSB + 3000)), (1, .ref a1), (2, .ref a2), (3, .ref a3), (4, .int i4)]) hF (by rw [hn]; decide) rfl dL_law_1066 ?_
                                        refine g_aload_n hF 3 rfl rfl dL_law_1068 ?_
                                        refine g_aload_n hF 1 rfl rfl dL_law_1069 ?_
                                        refine g_iload hF 5 rfl dL_law_1070 ?_
                                        refine g_iconst (v := (1 : Int32)) hF rfl dL_law_1072 ?_
                                        refine g_iadd hF dL_law_1073 ?_
                                        obtain ⟨v167, h167, h⟩ := gbnd h
                                        obtain ⟨i167h, e167v⟩ := scr_sp h167
                                        refine g_sci hFL i167h dL_law_1074 ?_
                                        rw [← e167v]
                                        refine g_aload_n hF 1 rfl rfl dL_law_1075 ?_
                                        refine g_iload hF 5 rfl dL_law_1076 ?_
                                        refine g_iconst (v := (2 : Int32)) hF rfl dL_law_1078 ?_
                                        refine g_iadd hF dL_law_1079 ?_
                                        obtain ⟨v168, h168, h⟩ := gbnd h
                                        obtain ⟨i168h, e168v⟩ := scr_sp h168
                                        refine g_sci hFL i168h dL_law_1080 ?_
                                        rw [← e168v]
                                        obtain ⟨x169, h169, h⟩ := gbnd h
                                        refine g_callV hF my_X9_users kw_1436 kw_1437 kw_1438 gC_9.1 (by decide) q2 (c_X9_users (d := d - 1) (by omega) q2 h169) (by omega) (by omega) (by omega) rfl rfl (Nat.le_of_ble_eq_true rfl) dL_law_1081 (g_sameS ?_)
                                        refine g_istore (ls' := [(6, .int x169.1), (5, .int x166.1), (0, .ref (gSB + 3000)), (1, .ref a1), (2, .ref a2), (3, .ref a3), (4, .int i4)]) hF (by rw [hn]; decide) rfl dL_law_1084 ?_
                                        refine g_aload_n hF 4 rfl rfl dL_law_1086 ?_
                                        obtain ⟨x170, h170, h⟩ := gbnd h
                                        refine g_callV hF my_X9_thrown kw_1171 kw_1172 kw_1173 gC_9.1 (by decide) q2 (c_X9_thrown (d := d - 1) (by omega) q2 h170) (by omega) (by omega) (by omega) rfl rfl (Nat.le_of_ble_eq_true rfl) dL_law_1087 (g_sameS ?_)
                                        refine g_iload hF 1 rfl dL_law_1090 ?_
                                        refine g_icmp_eq (tgt := 1097) hF dL_law_1092 (by decide) (fun c171 => ?_) (fun c171 => ?_)
                                        · replace h := gif_t c171 h
                                          refine g_iload hF 1 rfl dL_law_1097 ?_
                                          refine g_if_ne (tgt := 1114) hF dL_law_1099 (by decide) (fun c172 => ?_) (fun c172 => ?_)
                                          · replace h := gif_t c172 h
                                            refine g_goto (tgt := 1692) hF dL_law_1114 (by decide) ?_
                                            exact gG_sub [2, 3, 4, 5, 6] rfl (t_L_law_1692 hFL hn (by omega) (by omega) (by omega) hc2 hs2 q1 q2 q3 h hR (fun n9 ad9 q9 x9 y9 => hN n9 ad9 q9 (gExt.tr gExt.rf x9) (gad_call y9 gExt.rf (fun _ _ => rfl))))
                                          · replace h := gif_n c172 h
                                            refine g_aload_n hF 5 rfl rfl dL_law_1102 ?_
                                            refine g_iconst (v := (0 : Int32)) hF rfl dL_law_1103 ?_
                                            obtain ⟨v173, h173, h⟩ := gbnd h
                                            obtain ⟨i173h, e173v⟩ := aldl_sp q3 h173
                                            refine g_lald hF q3 i173h dL_law_1104 ?_
                                            rw [← e173v]
                                            refine g_iload hF 0 rfl dL_law_1105 ?_
                                            refine g_i2l hF dL_law_1107 ?_
                                            refine g_lcmp hF dL_law_1108 ?_
                                            refine g_if_eq (tgt := 1114) hF dL_law_1109 (by decide) (fun c174 => ?_) (fun c174 => ?_)
                                            · replace h := gif_t c174 h
                                              refine g_goto (tgt := 1692) hF dL_law_1114 (by decide) ?_
                                              exact gG_sub [2, 3, 4, 5, 6] rfl (t_L_law_1692 hFL hn (by omega) (by omega) (by omega) hc2 hs2 q1 q2 q3 h hR (fun n9 ad9 q9 x9 y9 => hN n9 ad9 q9 (gExt.tr gExt.rf x9) (gad_call y9 gExt.rf (fun _ _ => rfl))))
                                            · replace h := gif_f c174 h
                                              refine g_iconst (v := (0 : Int32)) hF rfl dL_law_1112 ?_
                                              cases h
                                              exact g_ret_i hF rfl rfl dL_law_1113 (hR _ rfl) (by omega) (by omega)
                                        · replace h := gif_f c171 h
                                          refine g_iconst (v := (0 : Int32)) hF rfl dL_law_1095 ?_
                                          cases h
                                          exact g_ret_i hF rfl rfl dL_law_1096 (hR _ rfl) (by omega) (by omega)
                                      · replace h := gif_f c13_17 h
                                        by_cases c13_18 : (v12 &&& (31 : Int32)) = (18 : Int32)
                                        · replace h := gif_t c13_18 h
                                          refine g_tabIn (tgt := 1117) (off := 1077) hF dL_law_40 (by rw [c13_18]; decide) (by rw [c13_18]; decide) (by rw [c13_18]; decide +kernel) (by decide) ?_
                                          refine g_aload_n hF 1 rfl rfl dL_law_1117 ?_
                                          refine g_aload_n hF 0 rfl rfl dL_law_1118 ?_
                                          refine g_iload hF 4 rfl dL_law_1119 ?_
                                          refine g_iconst (v := (1 : Int32)) hF rfl dL_law_1121 ?_
                                          refine g_iadd hF dL_law_1122 ?_
                                          obtain ⟨v175, h175, h⟩ := gbnd h
                                          obtain ⟨i175h, e175v⟩ := scr_sp h175
                                          refine g_sci hFL i175h dL_law_1123 ?_
                                          rw [← e175v]
                                          refine g_aload_n hF 3 rfl rfl dL_law_1124 ?_
                                          obtain ⟨x176, h176, h⟩ := gbnd h
                                          refine g_callSW hF (n := 3) kw_984 kw_104 rfl (by decide +kernel) (by decide +kernel) (by decide) kw_982 kw_983 (c_L_unload (d := d - 1) (by omega) q1 q3 h176) (by omega) (by omega) (by omega) rfl rfl (Nat.le_of_ble_eq_true rfl) dL_law_1125 (g_sameS ?_)
                                          refine g_istore (ls' := [(5, .int x176.1), (0, .ref (gSB + 3000)), (1, .ref a1), (2, .ref a2), (3, .ref a3), (4, .int i4)]) hF (by rw [hn]; decide) rfl dL_law_1128 ?_
                                          refine g_aload_n hF 3 rfl rfl dL_law_1130 ?_
                                          refine g_aload_n hF 1 rfl rfl dL_law_1131 ?_
                                          refine g_iload hF 5 rfl dL_law_1132 ?_
                                          refine g_iconst (v := (1 : Int32)) hF rfl dL_law_1134 ?_
                                          refine g_iadd hF dL_law_1135 ?_
                                          obtain ⟨v177, h177, h⟩ := gbnd h
                                          obtain ⟨i177h, e177v⟩ := scr_sp h177
                                          refine g_sci hFL i177h dL_law_1136 ?_
                                          rw [← e177v]
                                          obtain ⟨x178, h178, h⟩ := gbnd h
                                          refine g_callV hF my_X9_unload kw_1440 kw_1441 kw_1442 gC_9.1 (by decide) q2 (c_X9_unload (d := d - 1) (by omega) q2 h178) (by omega) (by omega) (by omega) rfl rfl (Nat.le_of_ble_eq_true rfl) dL_law_1137 (g_sameS ?_)
                                          refine g_istore (ls' := [(6, .int x178.1), (5, .int x176.1), (0, .ref (gSB + 3000)), (1, .ref a1), (2, .ref a2), (3, .ref a3), (4, .int i4)]) hF (by rw [hn]; decide) rfl dL_law_1140 ?_
                                          refine g_aload_n hF 4 rfl rfl dL_law_1142 ?_
                                          obtain ⟨x179, h179, h⟩ := gbnd h
                                          refine g_callV hF my_X9_thrown kw_1171 kw_1172 kw_1173 gC_9.1 (by decide) q2 (c_X9_thrown (d := d - 1) (by omega) q2 h179) (by omega) (by omega) (by omega) rfl rfl (Nat.le_of_ble_eq_true rfl) dL_law_1143 (g_sameS ?_)
                                          refine g_iload hF 1 rfl dL_law_1146 ?_
                                          refine g_icmp_eq (tgt := 1153) hF dL_law_1148 (by decide) (fun c180 => ?_) (fun c180 => ?_)
                                          · replace h := gif_t c180 h
                                            refine g_iload hF 1 rfl dL_law_1153 ?_
                                            refine g_if_ne (tgt := 1170) hF dL_law_1155 (by decide) (fun c181 => ?_) (fun c181 => ?_)
                                            · replace h := gif_t c181 h
                                              refine g_goto (tgt := 1692) hF dL_law_1170 (by decide) ?_
                                              exact gG_sub [2, 3, 4, 5, 6] rfl (t_L_law_1692 hFL hn (by omega) (by omega) (by omega) hc2 hs2 q1 q2 q3 h hR (fun n9 ad9 q9 x9 y9 => hN n9 ad9 q9 (gExt.tr gExt.rf x9) (gad_call y9 gExt.rf (fun _ _ => rfl))))
                                            · replace h := gif_n c181 h
                                              refine g_aload_n hF 5 rfl rfl dL_law_1158 ?_
                                              refine g_iconst (v := (0 : Int32)) hF rfl dL_law_1159 ?_
                                              obtain ⟨v182, h182, h⟩ := gbnd h
                                              obtain ⟨i182h, e182v⟩ := aldl_sp q3 h182
                                              refine g_lald hF q3 i182h dL_law_1160 ?_
                                              rw [← e182v]
                                              refine g_iload hF 0 rfl dL_law_1161 ?_
                                              refine g_i2l hF dL_law_1163 ?_
                                              refine g_lcmp hF dL_law_1164 ?_
                                              refine g_if_eq (tgt := 1170) hF dL_law_1165 (by decide) (fun c183 => ?_) (fun c183 => ?_)
                                              · replace h := gif_t c183 h
                                                refine g_goto (tgt := 1692) hF dL_law_1170 (by decide) ?_
                                                exact gG_sub [2, 3, 4, 5, 6] rfl (t_L_law_1692 hFL hn (by omega) (by omega) (by omega) hc2 hs2 q1 q2 q3 h hR (fun n9 ad9 q9 x9 y9 => hN n9 ad9 q9 (gExt.tr gExt.rf x9) (gad_call y9 gExt.rf (fun _ _ => rfl))))
                                              · replace h := gif_f c183 h
                                                refine g_iconst (v := (0 : Int32)) hF rfl dL_law_1168 ?_
                                                cases h
                                                exact g_ret_i hF rfl rfl dL_law_1169 (hR _ rfl) (by omega) (by omega)
                                          · replace h := gif_f c180 h
                                            refine g_iconst (v := (0 : Int32)) hF rfl dL_law_1151 ?_
                                            cases h
                                            exact g_ret_i hF rfl rfl dL_law_1152 (hR _ rfl) (by omega) (by omega)
                                        · replace h := gif_f c13_18 h
                                          by_cases c13_19 : (v12 &&& (31 : Int32)) = (19 : Int32)
                                          · replace h := gif_t c13_19 h
                                            refine g_tabIn (tgt := 1173) (off := 1133) hF dL_law_40 (by rw [c13_19]; decide) (by rw [c13_19]; decide) (by rw [c13_19]; decide +kernel) (by decide) ?_
                                            refine g_aload_n hF 1 rfl rfl dL_law_1173 ?_
                                            refine g_aload_n hF 0 rfl rfl dL_law_1174 ?_
                                            refine g_iload hF 4 rfl dL_law_1175 ?_
                                            refine g_iconst (v := (1 : Int32)) hF rfl dL_law_1177 ?_
                                            refine g_iadd hF dL_law_1178 ?_
                                            obtain ⟨v184, h184, h⟩ := gbnd h
                                            obtain ⟨i184h, e184v⟩ := scr_sp h184
                                            refine g_sci hFL i184h dL_law_1179 ?_
                                            rw [← e184v]
                                            refine g_aload_n hF 3 rfl rfl dL_law_1180 ?_
                                            obtain ⟨x185, h185, h⟩ := gbnd h
                                            refine g_callSW hF (n := 3) kw_1020 kw_104 rfl (by decide +kernel) (by decide +kernel) (by decide) kw_1018 kw_1019 (c_L_reload (d := d - 1) (by omega) q1 q3 h185) (by omega) (by omega) (by omega) rfl rfl (Nat.le_of_ble_eq_true rfl) dL_law_1181 (g_sameS ?_)
                                            refine g_istore (ls' := [(5, .int x185.1), (0, .ref (gSB + 3000)), (1, .ref a1), (2, .ref a2), (3, .ref a3), (4, .int i4)]) hF (by rw [hn]; decide) rfl dL_law_1184 ?_
                                            refine g_aload_n hF 3 rfl rfl dL_law_1186 ?_
                                            refine g_aload_n hF 1 rfl rfl dL_law_1187 ?_
                                            refine g_iload hF 5 rfl dL_law_1188 ?_
                                            refine g_iconst (v := (1 : Int32)) hF rfl dL_law_1190 ?_
                                            refine g_iadd hF dL_law_1191 ?_
                                            obtain ⟨v186, h186, h⟩ := gbnd h
                                            obtain ⟨i186h, e186v⟩ := scr_sp h186
                                            refine g_sci hFL i186h dL_law_1192 ?_
                                            rw [← e186v]
                                            obtain ⟨x187, h187, h⟩ := gbnd h
                                            refine g_callV hF my_X9_reload kw_1452 kw_1453 kw_1454 gC_9.1 (by decide) q2 (c_X9_reload (d := d - 1) (by omega) q2 h187) (by omega) (by omega) (by omega) rfl rfl (Nat.le_of_ble_eq_true rfl) dL_law_1193 (g_sameS ?_)
                                            refine g_istore (ls' := [(6, .int x187.1), (5, .int x185.1), (0, .ref (gSB + 3000)), (1, .ref a1), (2, .ref a2), (3, .ref a3), (4, .int i4)]) hF (by rw [hn]; decide) rfl dL_law_1196 ?_
                                            refine g_aload_n hF 4 rfl rfl dL_law_1198 ?_
                                            obtain ⟨x188, h188, h⟩ := gbnd h
                                            refine g_callV hF my_X9_thrown kw_1171 kw_1172 kw_1173 gC_9.1 (by decide) q2 (c_X9_thrown (d := d - 1) (by omega) q2 h188) (by omega) (by omega) (by omega) rfl rfl (Nat.le_of_ble_eq_true rfl) dL_law_1199 (g_sameS ?_)
                                            refine g_iload hF 1 rfl dL_law_1202 ?_
                                            refine g_icmp_eq (tgt := 1209) hF dL_law_1204 (by decide) (fun c189 => ?_) (fun c189 => ?_)
                                            · replace h := gif_t c189 h
                                              refine g_iload hF 1 rfl dL_law_1209 ?_
                                              refine g_if_ne (tgt := 1226) hF dL_law_1211 (by decide) (fun c190 => ?_) (fun c190 => ?_)
                                              · replace h := gif_t c190 h
                                                refine g_goto (tgt := 1692) hF dL_law_1226 (by decide) ?_
                                                exact gG_sub [2, 3, 4, 5, 6] rfl (t_L_law_1692 hFL hn (by omega) (by omega) (by omega) hc2 hs2 q1 q2 q3 h hR (fun n9 ad9 q9 x9 y9 => hN n9 ad9 q9 (gExt.tr gExt.rf x9) (gad_call y9 gExt.rf (fun _ _ => rfl))))
                                              · replace h := gif_n c190 h
                                                refine g_aload_n hF 5 rfl rfl dL_law_1214 ?_
                                                refine g_iconst (v := (0 : Int32)) hF rfl dL_law_1215 ?_
                                                obtain ⟨v191, h191, h⟩ := gbnd h
                                                obtain ⟨i191h, e191v⟩ := aldl_sp q3 h191
                                                refine g_lald hF q3 i191h dL_law_1216 ?_
                                                rw [← e191v]
                                                refine g_iload hF 0 rfl dL_law_1217 ?_
                                                refine g_i2l hF dL_law_1219 ?_
                                                refine g_lcmp hF dL_law_1220 ?_
                                                refine g_if_eq (tgt := 1226) hF dL_law_1221 (by decide) (fun c192 => ?_) (fun c192 => ?_)
                                                · replace h := gif_t c192 h
                                                  refine g_goto (tgt := 1692) hF dL_law_1226 (by decide) ?_
                                                  exact gG_sub [2, 3, 4, 5, 6] rfl (t_L_law_1692 hFL hn (by omega) (by omega) (by omega) hc2 hs2 q1 q2 q3 h hR (fun n9 ad9 q9 x9 y9 => hN n9 ad9 q9 (gExt.tr gExt.rf x9) (gad_call y9 gExt.rf (fun _ _ => rfl))))
                                                · replace h := gif_f c192 h
                                                  refine g_iconst (v := (0 : Int32)) hF rfl dL_law_1224 ?_
                                                  cases h
                                                  exact g_ret_i hF rfl rfl dL_law_1225 (hR _ rfl) (by omega) (by omega)
                                            · replace h := gif_f c189 h
                                              refine g_iconst (v := (0 : Int32)) hF rfl dL_law_1207 ?_
                                              cases h
                                              exact g_ret_i hF rfl rfl dL_law_1208 (hR _ rfl) (by omega) (by omega)
                                          · replace h := gif_f c13_19 h
                                            by_cases c13_20 : (v12 &&& (31 : Int32)) = (20 : Int32)
                                            · replace h := gif_t c13_20 h
                                              refine g_tabIn (tgt := 1229) (off := 1189) hF dL_law_40 (by rw [c13_20]; decide) (by rw [c13_20]; decide) (by rw [c13_20]; decide +kernel) (by decide) ?_
                                              refine g_aload_n hF 1 rfl rfl dL_law_1229 ?_
                                              refine g_aload_n hF 0 rfl rfl dL_law_1230 ?_
                                              refine g_iload hF 4 rfl dL_law_1231 ?_
                                              refine g_iconst (v := (1 : Int32)) hF rfl dL_law_1233 ?_
                                              refine g_iadd hF dL_law_1234 ?_
                                              obtain ⟨v193, h193, h⟩ := gbnd h
                                              obtain ⟨i193h, e193v⟩ := scr_sp h193
                                              refine g_sci hFL i193h dL_law_1235 ?_
                                              rw [← e193v]
                                              refine g_aload_n hF 0 rfl rfl dL_law_1236 ?_
                                              refine g_iload hF 4 rfl dL_law_1237 ?_
                                              refine g_iconst (v := (2 : Int32)) hF rfl dL_law_1239 ?_
                                              refine g_iadd hF dL_law_1240 ?_
                                              obtain ⟨v194, h194, h⟩ := gbnd h
                                              obtain ⟨i194h, e194v⟩ := scr_sp h194
                                              refine g_sci hFL i194h dL_law_1241 ?_
                                              rw [← e194v]
                                              refine g_aload_n hF 0 rfl rfl dL_law_1242 ?_
                                              refine g_iload hF 4 rfl dL_law_1243 ?_
                                              refine g_iconst (v := (3 : Int32)) hF rfl dL_law_1245 ?_
                                              refine g_iadd hF dL_law_1246 ?_
                                              obtain ⟨v195, h195, h⟩ := gbnd h
                                              obtain ⟨i195h, e195v⟩ := scr_sp h195
                                              refine g_sci hFL i195h dL_law_1247 ?_
                                              rw [← e195v]
                                              refine g_aload_n hF 3 rfl rfl dL_law_1248 ?_
                                              obtain ⟨x196, h196, h⟩ := gbnd h
                                              refine g_callSW hF (n := 5) kw_1032 kw_104 rfl (by decide +kernel) (by decide +kernel) (by decide) kw_1030 kw_1031 (c_L_offerValue (d := d - 1) (by omega) q1 q3 h196) (by omega) (by omega) (by omega) rfl rfl (Nat.le_of_ble_eq_true rfl) dL_law_1249 (g_sameS ?_)
                                              refine g_istore (ls' := [(5, .int x196.1), (0, .ref (gSB + 3000)), (1, .ref a1), (2, .ref a2), (3, .ref a3), (4, .int i4)]) hF (by rw [hn]; decide) rfl dL_law_1252 ?_
                                              refine g_aload_n hF 3 rfl rfl dL_law_1254 ?_
                                              refine g_aload_n hF 1 rfl rfl dL_law_1255 ?_
                                              refine g_iload hF 5 rfl dL_law_1256 ?_
                                              refine g_iconst (v := (1 : Int32)) hF rfl dL_law_1258 ?_
                                              refine g_iadd hF dL_law_1259 ?_
                                              obtain ⟨v197, h197, h⟩ := gbnd h
                                              obtain ⟨i197h, e197v⟩ := scr_sp h197
                                              refine g_sci hFL i197h dL_law_1260 ?_
                                              rw [← e197v]
                                              refine g_aload_n hF 1 rfl rfl dL_law_1261 ?_
                                              refine g_iload hF 5 rfl dL_law_1262 ?_
                                              refine g_iconst (v := (2 : Int32)) hF rfl dL_law_1264 ?_
                                              refine g_iadd hF dL_law_1265 ?_
                                              obtain ⟨v198, h198, h⟩ := gbnd h
                                              obtain ⟨i198h, e198v⟩ := scr_sp h198
                                              refine g_sci hFL i198h dL_law_1266 ?_
                                              rw [← e198v]
                                              refine g_aload_n hF 1 rfl rfl dL_law_1267 ?_
                                              refine g_iload hF 5 rfl dL_law_1268 ?_
                                              refine g_iconst (v := (3 : Int32)) hF rfl dL_law_1270 ?_
                                              refine g_iadd hF dL_law_1271 ?_
                                              obtain ⟨v199, h199, h⟩ := gbnd h
                                              obtain ⟨i199h, e199v⟩ := scr_sp h199
                                              refine g_sci hFL i199h dL_law_1272 ?_
                                              rw [← e199v]
                                              obtain ⟨x200, h200, h⟩ := gbnd h
                                              refine g_callV hF my_X9_offerValue kw_1456 kw_1457 kw_1458 gC_9.1 (by decide) q2 (c_X9_offerValue (d := d - 1) (by omega) q2 h200) (by omega) (by omega) (by omega) rfl rfl (Nat.le_of_ble_eq_true rfl) dL_law_1273 (g_sameS ?_)
                                              refine g_istore (ls' := [(6, .int x200.1), (5, .int x196.1), (0, .ref (gSB + 3000)), (1, .ref a1), (2, .ref a2), (3, .ref a3), (4, .int i4)]) hF (by rw [hn]; decide) rfl dL_law_1276 ?_
                                              refine g_aload_n hF 4 rfl rfl dL_law_1278 ?_
                                              obtain ⟨x201, h201, h⟩ := gbnd h
                                              refine g_callV hF my_X9_thrown kw_1171 kw_1172 kw_1173 gC_9.1 (by decide) q2 (c_X9_thrown (d := d - 1) (by omega) q2 h201) (by omega) (by omega) (by omega) rfl rfl (Nat.le_of_ble_eq_true rfl) dL_law_1279 (g_sameS ?_)
                                              refine g_iload hF 1 rfl dL_law_1282 ?_
                                              refine g_icmp_eq (tgt := 1289) hF dL_law_1284 (by decide) (fun c202 => ?_) (fun c202 => ?_)
                                              · replace h := gif_t c202 h
                                                refine g_iload hF 1 rfl dL_law_1289 ?_
                                                refine g_if_ne (tgt := 1306) hF dL_law_1291 (by decide) (fun c203 => ?_) (fun c203 => ?_)
                                                · replace h := gif_t c203 h
                                                  refine g_goto (tgt := 1692) hF dL_law_1306 (by decide) ?_
                                                  exact gG_sub [2, 3, 4, 5, 6] rfl (t_L_law_1692 hFL hn (by omega) (by omega) (by omega) hc2 hs2 q1 q2 q3 h hR (fun n9 ad9 q9 x9 y9 => hN n9 ad9 q9 (gExt.tr gExt.rf x9) (gad_call y9 gExt.rf (fun _ _ => rfl))))
                                                · replace h := gif_n c203 h
                                                  refine g_aload_n hF 5 rfl rfl dL_law_1294 ?_
                                                  refine g_iconst (v := (0 : Int32)) hF rfl dL_law_1295 ?_
                                                  obtain ⟨v204, h204, h⟩ := gbnd h
                                                  obtain ⟨i204h, e204v⟩ := aldl_sp q3 h204
                                                  refine g_lald hF q3 i204h dL_law_1296 ?_
                                                  rw [← e204v]
                                                  refine g_iload hF 0 rfl dL_law_1297 ?_
                                                  refine g_i2l hF dL_law_1299 ?_
                                                  refine g_lcmp hF dL_law_1300 ?_
                                                  refine g_if_eq (tgt := 1306) hF dL_law_1301 (by decide) (fun c205 => ?_) (fun c205 => ?_)
                                                  · replace h := gif_t c205 h
                                                    refine g_goto (tgt := 1692) hF dL_law_1306 (by decide) ?_
                                                    exact gG_sub [2, 3, 4, 5, 6] rfl (t_L_law_1692 hFL hn (by omega) (by omega) (by omega) hc2 hs2 q1 q2 q3 h hR (fun n9 ad9 q9 x9 y9 => hN n9 ad9 q9 (gExt.tr gExt.rf x9) (gad_call y9 gExt.rf (fun _ _ => rfl))))
                                                  · replace h := gif_f c205 h
                                                    refine g_iconst (v := (0 : Int32)) hF rfl dL_law_1304 ?_
                                                    cases h
                                                    exact g_ret_i hF rfl rfl dL_law_1305 (hR _ rfl) (by omega) (by omega)
                                              · replace h := gif_f c202 h
                                                refine g_iconst (v := (0 : Int32)) hF rfl dL_law_1287 ?_
                                                cases h
                                                exact g_ret_i hF rfl rfl dL_law_1288 (hR _ rfl) (by omega) (by omega)
                                            · replace h := gif_f c13_20 h
                                              by_cases c13_21 : (v12 &&& (31 : Int32)) = (21 : Int32)
                                              · replace h := gif_t c13_21 h
                                                refine g_tabIn (tgt := 1309) (off := 1269) hF dL_law_40 (by rw [c13_21]; decide) (by rw [c13_21]; decide) (by rw [c13_21]; decide +kernel) (by decide) ?_
                                                refine g_aload_n hF 1 rfl rfl dL_law_1309 ?_
                                                refine g_aload_n hF 0 rfl rfl dL_law_1310 ?_
                                                refine g_iload hF 4 rfl dL_law_1311 ?_
                                                refine g_iconst (v := (1 : Int32)) hF rfl dL_law_1313 ?_
                                                refine g_iadd hF dL_law_1314 ?_
                                                obtain ⟨v206, h206, h⟩ := gbnd h
                                                obtain ⟨i206h, e206v⟩ := scr_sp h206
                                                refine g_sci hFL i206h dL_law_1315 ?_
                                                rw [← e206v]
                                                refine g_aload_n hF 0 rfl rfl dL_law_1316 ?_
                                                refine g_iload hF 4 rfl dL_law_1317 ?_
                                                refine g_iconst (v := (2 : Int32)) hF rfl dL_law_1319 ?_
                                                refine g_iadd hF dL_law_1320 ?_
                                                obtain ⟨v207, h207, h⟩ := gbnd h
                                                obtain ⟨i207h, e207v⟩ := scr_sp h207
                                                refine g_sci hFL i207h dL_law_1321 ?_
                                                rw [← e207v]
                                                refine g_aload_n hF 0 rfl rfl dL_law_1322 ?_
                                                refine g_iload hF 4 rfl dL_law_1323 ?_
                                                refine g_iconst (v := (3 : Int32)) hF rfl dL_law_1325 ?_
                                                refine g_iadd hF dL_law_1326 ?_
                                                obtain ⟨v208, h208, h⟩ := gbnd h
                                                obtain ⟨i208h, e208v⟩ := scr_sp h208
                                                refine g_sci hFL i208h dL_law_1327 ?_
                                                rw [← e208v]
                                                refine g_aload_n hF 3 rfl rfl dL_law_1328 ?_
                                                obtain ⟨x209, h209, h⟩ := gbnd h
                                                refine g_callSW hF (n := 5) kw_1044 kw_104 rfl (by decide +kernel) (by decide +kernel) (by decide) kw_1042 kw_1043 (c_L_offerForward (d := d - 1) (by omega) q1 q3 h209) (by omega) (by omega) (by omega) rfl rfl (Nat.le_of_ble_eq_true rfl) dL_law_1329 (g_sameS ?_)
                                                refine g_istore (ls' := [(5, .int x209.1), (0, .ref (gSB + 3000)), (1, .ref a1), (2, .ref a2), (3, .ref a3), (4, .int i4)]) hF (by rw [hn]; decide) rfl dL_law_1332 ?_
                                                refine g_aload_n hF 3 rfl rfl dL_law_1334 ?_
                                                refine g_aload_n hF 1 rfl rfl dL_law_1335 ?_
                                                refine g_iload hF 5 rfl dL_law_1336 ?_
                                                refine g_iconst (v := (1 : Int32)) hF rfl dL_law_1338 ?_
                                                refine g_iadd hF dL_law_1339 ?_
                                                obtain ⟨v210, h210, h⟩ := gbnd h
                                                obtain ⟨i210h, e210v⟩ := scr_sp h210
                                                refine g_sci hFL i210h dL_law_1340 ?_
                                                rw [← e210v]
                                                refine g_aload_n hF 1 rfl rfl dL_law_1341 ?_
                                                refine g_iload hF 5 rfl dL_law_1342 ?_
                                                refine g_iconst (v := (2 : Int32)) hF rfl dL_law_1344 ?_
                                                refine g_iadd hF dL_law_1345 ?_
                                                obtain ⟨v211, h211, h⟩ := gbnd h
                                                obtain ⟨i211h, e211v⟩ := scr_sp h211
                                                refine g_sci hFL i211h dL_law_1346 ?_
                                                rw [← e211v]
                                                refine g_aload_n hF 1 rfl rfl dL_law_1347 ?_
                                                refine g_iload hF 5 rfl dL_law_1348 ?_
                                                refine g_iconst (v := (3 : Int32)) hF rfl dL_law_1350 ?_
                                                refine g_iadd hF dL_law_1351 ?_
                                                obtain ⟨v212, h212, h⟩ := gbnd h
                                                obtain ⟨i212h, e212v⟩ := scr_sp h212
                                                refine g_sci hFL i212h dL_law_1352 ?_
                                                rw [← e212v]
                                                obtain ⟨x213, h213, h⟩ := gbnd h
                                                refine g_callV hF my_X9_offerForward kw_1464 kw_1465 kw_1466 gC_9.1 (by decide) q2 (c_X9_offerForward (d := d - 1) (by omega) q2 h213) (by omega) (by omega) (by omega) rfl rfl (Nat.le_of_ble_eq_true rfl) dL_law_1353 (g_sameS ?_)
                                                refine g_istore (ls' := [(6, .int x213.1), (5, .int x209.1), (0, .ref (gSB + 3000)), (1, .ref a1), (2, .ref a2), (3, .ref a3), (4, .int i4)]) hF (by rw [hn]; decide) rfl dL_law_1356 ?_
                                                refine g_aload_n hF 4 rfl rfl dL_law_1358 ?_
                                                obtain ⟨x214, h214, h⟩ := gbnd h
                                                refine g_callV hF my_X9_thrown kw_1171 kw_1172 kw_1173 gC_9.1 (by decide) q2 (c_X9_thrown (d := d - 1) (by omega) q2 h214) (by omega) (by omega) (by omega) rfl rfl (Nat.le_of_ble_eq_true rfl) dL_law_1359 (g_sameS ?_)
                                                refine g_iload hF 1 rfl dL_law_1362 ?_
                                                refine g_icmp_eq (tgt := 1369) hF dL_law_1364 (by decide) (fun c215 => ?_) (fun c215 => ?_)
                                                · replace h := gif_t c215 h
                                                  refine g_iload hF 1 rfl dL_law_1369 ?_
                                                  refine g_if_ne (tgt := 1386) hF dL_law_1371 (by decide) (fun c216 => ?_) (fun c216 => ?_)
                                                  · replace h := gif_t c216 h
                                                    refine g_goto (tgt := 1692) hF dL_law_1386 (by decide) ?_
                                                    exact gG_sub [2, 3, 4, 5, 6] rfl (t_L_law_1692 hFL hn (by omega) (by omega) (by omega) hc2 hs2 q1 q2 q3 h hR (fun n9 ad9 q9 x9 y9 => hN n9 ad9 q9 (gExt.tr gExt.rf x9) (gad_call y9 gExt.rf (fun _ _ => rfl))))
                                                  · replace h := gif_n c216 h
                                                    refine g_aload_n hF 5 rfl rfl dL_law_1374 ?_
                                                    refine g_iconst (v := (0 : Int32)) hF rfl dL_law_1375 ?_
                                                    obtain ⟨v217, h217, h⟩ := gbnd h
                                                    obtain ⟨i217h, e217v⟩ := aldl_sp q3 h217
                                                    refine g_lald hF q3 i217h dL_law_1376 ?_
                                                    rw [← e217v]
                                                    refine g_iload hF 0 rfl dL_law_1377 ?_
                                                    refine g_i2l hF dL_law_1379 ?_
                                                    refine g_lcmp hF dL_law_1380 ?_
                                                    refine g_if_eq (tgt := 1386) hF dL_law_1381 (by decide) (fun c218 => ?_) (fun c218 => ?_)
                                                    · replace h := gif_t c218 h
                                                      refine g_goto (tgt := 1692) hF dL_law_1386 (by decide) ?_
                                                      exact gG_sub [2, 3, 4, 5, 6] rfl (t_L_law_1692 hFL hn (by omega) (by omega) (by omega) hc2 hs2 q1 q2 q3 h hR (fun n9 ad9 q9 x9 y9 => hN n9 ad9 q9 (gExt.tr gExt.rf x9) (gad_call y9 gExt.rf (fun _ _ => rfl))))
                                                    · replace h := gif_f c218 h
                                                      refine g_iconst (v := (0 : Int32)) hF rfl dL_law_1384 ?_
                                                      cases h
                                                      exact g_ret_i hF rfl rfl dL_law_1385 (hR _ rfl) (by omega) (by omega)
                                                · replace h := gif_f c215 h
                                                  refine g_iconst (v := (0 : Int32)) hF rfl dL_law_1367 ?_
                                                  cases h
                                                  exact g_ret_i hF rfl rfl dL_law_1368 (hR _ rfl) (by omega) (by omega)
                                              · replace h := gif_f c13_21 h
                                                by_cases c13_22 : (v12 &&& (31 : Int32)) = (22 : Int32)
                                                · replace h := gif_t c13_22 h
                                                  refine g_tabIn (tgt := 1389) (off := 1349) hF dL_law_40 (by rw [c13_22]; decide) (by rw [c13_22]; decide) (by rw [c13_22]; decide +kernel) (by decide) ?_
                                                  refine g_aload_n hF 1 rfl rfl dL_law_1389 ?_
                                                  refine g_aload_n hF 0 rfl rfl dL_law_1390 ?_
                                                  refine g_iload hF 4 rfl dL_law_1391 ?_
                                                  refine g_iconst (v := (1 : Int32)) hF rfl dL_law_1393 ?_
                                                  refine g_iadd hF dL_law_1394 ?_
                                                  obtain ⟨v219, h219, h⟩ := gbnd h
                                                  obtain ⟨i219h, e219v⟩ := scr_sp h219
                                                  refine g_sci hFL i219h dL_law_1395 ?_
                                                  rw [← e219v]
                                                  refine g_aload_n hF 0 rfl rfl dL_law_1396 ?_
                                                  refine g_iload hF 4 rfl dL_law_1397 ?_
                                                  refine g_iconst (v := (2 : Int32)) hF rfl dL_law_1399 ?_
                                                  refine g_iadd hF dL_law_1400 ?_
                                                  obtain ⟨v220, h220, h⟩ := gbnd h
                                                  obtain ⟨i220h, e220v⟩ := scr_sp h220
                                                  refine g_sci hFL i220h dL_law_1401 ?_
                                                  rw [← e220v]
                                                  refine g_aload_n hF 3 rfl rfl dL_law_1402 ?_
                                                  obtain ⟨x221, h221, h⟩ := gbnd h
                                                  refine g_callSW hF (n := 4) kw_1051 kw_104 rfl (by decide +kernel) (by decide +kernel) (by decide) kw_1049 kw_1050 (c_L_withdraw (d := d - 1) (by omega) q1 q3 h221) (by omega) (by omega) (by omega) rfl rfl (Nat.le_of_ble_eq_true rfl) dL_law_1403 (g_sameS ?_)
                                                  refine g_istore (ls' := [(5, .int x221.1), (0, .ref (gSB + 3000)), (1, .ref a1), (2, .ref a2), (3, .ref a3), (4, .int i4)]) hF (by rw [hn]; decide) rfl dL_law_1406 ?_
                                                  refine g_aload_n hF 3 rfl rfl dL_law_1408 ?_
                                                  refine g_aload_n hF 1 rfl rfl dL_law_1409 ?_
                                                  refine g_iload hF 5 rfl dL_law_1410 ?_
                                                  refine g_iconst (v := (1 : Int32)) hF rfl dL_law_1412 ?_
                                                  refine g_iadd hF dL_law_1413 ?_
                                                  obtain ⟨v222, h222, h⟩ := gbnd h
                                                  obtain ⟨i222h, e222v⟩ := scr_sp h222
                                                  refine g_sci hFL i222h dL_law_1414 ?_
                                                  rw [← e222v]
                                                  refine g_aload_n hF 1 rfl rfl dL_law_1415 ?_
                                                  refine g_iload hF 5 rfl dL_law_1416 ?_
                                                  refine g_iconst (v := (2 : Int32)) hF rfl dL_law_1418 ?_
                                                  refine g_iadd hF dL_law_1419 ?_
                                                  obtain ⟨v223, h223, h⟩ := gbnd h
                                                  obtain ⟨i223h, e223v⟩ := scr_sp h223
                                                  refine g_sci hFL i223h dL_law_1420 ?_
                                                  rw [← e223v]
                                                  obtain ⟨x224, h224, h⟩ := gbnd h
                                                  refine g_callV hF my_X9_withdraw kw_1468 kw_1469 kw_1470 gC_9.1 (by decide) q2 (c_X9_withdraw (d := d - 1) (by omega) q2 h224) (by omega) (by omega) (by omega) rfl rfl (Nat.le_of_ble_eq_true rfl) dL_law_1421 (g_sameS ?_)
                                                  refine g_istore (ls' := [(6, .int x224.1), (5, .int x221.1), (0, .ref (gSB + 3000)), (1, .ref a1), (2, .ref a2), (3, .ref a3), (4, .int i4)]) hF (by rw [hn]; decide) rfl dL_law_1424 ?_
                                                  refine g_aload_n hF 4 rfl rfl dL_law_1426 ?_
                                                  obtain ⟨x225, h225, h⟩ := gbnd h
                                                  refine g_callV hF my_X9_thrown kw_1171 kw_1172 kw_1173 gC_9.1 (by decide) q2 (c_X9_thrown (d := d - 1) (by omega) q2 h225) (by omega) (by omega) (by omega) rfl rfl (Nat.le_of_ble_eq_true rfl) dL_law_1427 (g_sameS ?_)
                                                  refine g_iload hF 1 rfl dL_law_1430 ?_
                                                  refine g_icmp_eq (tgt := 1437) hF dL_law_1432 (by decide) (fun c226 => ?_) (fun c226 => ?_)
                                                  · replace h := gif_t c226 h
                                                    refine g_iload hF 1 rfl dL_law_1437 ?_
                                                    refine g_if_ne (tgt := 1454) hF dL_law_1439 (by decide) (fun c227 => ?_) (fun c227 => ?_)
                                                    · replace h := gif_t c227 h
                                                      refine g_goto (tgt := 1692) hF dL_law_1454 (by decide) ?_
                                                      exact gG_sub [2, 3, 4, 5, 6] rfl (t_L_law_1692 hFL hn (by omega) (by omega) (by omega) hc2 hs2 q1 q2 q3 h hR (fun n9 ad9 q9 x9 y9 => hN n9 ad9 q9 (gExt.tr gExt.rf x9) (gad_call y9 gExt.rf (fun _ _ => rfl))))
                                                    · replace h := gif_n c227 h
                                                      refine g_aload_n hF 5 rfl rfl dL_law_1442 ?_
                                                      refine g_iconst (v := (0 : Int32)) hF rfl dL_law_1443 ?_
                                                      obtain ⟨v228, h228, h⟩ := gbnd h
                                                      obtain ⟨i228h, e228v⟩ := aldl_sp q3 h228
                                                      refine g_lald hF q3 i228h dL_law_1444 ?_
                                                      rw [← e228v]
                                                      refine g_iload hF 0 rfl dL_law_1445 ?_
                                                      refine g_i2l hF dL_law_1447 ?_
                                                      refine g_lcmp hF dL_law_1448 ?_
                                                      refine g_if_eq (tgt := 1454) hF dL_law_1449 (by decide) (fun c229 => ?_) (fun c229 => ?_)
                                                      · replace h := gif_t c229 h
                                                        refine g_goto (tgt := 1692) hF dL_law_1454 (by decide) ?_
                                                        exact gG_sub [2, 3, 4, 5, 6] rfl (t_L_law_1692 hFL hn (by omega) (by omega) (by omega) hc2 hs2 q1 q2 q3 h hR (fun n9 ad9 q9 x9 y9 => hN n9 ad9 q9 (gExt.tr gExt.rf x9) (gad_call y9 gExt.rf (fun _ _ => rfl))))
                                                      · replace h := gif_f c229 h
                                                        refine g_iconst (v := (0 : Int32)) hF rfl dL_law_1452 ?_
                                                        cases h
                                                        exact g_ret_i hF rfl rfl dL_law_1453 (hR _ rfl) (by omega) (by omega)
                                                  · replace h := gif_f c226 h
                                                    refine g_iconst (v := (0 : Int32)) hF rfl dL_law_1435 ?_
                                                    cases h
                                                    exact g_ret_i hF rfl rfl dL_law_1436 (hR _ rfl) (by omega) (by omega)
                                                · replace h := gif_f c13_22 h
                                                  by_cases c13_23 : (v12 &&& (31 : Int32)) = (23 : Int32)
                                                  · replace h := gif_t c13_23 h
                                                    refine g_tabIn (tgt := 1457) (off := 1417) hF dL_law_40 (by rw [c13_23]; decide) (by rw [c13_23]; decide) (by rw [c13_23]; decide +kernel) (by decide) ?_
                                                    refine g_aload_n hF 1 rfl rfl dL_law_1457 ?_
                                                    refine g_aload_n hF 0 rfl rfl dL_law_1458 ?_
                                                    refine g_iload hF 4 rfl dL_law_1459 ?_
                                                    refine g_iconst (v := (1 : Int32)) hF rfl dL_law_1461 ?_
                                                    refine g_iadd hF dL_law_1462 ?_
                                                    obtain ⟨v230, h230, h⟩ := gbnd h
                                                    obtain ⟨i230h, e230v⟩ := scr_sp h230
                                                    refine g_sci hFL i230h dL_law_1463 ?_
                                                    rw [← e230v]
                                                    refine g_aload_n hF 0 rfl rfl dL_law_1464 ?_
                                                    refine g_iload hF 4 rfl dL_law_1465 ?_
                                                    refine g_iconst (v := (2 : Int32)) hF rfl dL_law_1467 ?_
                                                    refine g_iadd hF dL_law_1468 ?_
                                                    obtain ⟨v231, h231, h⟩ := gbnd h
                                                    obtain ⟨i231h, e231v⟩ := scr_sp h231
                                                    refine g_sci hFL i231h dL_law_1469 ?_
                                                    rw [← e231v]
                                                    refine g_aload_n hF 3 rfl rfl dL_law_1470 ?_
                                                    obtain ⟨x232, h232, h⟩ := gbnd h
                                                    refine g_callSW hF (n := 4) kw_1060 kw_104 rfl (by decide +kernel) (by decide +kernel) (by decide) kw_1058 kw_1059 (c_L_setTrust (d := d - 1) (by omega) q1 q3 h232) (by omega) (by omega) (by omega) rfl rfl (Nat.le_of_ble_eq_true rfl) dL_law_1471 (g_sameS ?_)
                                                    refine g_istore (ls' := [(5, .int x232.1), (0, .ref (gSB + 3000)), (1, .ref a1), (2, .ref a2), (3, .ref a3), (4, .int i4)]) hF (by rw [hn]; decide) rfl dL_law_1474 ?_
                                                    refine g_aload_n hF 3 rfl rfl dL_law_1476 ?_
                                                    refine g_aload_n hF 1 rfl rfl dL_law_1477 ?_
                                                    refine g_iload hF 5 rfl dL_law_1478 ?_
                                                    refine g_iconst (v := (1 : Int32)) hF rfl dL_law_1480 ?_
                                                    refine g_iadd hF dL_law_1481 ?_
                                                    obtain ⟨v233, h233, h⟩ := gbnd h
                                                    obtain ⟨i233h, e233v⟩ := scr_sp h233
                                                    refine g_sci hFL i233h dL_law_1482 ?_
                                                    rw [← e233v]
                                                    refine g_aload_n hF 1 rfl rfl dL_law_1483 ?_
                                                    refine g_iload hF 5 rfl dL_law_1484 ?_
                                                    refine g_iconst (v := (2 : Int32)) hF rfl dL_law_1486 ?_
                                                    refine g_iadd hF dL_law_1487 ?_
                                                    obtain ⟨v234, h234, h⟩ := gbnd h
                                                    obtain ⟨i234h, e234v⟩ := scr_sp h234
                                                    refine g_sci hFL i234h dL_law_1488 ?_
                                                    rw [← e234v]
                                                    obtain ⟨x235, h235, h⟩ := gbnd h
                                                    refine g_callV hF my_X9_setTrust kw_1472 kw_1473 kw_1474 gC_9.1 (by decide) q2 (c_X9_setTrust (d := d - 1) (by omega) q2 h235) (by omega) (by omega) (by omega) rfl rfl (Nat.le_of_ble_eq_true rfl) dL_law_1489 (g_sameS ?_)
                                                    refine g_istore (ls' := [(6, .int x235.1), (5, .int x232.1), (0, .ref (gSB + 3000)), (1, .ref a1), (2, .ref a2), (3, .ref a3), (4, .int i4)]) hF (by rw [hn]; decide) rfl dL_law_1492 ?_
                                                    refine g_aload_n hF 4 rfl rfl dL_law_1494 ?_
                                                    obtain ⟨x236, h236, h⟩ := gbnd h
                                                    refine g_callV hF my_X9_thrown kw_1171 kw_1172 kw_1173 gC_9.1 (by decide) q2 (c_X9_thrown (d := d - 1) (by omega) q2 h236) (by omega) (by omega) (by omega) rfl rfl (Nat.le_of_ble_eq_true rfl) dL_law_1495 (g_sameS ?_)
                                                    refine g_iload hF 1 rfl dL_law_1498 ?_
                                                    refine g_icmp_eq (tgt := 1505) hF dL_law_1500 (by decide) (fun c237 => ?_) (fun c237 => ?_)
                                                    · replace h := gif_t c237 h
                                                      refine g_iload hF 1 rfl dL_law_1505 ?_
                                                      refine g_if_ne (tgt := 1522) hF dL_law_1507 (by decide) (fun c238 => ?_) (fun c238 => ?_)
                                                      · replace h := gif_t c238 h
                                                        refine g_goto (tgt := 1692) hF dL_law_1522 (by decide) ?_
                                                        exact gG_sub [2, 3, 4, 5, 6] rfl (t_L_law_1692 hFL hn (by omega) (by omega) (by omega) hc2 hs2 q1 q2 q3 h hR (fun n9 ad9 q9 x9 y9 => hN n9 ad9 q9 (gExt.tr gExt.rf x9) (gad_call y9 gExt.rf (fun _ _ => rfl))))
                                                      · replace h := gif_n c238 h
                                                        refine g_aload_n hF 5 rfl rfl dL_law_1510 ?_
                                                        refine g_iconst (v := (0 : Int32)) hF rfl dL_law_1511 ?_
                                                        obtain ⟨v239, h239, h⟩ := gbnd h
                                                        obtain ⟨i239h, e239v⟩ := aldl_sp q3 h239
                                                        refine g_lald hF q3 i239h dL_law_1512 ?_
                                                        rw [← e239v]
                                                        refine g_iload hF 0 rfl dL_law_1513 ?_
                                                        refine g_i2l hF dL_law_1515 ?_
                                                        refine g_lcmp hF dL_law_1516 ?_
                                                        refine g_if_eq (tgt := 1522) hF dL_law_1517 (by decide) (fun c240 => ?_) (fun c240 => ?_)
                                                        · replace h := gif_t c240 h
                                                          refine g_goto (tgt := 1692) hF dL_law_1522 (by decide) ?_
                                                          exact gG_sub [2, 3, 4, 5, 6] rfl (t_L_law_1692 hFL hn (by omega) (by omega) (by omega) hc2 hs2 q1 q2 q3 h hR (fun n9 ad9 q9 x9 y9 => hN n9 ad9 q9 (gExt.tr gExt.rf x9) (gad_call y9 gExt.rf (fun _ _ => rfl))))
                                                        · replace h := gif_f c240 h
                                                          refine g_iconst (v := (0 : Int32)) hF rfl dL_law_1520 ?_
                                                          cases h
                                                          exact g_ret_i hF rfl rfl dL_law_1521 (hR _ rfl) (by omega) (by omega)
                                                    · replace h := gif_f c237 h
                                                      refine g_iconst (v := (0 : Int32)) hF rfl dL_law_1503 ?_
                                                      cases h
                                                      exact g_ret_i hF rfl rfl dL_law_1504 (hR _ rfl) (by omega) (by omega)
                                                  · replace h := gif_f c13_23 h
                                                    by_cases c13_24 : (v12 &&& (31 : Int32)) = (24 : Int32)
                                                    · replace h := gif_t c13_24 h
                                                      refine g_tabIn (tgt := 1525) (off := 1485) hF dL_law_40 (by rw [c13_24]; decide) (by rw [c13_24]; decide) (by rw [c13_24]; decide +kernel) (by decide) ?_
                                                      refine g_aload_n hF 1 rfl rfl dL_law_1525 ?_
                                                      refine g_aload_n hF 0 rfl rfl dL_law_1526 ?_
                                                      refine g_iload hF 4 rfl dL_law_1527 ?_
                                                      refine g_iconst (v := (1 : Int32)) hF rfl dL_law_1529 ?_
                                                      refine g_iadd hF dL_law_1530 ?_
                                                      obtain ⟨v241, h241, h⟩ := gbnd h
                                                      obtain ⟨i241h, e241v⟩ := scr_sp h241
                                                      refine g_sci hFL i241h dL_law_1531 ?_
                                                      rw [← e241v]
                                                      refine g_aload_n hF 0 rfl rfl dL_law_1532 ?_
                                                      refine g_iload hF 4 rfl dL_law_1533 ?_
                                                      refine g_iconst (v := (2 : Int32)) hF rfl dL_law_1535 ?_
                                                      refine g_iadd hF dL_law_1536 ?_
                                                      obtain ⟨v242, h242, h⟩ := gbnd h
                                                      obtain ⟨i242h, e242v⟩ := scr_sp h242
                                                      refine g_sci hFL i242h dL_law_1537 ?_
                                                      rw [← e242v]
                                                      refine g_if_eq (tgt := 1545) hF dL_law_1538 (by decide) (fun c243 => ?_) (fun c243 => ?_)
                                                      · replace h := gif_t c243 h
                                                        refine g_iconst (v := (0 : Int32)) hF rfl dL_law_1545 ?_
                                                        exact gG_sub [0, 1, 2, 3, 4] rfl (t_L_law_1546 hFL hn (by omega) (by omega) (by omega) hc2 hs2 q1 q2 q3 q1 h hR (fun n9 ad9 q9 x9 y9 => hN n9 ad9 q9 (gExt.tr gExt.rf x9) (gad_call y9 gExt.rf (fun _ _ => rfl))))
                                                      · replace h := gif_f c243 h
                                                        refine g_iconst (v := (1 : Int32)) hF rfl dL_law_1541 ?_
                                                        refine g_goto (tgt := 1546) hF dL_law_1542 (by decide) ?_
                                                        exact gG_sub [0, 1, 2, 3, 4] rfl (t_L_law_1546 hFL hn (by omega) (by omega) (by omega) hc2 hs2 q1 q2 q3 q1 h hR (fun n9 ad9 q9 x9 y9 => hN n9 ad9 q9 (gExt.tr gExt.rf x9) (gad_call y9 gExt.rf (fun _ _ => rfl))))
                                                    · replace h := gif_f c13_24 h
                                                      by_cases c13_25 : (v12 &&& (31 : Int32)) = (25 : Int32)
                                                      · replace h := gif_t c13_25 h
                                                        refine g_tabIn (tgt := 1609) (off := 1569) hF dL_law_40 (by rw [c13_25]; decide) (by rw [c13_25]; decide) (by rw [c13_25]; decide +kernel) (by decide) ?_
                                                        refine g_aload_n hF 1 rfl rfl dL_law_1609 ?_
                                                        refine g_aload_n hF 0 rfl rfl dL_law_1610 ?_
                                                        refine g_iload hF 4 rfl dL_law_1611 ?_
                                                        refine g_iconst (v := (1 : Int32)) hF rfl dL_law_1613 ?_
                                                        refine g_iadd hF dL_law_1614 ?_
                                                        obtain ⟨v244, h244, h⟩ := gbnd h
                                                        obtain ⟨i244h, e244v⟩ := scr_sp h244
                                                        refine g_sci hFL i244h dL_law_1615 ?_
                                                        rw [← e244v]
                                                        refine g_aload_n hF 3 rfl rfl dL_law_1616 ?_
                                                        obtain ⟨x245, h245, h⟩ := gbnd h
                                                        refine g_callSW hF (n := 3) kw_1075 kw_104 rfl (by decide +kernel) (by decide +kernel) (by decide) kw_1073 kw_1074 (c_L_setShare (d := d - 1) (by omega) q1 q3 h245) (by omega) (by omega) (by omega) rfl rfl (Nat.le_of_ble_eq_true rfl) dL_law_1617 (g_sameS ?_)
                                                        refine g_istore (ls' := [(5, .int x245.1), (0, .ref (gSB + 3000)), (1, .ref a1), (2, .ref a2), (3, .ref a3), (4, .int i4)]) hF (by rw [hn]; decide) rfl dL_law_1620 ?_
                                                        refine g_aload_n hF 3 rfl rfl dL_law_1622 ?_
                                                        refine g_aload_n hF 1 rfl rfl dL_law_1623 ?_
                                                        refine g_iload hF 5 rfl dL_law_1624 ?_
                                                        refine g_iconst (v := (1 : Int32)) hF rfl dL_law_1626 ?_
                                                        refine g_iadd hF dL_law_1627 ?_
                                                        obtain ⟨v246, h246, h⟩ := gbnd h
                                                        obtain ⟨i246h, e246v⟩ := scr_sp h246
                                                        refine g_sci hFL i246h dL_law_1628 ?_
                                                        rw [← e246v]
                                                        obtain ⟨x247, h247, h⟩ := gbnd h
                                                        refine g_callV hF my_X9_setShare kw_1480 kw_1481 kw_1482 gC_9.1 (by decide) q2 (c_X9_setShare (d := d - 1) (by omega) q2 h247) (by omega) (by omega) (by omega) rfl rfl (Nat.le_of_ble_eq_true rfl) dL_law_1629 (g_sameS ?_)
                                                        refine g_istore (ls' := [(6, .int x247.1), (5, .int x245.1), (0, .ref (gSB + 3000)), (1, .ref a1), (2, .ref a2), (3, .ref a3), (4, .int i4)]) hF (by rw [hn]; decide) rfl dL_law_1632 ?_
                                                        refine g_aload_n hF 4 rfl rfl dL_law_1634 ?_
                                                        obtain ⟨x248, h248, h⟩ := gbnd h
                                                        refine g_callV hF my_X9_thrown kw_1171 kw_1172 kw_1173 gC_9.1 (by decide) q2 (c_X9_thrown (d := d - 1) (by omega) q2 h248) (by omega) (by omega) (by omega) rfl rfl (Nat.le_of_ble_eq_true rfl) dL_law_1635 (g_sameS ?_)
                                                        refine g_iload hF 1 rfl dL_law_1638 ?_
                                                        refine g_icmp_eq (tgt := 1645) hF dL_law_1640 (by decide) (fun c249 => ?_) (fun c249 => ?_)
                                                        · replace h := gif_t c249 h
                                                          refine g_iload hF 1 rfl dL_law_1645 ?_
                                                          refine g_if_ne (tgt := 1662) hF dL_law_1647 (by decide) (fun c250 => ?_) (fun c250 => ?_)
                                                          · replace h := gif_t c250 h
                                                            refine g_goto (tgt := 1692) hF dL_law_1662 (by decide) ?_
                                                            exact gG_sub [2, 3, 4, 5, 6] rfl (t_L_law_1692 hFL hn (by omega) (by omega) (by omega) hc2 hs2 q1 q2 q3 h hR (fun n9 ad9 q9 x9 y9 => hN n9 ad9 q9 (gExt.tr gExt.rf x9) (gad_call y9 gExt.rf (fun _ _ => rfl))))
                                                          · replace h := gif_n c250 h
                                                            refine g_aload_n hF 5 rfl rfl dL_law_1650 ?_
                                                            refine g_iconst (v := (0 : Int32)) hF rfl dL_law_1651 ?_
                                                            obtain ⟨v251, h251, h⟩ := gbnd h
                                                            obtain ⟨i251h, e251v⟩ := aldl_sp q3 h251
                                                            refine g_lald hF q3 i251h dL_law_1652 ?_
                                                            rw [← e251v]
                                                            refine g_iload hF 0 rfl dL_law_1653 ?_
                                                            refine g_i2l hF dL_law_1655 ?_
                                                            refine g_lcmp hF dL_law_1656 ?_
                                                            refine g_if_eq (tgt := 1662) hF dL_law_1657 (by decide) (fun c252 => ?_) (fun c252 => ?_)
                                                            · replace h := gif_t c252 h
                                                              refine g_goto (tgt := 1692) hF dL_law_1662 (by decide) ?_
                                                              exact gG_sub [2, 3, 4, 5, 6] rfl (t_L_law_1692 hFL hn (by omega) (by omega) (by omega) hc2 hs2 q1 q2 q3 h hR (fun n9 ad9 q9 x9 y9 => hN n9 ad9 q9 (gExt.tr gExt.rf x9) (gad_call y9 gExt.rf (fun _ _ => rfl))))
                                                            · replace h := gif_f c252 h
                                                              refine g_iconst (v := (0 : Int32)) hF rfl dL_law_1660 ?_
                                                              cases h
                                                              exact g_ret_i hF rfl rfl dL_law_1661 (hR _ rfl) (by omega) (by omega)
                                                        · replace h := gif_f c249 h
                                                          refine g_iconst (v := (0 : Int32)) hF rfl dL_law_1643 ?_
                                                          cases h
                                                          exact g_ret_i hF rfl rfl dL_law_1644 (hR _ rfl) (by omega) (by omega)
                                                      · replace h := gif_f c13_25 h
                                                        by_cases c13_26 : (v12 &&& (31 : Int32)) = (26 : Int32)
                                                        · replace h := gif_t c13_26 h
                                                          refine g_tabIn (tgt := 1665) (off := 1625) hF dL_law_40 (by rw [c13_26]; decide) (by rw [c13_26]; decide) (by rw [c13_26]; decide +kernel) (by decide) ?_
                                                          refine g_aload_n hF 1 rfl rfl dL_law_1665 ?_
                                                          obtain ⟨x253, h253, h⟩ := gbnd h
                                                          refine g_callV hF my_X8_undo kw_434 kw_435 kw_436 gC_8.1 (by decide) q1 (c_X8_undo (d := d - 1) (by omega) q1 h253) (by omega) (by omega) (by omega) rfl rfl (Nat.le_of_ble_eq_true rfl) dL_law_1666 (g_sameS ?_)
                                                          refine g_aload_n hF 2 rfl rfl dL_law_1669 ?_
                                                          obtain ⟨x254, h254, h⟩ := gbnd h
                                                          refine g_callV hF my_X9_undo kw_1484 kw_1485 kw_1486 gC_9.1 (by decide) q2 (c_X9_undo (d := d - 1) (by omega) q2 h254) (by omega) (by omega) (by omega) rfl rfl (Nat.le_of_ble_eq_true rfl) dL_law_1670 (g_sameS ?_)
                                                          refine g_icmp_eq (tgt := 1692) hF dL_law_1673 (by decide) (fun c255 => ?_) (fun c255 => ?_)
                                                          · replace h := gif_t c255 h
                                                            exact gG_sub [0, 1, 2, 3, 4] rfl (t_L_law_1692 hFL hn (by omega) (by omega) (by omega) hc2 hs2 q1 q2 q3 h hR (fun n9 ad9 q9 x9 y9 => hN n9 ad9 q9 (gExt.tr gExt.rf x9) (gad_call y9 gExt.rf (fun _ _ => rfl))))
                                                          · replace h := gif_f c255 h
                                                            refine g_iconst (v := (0 : Int32)) hF rfl dL_law_1676 ?_
                                                            cases h
                                                            exact g_ret_i hF rfl rfl dL_law_1677 (hR _ rfl) (by omega) (by omega)
                                                        · replace h := gif_f c13_26 h
                                                          by_cases c13_27 : (v12 &&& (31 : Int32)) = (27 : Int32)
                                                          · replace h := gif_t c13_27 h
                                                            refine g_tabIn (tgt := 1678) (off := 1638) hF dL_law_40 (by rw [c13_27]; decide) (by rw [c13_27]; decide) (by rw [c13_27]; decide +kernel) (by decide) ?_
                                                            refine g_aload_n hF 1 rfl rfl dL_law_1678 ?_
                                                            obtain ⟨x256, h256, h⟩ := gbnd h
                                                            refine g_callV hF my_X8_checksum kw_546 kw_547 kw_548 gC_8.1 (by decide) q1 (c_X8_checksum (d := d - 1) (by omega) q1 h256) (by omega) (by omega) (by omega) rfl rfl (Nat.le_of_ble_eq_true rfl) dL_law_1679 (g_sameS ?_)
                                                            refine g_aload_n hF 2 rfl rfl dL_law_1682 ?_
                                                            obtain ⟨x257, h257, h⟩ := gbnd h
                                                            refine g_callV hF my_X9_checksum kw_1488 kw_1489 kw_1490 gC_9.1 (by decide) q2 (c_X9_checksum (d := d - 1) (by omega) q2 h257) (by omega) (by omega) (by omega) rfl rfl (Nat.le_of_ble_eq_true rfl) dL_law_1683 (g_sameS ?_)
                                                            refine g_lcmp hF dL_law_1686 ?_
                                                            refine g_if_eq (tgt := 1692) hF dL_law_1687 (by decide) (fun c258 => ?_) (fun c258 => ?_)
                                                            · replace h := gif_t c258 h
                                                              exact gG_sub [0, 1, 2, 3, 4] rfl (t_L_law_1692 hFL hn (by omega) (by omega) (by omega) hc2 hs2 q1 q2 q3 h hR (fun n9 ad9 q9 x9 y9 => hN n9 ad9 q9 (gExt.tr gExt.rf x9) (gad_call y9 gExt.rf (fun _ _ => rfl))))
                                                            · replace h := gif_f c258 h
                                                              refine g_iconst (v := (0 : Int32)) hF rfl dL_law_1690 ?_
                                                              cases h
                                                              exact g_ret_i hF rfl rfl dL_law_1691 (hR _ rfl) (by omega) (by omega)
                                                          · replace h := gif_f c13_27 h
                                                            have w13_0 := gsw_ne c13_0 (z := 0) (by decide)
                                                            have w13_1 := gsw_ne c13_1 (z := 1) (by decide)
                                                            have w13_2 := gsw_ne c13_2 (z := 2) (by decide)
                                                            have w13_3 := gsw_ne c13_3 (z := 3) (by decide)
                                                            have w13_4 := gsw_ne c13_4 (z := 4) (by decide)
                                                            have w13_5 := gsw_ne c13_5 (z := 5) (by decide)
                                                            have w13_6 := gsw_ne c13_6 (z := 6) (by decide)
                                                            have w13_7 := gsw_ne c13_7 (z := 7) (by decide)
                                                            have w13_8 := gsw_ne c13_8 (z := 8) (by decide)
                                                            have w13_9 := gsw_ne c13_9 (z := 9) (by decide)
                                                            have w13_10 := gsw_ne c13_10 (z := 10) (by decide)
                                                            have w13_11 := gsw_ne c13_11 (z := 11) (by decide)
                                                            have w13_12 := gsw_ne c13_12 (z := 12) (by decide)
                                                            have w13_13 := gsw_ne c13_13 (z := 13) (by decide)
                                                            have w13_14 := gsw_ne c13_14 (z := 14) (by decide)
                                                            have w13_15 := gsw_ne c13_15 (z := 15) (by decide)
                                                            have w13_16 := gsw_ne c13_16 (z := 16) (by decide)
                                                            have w13_17 := gsw_ne c13_17 (z := 17) (by decide)
                                                            have w13_18 := gsw_ne c13_18 (z := 18) (by decide)
                                                            have w13_19 := gsw_ne c13_19 (z := 19) (by decide)
                                                            have w13_20 := gsw_ne c13_20 (z := 20) (by decide)
                                                            have w13_21 := gsw_ne c13_21 (z := 21) (by decide)
                                                            have w13_22 := gsw_ne c13_22 (z := 22) (by decide)
                                                            have w13_23 := gsw_ne c13_23 (z := 23) (by decide)
                                                            have w13_24 := gsw_ne c13_24 (z := 24) (by decide)
                                                            have w13_25 := gsw_ne c13_25 (z := 25) (by decide)
                                                            have w13_26 := gsw_ne c13_26 (z := 26) (by decide)
                                                            have w13_27 := gsw_ne c13_27 (z := 27) (by decide)
                                                            refine g_tabOut (tgt := 1692) hF dL_law_40 (by omega) (by decide) ?_
                                                            exact gG_sub [0, 1, 2, 3, 4] rfl (t_L_law_1692 hFL hn (by omega) (by omega) (by omega) hc2 hs2 q1 q2 q3 h hR (fun n9 ad9 q9 x9 y9 => hN n9 ad9 q9 (gExt.tr gExt.rf x9) (gad_call y9 gExt.rf (fun _ _ => rfl))))
theorem t_L_law_L23 {Z : gZ} {nm : String} {d mc ms n : Nat} {f : Nat → Int32} {a1 a2 a3 : Nat} (hFL : gFixL Z cL_law RL nm (some .boolean) d mc ms (fun v _ _ _ => v = some (.int 1)) (fun _ _ _ _ => False) n f) (hn : Z.2.2.2.2.2.1 = 7) (hd : 58 ≤ d) : ∀ (k : Nat) {ad : Nat → Nat} {T : gT} {M : gM} {m1 m2 m3 : Nat} {i4 : Int32} {ce so : Nat}, T[a1]? = some (8, m1) → T[a2]? = some (9, m2) → T[a3]? = some (12, m3) → ce + k * 3 ≤ mc → so + k * 813 ≤ ms → gloop (fun x : Int32 × gT × gM => f_L_law_B23 n f x.2.1 x.2.2 a1 a2 a3 x.1) k (i4, T, M) = some 1 → gG Z ad T M ce so 23 [(0, .ref (gSB + 3000)), (1, .ref a1), (2, .ref a2), (3, .ref a3), (4, .int i4)] []
  | 0, _, _, _, _, _, _, _, _, _, _, _, _, _, _, h => nomatch h
  | k + 1, ad, T, M, m1, m2, m3, i4, ce, so, q1, q2, q3, hc, hs, h => by
    unfold gloop at h
    cases hB : f_L_law_B23 n f T M a1 a2 a3 i4 with
    | none =>
      dsimp only at h
      rw [hB] at h
      cases h
    | some y =>
      dsimp only at h
      rw [hB] at h
      refine t_L_law_B23 (ce2 := ce + 3) (so2 := so + 813) hFL hn hd (by omega) (by omega) (by omega) (by omega) q1 q2 q3 hB (fun r9 q9 => ?_) (fun n9 ad1 q9 x9 y9 => ?_)
      · subst q9
        rw [Option.some.inj h]
      · subst q9
        exact t_L_law_L23 hFL hn hd k (x9 _ _ q1) (x9 _ _ q2) (x9 _ _ q3) (by omega) (by omega) h
theorem t_L_law {Z : gZ} {nm : String} {d mc ms n : Nat} {f : Nat → Int32} {ad : Nat → Nat} {T : gT} {M : gM} (hFL : gFixL Z cL_law RL nm (some .boolean) d mc ms (fun v _ _ _ => v = some (.int 1)) (fun _ _ _ _ => False) n f) (hn : Z.2.2.2.2.2.1 = 7) (hd : 58 ≤ d) (hmc : 1898 ≤ mc) (hms : 439896 ≤ ms) (h : f_L_law n f T M = some 1) : gG Z ad T M 0 0 0 [(0, .ref (gSB + 3000))] [] := by
  have hF := hFL.fix
  unfold f_L_law at h
  obtain ⟨x259, h259, h⟩ := gbnd h
  have g259 : gnew T M (8, 0) = some (x259.1, x259.2.1, x259.2.2) := h259
  refine g_new hF gC_8 gDf_8 kw_128 kw_129 kw_105 g259 (gnew_lt g259) (gFr_r (Nat.ne_of_gt (Nat.lt_of_lt_of_le (gnew_lt g259) (Nat.le_add_right _ _))) gFr_0) gFr_0 (by omega) (by omega) dL_law_0 (fun ad259 z259 => ?_)
  have X259 := gExt.tr gExt.rf (gnew_ext g259)
  have W259 := gad_new g259 z259 gExt.rf (fun _ _ => rfl)
  have q_y259 := gnew_at g259
  refine g_dup hF rfl dL_law_3 ?_
  obtain ⟨x260, h260, h⟩ := gbnd h
  refine g_callI hF my_X8_init kw_130 kw_131 rfl gC_8.1 (by decide) q_y259 (c_X8_init (d := d - 1) (by omega) q_y259 h260) (by omega) (by omega) (by omega) rfl rfl (Nat.le_of_ble_eq_true rfl) dL_law_4 (g_madeN (gOld_s (Nat.le_add_right _ _) gOld_0) (gOld_r (gT_lt q_y259) gOld_0) (fun ad260 e260 y260 => ?_))
  have X260 := gExt.tr X259 e260
  have W260 := gad_call y260 X259 W259
  have q_261 := e260 _ _ q_y259
  refine g_astore_n (ls' := [(1, .ref x259.1), (0, .ref (gSB + 3000))]) hF rfl (by rw [hn]; decide) rfl dL_law_7 ?_
  obtain ⟨x262, h262, h⟩ := gbnd h
  have g262 : gnew x260.1 x260.2 (9, 0) = some (x262.1, x262.2.1, x262.2.2) := h262
  refine g_new hF gC_9 gDf_9 kw_1081 kw_1082 kw_114 g262 (gnew_lt g262) (gFr_r (gT_ne q_261) (gFr_r (Nat.ne_of_gt (Nat.lt_of_lt_of_le (gnew_lt g262) (Nat.le_add_right _ _))) gFr_0)) gFr_0 (by omega) (by omega) dL_law_8 (fun ad262 z262 => ?_)
  have X262 := gExt.tr X260 (gnew_ext g262)
  have W262 := gad_new g262 z262 X260 W260
  have q_263 := gnew_ext g262 _ _ q_261
  have q_y262 := gnew_at g262
  refine g_dup hF rfl dL_law_11 ?_
  obtain ⟨x264, h264, h⟩ := gbnd h
  refine g_callI hF my_X9_init kw_1083 kw_1084 rfl gC_9.1 (by decide) q_y262 (c_X9_init (d := d - 1) (by omega) q_y262 h264) (by omega) (by omega) (by omega) rfl rfl (Nat.le_of_ble_eq_true rfl) dL_law_12 (g_madeN (gOld_r (gT_lt q_263) (gOld_s (Nat.le_add_right _ _) gOld_0)) (gOld_r (gT_lt q_y262) gOld_0) (fun ad264 e264 y264 => ?_))
  have X264 := gExt.tr X262 e264
  have W264 := gad_call y264 X262 W262
  have q_265 := e264 _ _ q_263
  have q_266 := e264 _ _ q_y262
  refine g_astore_n (ls' := [(2, .ref x262.1), (1, .ref x259.1), (0, .ref (gSB + 3000))]) hF rfl (by rw [hn]; decide) rfl dL_law_15 ?_
  refine g_iconst (v := (1 : Int32)) hF rfl dL_law_16 ?_
  obtain ⟨x267, h267, h⟩ := gbnd h
  have g267 : gnew x264.1 x264.2 (12, 1) = some (x267.1, x267.2.1, x267.2.2) := h267
  refine g_newa_long (N := 1) hF (by decide) (by decide) (by decide) kw_305 g267 (gnew_lt g267) (gFr_r (gT_ne q_266) (gFr_r (gT_ne q_265) (gFr_r (Nat.ne_of_gt (Nat.lt_of_lt_of_le (gnew_lt g267) (Nat.le_add_right _ _))) gFr_0))) gFr_0 (by omega) (by omega) dL_law_17 (fun ad267 z267 => ?_)
  have X267 := gExt.tr X264 (gnew_ext g267)
  have W267 := gad_new g267 z267 X264 W264
  have q_268 := gnew_ext g267 _ _ q_266
  have q_269 := gnew_ext g267 _ _ q_265
  have q_y267 := gnew_at g267
  refine g_astore_n (ls' := [(3, .ref x267.1), (2, .ref x262.1), (1, .ref x259.1), (0, .ref (gSB + 3000))]) hF rfl (by rw [hn]; decide) rfl dL_law_19 ?_
  refine g_iconst (v := (0 : Int32)) hF rfl dL_law_20 ?_
  refine g_istore (ls' := [(4, .int (0 : Int32)), (3, .ref x267.1), (2, .ref x262.1), (1, .ref x259.1), (0, .ref (gSB + 3000))]) hF (by rw [hn]; decide) rfl dL_law_21 ?_
  exact gG_sub [4, 3, 2, 1, 0] rfl (t_L_law_L23 hFL hn hd 513 q_269 q_268 q_y267 (by omega) (by omega) h)
