theorem t_L_write_L2 {Z : gZ} {d mc ms : Nat} {Acc : Option Value → (Nat → Nat) → gT → gM → Prop} {AccX : Nat → (Nat → Nat) → gT → gM → Prop} {ad : Nat → Nat} {T : gT} {M : gM} {ce so : Nat} {m_a0 m_a1 : Nat} {a0 : Nat} {a1 : Nat} {s2 : Nat} {i3 : Int32} {o : gM} (hF : gFix Z cL_write RL "write" none d mc ms Acc AccX) (hn : Z.2.2.2.2.2.1 = 4) (hd : 5 ≤ d) (hk1 : ce ≤ mc) (hk2 : so ≤ ms) (q0 : T[a0]? = some (8, m_a0)) (q1 : T[a1]? = some (11, m_a1)) (q2 : gStr T s2) (h : gloop (fun x => f_L_write_B2 T x.2 a0 a1 s2 x.1) gFU (i3, M) = some o) (hE : gG Z ad T o ce so 26 [] []) : gG Z ad T M ce so 2 [(0, .ref a0), (1, .ref a1), (2, .ref s2), (3, .int i3)] [] := by
  refine gloop_ind (P := fun x0 : Int32 × gM => gG Z ad T x0.2 ce so 2 [(0, .ref a0), (1, .ref a1), (2, .ref s2), (3, .int x0.1)] []) (e := o) (fun x0 y hy hl hr => ?_) gFU (i3, M) h
  exact t_L_write_B2 hF hn hd hk1 hk2 q0 q1 q2 hy (fun e9 q9 => by rw [hl _ q9]; exact hE) (fun n9 q9 => hr n9 q9)
theorem t_L_write {Z : gZ} {d mc ms : Nat} {Acc : Option Value → (Nat → Nat) → gT → gM → Prop} {AccX : Nat → (Nat → Nat) → gT → gM → Prop} {ad : Nat → Nat} {T : gT} {M : gM} {ce so : Nat} {m_a0 m_a1 : Nat} {a0 : Nat} {a1 : Nat} {s2 : Nat} {o : gM} (hF : gFix Z cL_write RL "write" none d mc ms Acc AccX) (hn : Z.2.2.2.2.2.1 = 4) (hd : 5 ≤ d) (hk1 : ce ≤ mc) (hk2 : so ≤ ms) (q0 : T[a0]? = some (8, m_a0)) (q1 : T[a1]? = some (11, m_a1)) (q2 : gStr T s2) (h : f_L_write T M a0 a1 s2 = some o) (hR : Acc (none) ad T o) : gG Z ad T M ce so 0 [(0, .ref a0), (1, .ref a1), (2, .ref s2)] [] := by
  unfold f_L_write at h
  refine g_iconst (v := (0 : Int32)) hF rfl dL_write_0 ?_
  refine g_istore_n (ls' := [(3, .int (0 : Int32)), (0, .ref a0), (1, .ref a1), (2, .ref s2)]) hF rfl (by rw [hn]; decide) rfl dL_write_1 ?_
  obtain ⟨x5, h5, h⟩ := gbnd h
  refine gG_sub [1, 2, 3, 0] rfl (t_L_write_L2 hF hn hd (by omega) (by omega) q0 q1 q2 h5 ?_)
  obtain rfl := Option.some.inj h
  exact g_ret_v hF rfl dL_write_26 hR (by omega) (by omega)
theorem c_L_write {d : Nat} {T : gT} {M : gM} {m_a0 m_a1 : Nat} {a0 : Nat} {a1 : Nat} {s2 : Nat} {o : gM} (hd : 5 ≤ d) (q0 : T[a0]? = some (8, m_a0)) (q1 : T[a1]? = some (11, m_a1)) (q2 : gStr T s2) (h : f_L_write T M a0 a1 s2 = some o) : gRet d yL_write cL_write 4 none 0 0 [.ref a0, .ref a1, .ref s2] T M (gSame T (none) o) := by
  refine gRet_of (own := RL) (by decide) rfl (Nat.le_of_ble_eq_true rfl) (fun Z ad0 hn h0 hF => ?_)
  exact t_L_write (ce := 0) (so := 0) hF hn hd (Nat.le_refl _) (Nat.le_refl _) q0 q1 q2 h ⟨rfl, rfl, rfl, rfl⟩
theorem t_L_writeNumber_B18 {Z : gZ} {d mc ms : Nat} {Acc : Option Value → (Nat → Nat) → gT → gM → Prop} {AccX : Nat → (Nat → Nat) → gT → gM → Prop} {ad : Nat → Nat} {T : gT} {M : gM} {ce so : Nat} {m_a0 m_a1 : Nat} {a0 : Nat} {a1 : Nat} {i2 : Int32} {i3 : Int32} {o : (gM) ⊕ (Int32 × gM)} (hF : gFix Z cL_writeNumber RL "writeNumber" none d mc ms Acc AccX) (hn : Z.2.2.2.2.2.1 = 4) (hd : 5 ≤ d) (hk1 : ce ≤ mc) (hk2 : so ≤ ms) (q0 : T[a0]? = some (8, m_a0)) (q1 : T[a1]? = some (11, m_a1)) (h : f_L_writeNumber_B18 T M a0 a1 i2 i3 = some o) (hE : ∀ e9, o = .inl e9 → gG Z ad T e9 ce so 44 [] []) (hN : ∀ n9, o = .inr n9 → gG Z ad T n9.2 ce so 18 [(0, .ref a0), (1, .ref a1), (2, .int i2), (3, .int n9.1)] []) : gG Z ad T M ce so 18 [(0, .ref a0), (1, .ref a1), (2, .int i2), (3, .int i3)] [] := by
  unfold f_L_writeNumber_B18 at h
  refine g_iload_n hF 3 rfl rfl dL_writeNumber_18 ?_
  refine g_if_le (tgt := 44) hF dL_writeNumber_19 (by decide) (fun c1 => ?_) (fun c1 => ?_)
  · replace h := gif_t c1 h
    exact gG_sub [] rfl (hE _ (Option.some.inj h).symm)
  · replace h := gif_f c1 h
    refine g_aload_n hF 0 rfl rfl dL_writeNumber_22 ?_
    refine g_aload_n hF 1 rfl rfl dL_writeNumber_23 ?_
    refine g_bipush (v := (48 : Int32)) hF rfl dL_writeNumber_24 ?_
    refine g_iload_n hF 2 rfl rfl dL_writeNumber_26 ?_
    refine g_iload_n hF 3 rfl rfl dL_writeNumber_27 ?_
    obtain ⟨_, h2, h⟩ := gbnd h
    refine g_idiv hF (chk_sp h2) dL_writeNumber_28 ?_
    refine g_bipush (v := (10 : Int32)) hF rfl dL_writeNumber_29 ?_
    refine g_irem hF (by decide) dL_writeNumber_31 ?_
    refine g_iadd hF dL_writeNumber_32 ?_
    obtain ⟨x3, h3, h⟩ := gbnd h
    refine g_callS hF my_L_put kw_1111 kw_1112 (c_L_put (d := d - 1) (by omega) q0 q1 h3) (by omega) (by omega) (by omega) rfl rfl (Nat.le_of_ble_eq_true rfl) dL_writeNumber_33 (g_sameN ?_)
    refine g_iload_n hF 3 rfl rfl dL_writeNumber_36 ?_
    refine g_bipush (v := (10 : Int32)) hF rfl dL_writeNumber_37 ?_
    refine g_idiv hF (by decide) dL_writeNumber_39 ?_
    refine g_istore_n (ls' := [(3, .int (i3 / (10 : Int32))), (0, .ref a0), (1, .ref a1), (2, .int i2)]) hF rfl (by rw [hn]; decide) rfl dL_writeNumber_40 ?_
    refine g_goto (tgt := 18) hF dL_writeNumber_41 (by decide) ?_
    exact gG_sub [1, 2, 3, 0] rfl (hN _ (Option.some.inj h).symm)
theorem t_L_writeNumber_L18 {Z : gZ} {d mc ms : Nat} {Acc : Option Value → (Nat → Nat) → gT → gM → Prop} {AccX : Nat → (Nat → Nat) → gT → gM → Prop} {ad : Nat → Nat} {T : gT} {M : gM} {ce so : Nat} {m_a0 m_a1 : Nat} {a0 : Nat} {a1 : Nat} {i2 : Int32} {i3 : Int32} {o : gM} (hF : gFix Z cL_writeNumber RL "writeNumber" none d mc ms Acc AccX) (hn : Z.2.2.2.2.2.1 = 4) (hd : 5 ≤ d) (hk1 : ce ≤ mc) (hk2 : so ≤ ms) (q0 : T[a0]? = some (8, m_a0)) (q1 : T[a1]? = some (11, m_a1)) (h : gloop (fun x => f_L_writeNumber_B18 T x.2 a0 a1 i2 x.1) gFU (i3, M) = some o) (hE : gG Z ad T o ce so 44 [] []) : gG Z ad T M ce so 18 [(0, .ref a0), (1, .ref a1), (2, .int i2), (3, .int i3)] [] := by
  refine gloop_ind (P := fun x0 : Int32 × gM => gG Z ad T x0.2 ce so 18 [(0, .ref a0), (1, .ref a1), (2, .int i2), (3, .int x0.1)] []) (e := o) (fun x0 y hy hl hr => ?_) gFU (i3, M) h
  exact t_L_writeNumber_B18 hF hn hd hk1 hk2 q0 q1 hy (fun e9 q9 => by rw [hl _ q9]; exact hE) (fun n9 q9 => hr n9 q9)
theorem t_L_writeNumber_B2 {Z : gZ} {d mc ms : Nat} {Acc : Option Value → (Nat → Nat) → gT → gM → Prop} {AccX : Nat → (Nat → Nat) → gT → gM → Prop} {ad : Nat → Nat} {T : gT} {M : gM} {ce so : Nat} {m_a0 m_a1 : Nat} {a0 : Nat} {a1 : Nat} {i2 : Int32} {i3 : Int32} {o : (Int32) ⊕ (Int32)} (hF : gFix Z cL_writeNumber RL "writeNumber" none d mc ms Acc AccX) (hn : Z.2.2.2.2.2.1 = 4) (hd : 5 ≤ d) (hk1 : ce ≤ mc) (hk2 : so ≤ ms) (q0 : T[a0]? = some (8, m_a0)) (q1 : T[a1]? = some (11, m_a1)) (h : f_L_writeNumber_B2 T M a0 a1 i2 i3 = some o) (hE : ∀ e9, o = .inl e9 → gG Z ad T M ce so 18 [(0, .ref a0), (1, .ref a1), (2, .int i2), (3, .int e9)] []) (hN : ∀ n9, o = .inr n9 → gG Z ad T M ce so 2 [(0, .ref a0), (1, .ref a1), (2, .int i2), (3, .int n9)] []) : gG Z ad T M ce so 2 [(0, .ref a0), (1, .ref a1), (2, .int i2), (3, .int i3)] [] := by
  unfold f_L_writeNumber_B2 at h
  refine g_iload_n hF 3 rfl rfl dL_writeNumber_2 ?_
  refine g_iload_n hF 2 rfl rfl dL_writeNumber_3 ?_
  refine g_bipush (v := (10 : Int32)) hF rfl dL_writeNumber_4 ?_
  refine g_idiv hF (by decide) dL_writeNumber_6 ?_
  refine g_icmp_gt (tgt := 18) hF dL_writeNumber_7 (by decide) (fun c4 => ?_) (fun c4 => ?_)
  · replace h := gif_t c4 h
    exact gG_sub [0, 1, 2, 3] rfl (hE _ (Option.some.inj h).symm)
  · replace h := gif_f c4 h
    refine g_iload_n hF 3 rfl rfl dL_writeNumber_10 ?_
    refine g_bipush (v := (10 : Int32)) hF rfl dL_writeNumber_11 ?_
    refine g_imul hF dL_writeNumber_13 ?_
    refine g_istore_n (ls' := [(3, .int (i3 * (10 : Int32))), (0, .ref a0), (1, .ref a1), (2, .int i2)]) hF rfl (by rw [hn]; decide) rfl dL_writeNumber_14 ?_
    refine g_goto (tgt := 2) hF dL_writeNumber_15 (by decide) ?_
    exact gG_sub [1, 2, 3, 0] rfl (hN _ (Option.some.inj h).symm)
theorem t_L_writeNumber_L2 {Z : gZ} {d mc ms : Nat} {Acc : Option Value → (Nat → Nat) → gT → gM → Prop} {AccX : Nat → (Nat → Nat) → gT → gM → Prop} {ad : Nat → Nat} {T : gT} {M : gM} {ce so : Nat} {m_a0 m_a1 : Nat} {a0 : Nat} {a1 : Nat} {i2 : Int32} {i3 : Int32} {o : Int32} (hF : gFix Z cL_writeNumber RL "writeNumber" none d mc ms Acc AccX) (hn : Z.2.2.2.2.2.1 = 4) (hd : 5 ≤ d) (hk1 : ce ≤ mc) (hk2 : so ≤ ms) (q0 : T[a0]? = some (8, m_a0)) (q1 : T[a1]? = some (11, m_a1)) (h : gloop (fun x => f_L_writeNumber_B2 T M a0 a1 i2 x) gFU i3 = some o) (hE : gG Z ad T M ce so 18 [(0, .ref a0), (1, .ref a1), (2, .int i2), (3, .int o)] []) : gG Z ad T M ce so 2 [(0, .ref a0), (1, .ref a1), (2, .int i2), (3, .int i3)] [] := by
  refine gloop_ind (P := fun x0 : Int32 => gG Z ad T M ce so 2 [(0, .ref a0), (1, .ref a1), (2, .int i2), (3, .int x0)] []) (e := o) (fun x0 y hy hl hr => ?_) gFU i3 h
  exact t_L_writeNumber_B2 hF hn hd hk1 hk2 q0 q1 hy (fun e9 q9 => by rw [hl _ q9]; exact hE) (fun n9 q9 => hr n9 q9)
theorem t_L_writeNumber {Z : gZ} {d mc ms : Nat} {Acc : Option Value → (Nat → Nat) → gT → gM → Prop} {AccX : Nat → (Nat → Nat) → gT → gM → Prop} {ad : Nat → Nat} {T : gT} {M : gM} {ce so : Nat} {m_a0 m_a1 : Nat} {a0 : Nat} {a1 : Nat} {i2 : Int32} {o : gM} (hF : gFix Z cL_writeNumber RL "writeNumber" none d mc ms Acc AccX) (hn : Z.2.2.2.2.2.1 = 4) (hd : 5 ≤ d) (hk1 : ce ≤ mc) (hk2 : so ≤ ms) (q0 : T[a0]? = some (8, m_a0)) (q1 : T[a1]? = some (11, m_a1)) (h : f_L_writeNumber T M a0 a1 i2 = some o) (hR : Acc (none) ad T o) : gG Z ad T M ce so 0 [(0, .ref a0), (1, .ref a1), (2, .int i2)] [] := by
  unfold f_L_writeNumber at h
  refine g_iconst (v := (1 : Int32)) hF rfl dL_writeNumber_0 ?_
  refine g_istore_n (ls' := [(3, .int (1 : Int32)), (0, .ref a0), (1, .ref a1), (2, .int i2)]) hF rfl (by rw [hn]; decide) rfl dL_writeNumber_1 ?_
  obtain ⟨x5, h5, h⟩ := gbnd h
  refine gG_sub [1, 2, 3, 0] rfl (t_L_writeNumber_L2 hF hn hd (by omega) (by omega) q0 q1 h5 ?_)
  obtain ⟨x6, h6, h⟩ := gbnd h
  refine gG_sub [0, 1, 2, 3] rfl (t_L_writeNumber_L18 hF hn hd (by omega) (by omega) q0 q1 h6 ?_)
  obtain rfl := Option.some.inj h
  exact g_ret_v hF rfl dL_writeNumber_44 hR (by omega) (by omega)
theorem c_L_writeNumber {d : Nat} {T : gT} {M : gM} {m_a0 m_a1 : Nat} {a0 : Nat} {a1 : Nat} {i2 : Int32} {o : gM} (hd : 5 ≤ d) (q0 : T[a0]? = some (8, m_a0)) (q1 : T[a1]? = some (11, m_a1)) (h : f_L_writeNumber T M a0 a1 i2 = some o) : gRet d yL_writeNumber cL_writeNumber 4 none 0 0 [.ref a0, .ref a1, .int i2] T M (gSame T (none) o) := by
  refine gRet_of (own := RL) (by decide) rfl (Nat.le_of_ble_eq_true rfl) (fun Z ad0 hn h0 hF => ?_)
  exact t_L_writeNumber (ce := 0) (so := 0) hF hn hd (Nat.le_refl _) (Nat.le_refl _) q0 q1 h ⟨rfl, rfl, rfl, rfl⟩
theorem t_L_wordOf_72 {Z : gZ} {d mc ms : Nat} {Acc : Option Value → (Nat → Nat) → gT → gM → Prop} {AccX : Nat → (Nat → Nat) → gT → gM → Prop} {ad : Nat → Nat} {T : gT} {M : gM} {ce so c9 s9 : Nat}  {z0 : Nat} {o : Nat × gT × gM} (hF : gFix Z cL_wordOf RL "wordOf" (some (.object RJ0)) d mc ms Acc AccX) (hn : Z.2.2.2.2.2.1 = 2) (hd : 7 ≤ d) (hk1 : ce + c9 ≤ mc) (hk2 : so + s9 ≤ ms) (p0 : gStr T z0) (h : f_L_wordOf_72 T M z0 = some (o, c9, s9)) (hR : ∀ ad1 : Nat → Nat, gExt T o.2.1 → (∀ a : Nat, a < T.length → ad1 a = ad a) → Acc (some (.ref o.1)) ad1 o.2.1 o.2.2) : gG Z ad T M ce so 72 [] [.ref z0] := by
  unfold f_L_wordOf_72 at h
  cases h
  exact g_ret_a hF rfl (Or.inl ⟨_, rfl⟩) dL_wordOf_72 (hR _ gExt.rf (fun _ _ => rfl)) (by omega) (by omega)
theorem t_L_wordOf {Z : gZ} {d mc ms : Nat} {Acc : Option Value → (Nat → Nat) → gT → gM → Prop} {AccX : Nat → (Nat → Nat) → gT → gM → Prop} {ad : Nat → Nat} {T : gT} {M : gM} {ce so c9 s9 : Nat}  {i0 : Int32} {i1 : Int32} {o : Nat × gT × gM} (hF : gFix Z cL_wordOf RL "wordOf" (some (.object RJ0)) d mc ms Acc AccX) (hn : Z.2.2.2.2.2.1 = 2) (hd : 7 ≤ d) (hk1 : ce + c9 ≤ mc) (hk2 : so + s9 ≤ ms)  (h : f_L_wordOf T M i0 i1 = some (o, c9, s9)) (hR : ∀ ad1 : Nat → Nat, gExt T o.2.1 → (∀ a : Nat, a < T.length → ad1 a = ad a) → Acc (some (.ref o.1)) ad1 o.2.1 o.2.2) : gG Z ad T M ce so 0 [(0, .int i0), (1, .int i1)] [] := by
  unfold f_L_wordOf at h
  refine g_iload_n hF 1 rfl rfl dL_wordOf_0 ?_
  refine g_if_eq (tgt := 39) hF dL_wordOf_1 (by decide) (fun c1 => ?_) (fun c1 => ?_)
  · replace h := gif_t c1 h
    refine g_iload_n hF 0 rfl rfl dL_wordOf_39 ?_
    refine g_iconst (v := (1 : Int32)) hF rfl dL_wordOf_40 ?_
    refine g_icmp_ne (tgt := 49) hF dL_wordOf_41 (by decide) (fun c2 => ?_) (fun c2 => ?_)
    · replace h := gif_t c2 h
      obtain ⟨x3, h3, h⟩ := gbnd h
      obtain ⟨c3, s3, h, ec3, es3⟩ := cadd_sp h
      have g3 : gnew T M (20, 0) = some (x3.1, x3.2.1, x3.2.2) := h3
      refine g_new hF gC_20 gDf_20 kw_1130 kw_1131 kw_90 g3 (gnew_lt g3) (gFr_i (gFr_i gFr_0)) gFr_0 (by omega) (by omega) dL_wordOf_49 (fun ad3 z3 => ?_)
      have y3 : ∀ b : Nat, b < T.length → ad3 b = ad b := fun b hb => z3 b (by rw [(gnew_sp g3).1]; omega)
      have X3 := gExt.tr gExt.rf (gnew_ext g3)
      have W3 := gad_call y3 gExt.rf (fun _ _ => rfl)
      have q_y3 := gnew_at g3
      refine g_dup hF rfl dL_wordOf_52 ?_
      obtain ⟨x4, h4, h⟩ := gbnd h
      obtain ⟨c4, s4, h, ec4, es4⟩ := cadd_sp h
      refine g_callI hF my_J4_init_da8c8 kw_1132 kw_1133 rfl gC_20.1 (by decide) q_y3 (c_J4_init_da8c8 (d := d - 1) (by omega) q_y3 (trip h4)) (by omega) (by omega) (by omega) rfl rfl (Nat.le_of_ble_eq_true rfl) dL_wordOf_53 (g_madeN (gOld_i (gOld_i gOld_0)) (gOld_r (gT_lt q_y3) gOld_0) (fun ad4 e4 y4 => ?_))
      have X4 := gExt.tr X3 e4
      have W4 := gad_call y4 X3 W3
      have q_5 := e4 _ _ q_y3
      refine g_ldcS (tx := "lib") (a := gSB + 16) hF (by decide +kernel) (Nat.le_add_right _ _) dL_wordOf_56 ?_
      obtain ⟨x6, h6, h⟩ := gbnd h
      obtain ⟨c6, s6, h, ec6, es6⟩ := cadd_sp h
      refine g_callV hF my_J4_append_15ec4 kw_1161 kw_1162 kw_1163 gC_20.1 (by decide) q_5 (c_J4_append_15ec4 (d := d - 1) (by omega) q_5 (gStr_c (i := 16) (by decide)) (trip h6)) (by omega) (by omega) (by omega) rfl rfl (Nat.le_of_ble_eq_true rfl) dL_wordOf_58 (g_madeS (gOld_i (gOld_i gOld_0)) gOld_0 (fun ad6 e6 y6 => ?_))
      have X6 := gExt.tr X4 e6
      have W6 := gad_call y6 X4 W4
      obtain ⟨_, h7, h⟩ := gbnd h
      obtain ⟨l7, q_7⟩ := gkd_sp h7
      refine g_bipush (v := (97 : Int32)) hF rfl dL_wordOf_61 ?_
      refine g_iload_n hF 0 rfl rfl dL_wordOf_63 ?_
      refine g_iadd hF dL_wordOf_64 ?_
      refine g_i2c (v := ((((97 : Int32) + i0)).toUInt32 % 65536).toInt32) hF rfl dL_wordOf_65 ?_
      obtain ⟨x8, h8, h⟩ := gbnd h
      obtain ⟨c8, s8, h, ec8, es8⟩ := cadd_sp h
      refine g_callV hF my_J4_append_cf468 kw_1252 kw_1253 kw_1254 gC_20.1 (by decide) q_7 (c_J4_append_cf468 (d := d - 1) (by omega) q_7 (trip h8)) (by omega) (by omega) (by omega) rfl rfl (Nat.le_of_ble_eq_true rfl) dL_wordOf_66 (g_madeS (gOld_i (gOld_i gOld_0)) gOld_0 (fun ad8 e8 y8 => ?_))
      have X8 := gExt.tr X6 e8
      have W8 := gad_call y8 X6 W6
      obtain ⟨_, h9, h⟩ := gbnd h
      obtain ⟨l9, q_9⟩ := gkd_sp h9
      obtain ⟨x10, h10, h⟩ := gbnd h
      obtain ⟨c10, s10, h, ec10, es10⟩ := cadd_sp h
      refine g_callV hF my_J4_toString_0e30d kw_1265 kw_1266 kw_1267 gC_20.1 (by decide) q_9 (c_J4_toString_0e30d (d := d - 1) (by omega) q_9 (trip h10)) (by omega) (by omega) (by omega) rfl rfl (Nat.le_of_ble_eq_true rfl) dL_wordOf_69 (g_madeS (gOld_i (gOld_i gOld_0)) gOld_0 (fun ad10 e10 y10 => ?_))
      have X10 := gExt.tr X8 e10
      have W10 := gad_call y10 X8 W8
      obtain ⟨_, h11, h⟩ := gbnd h
      have q_11 := gks_sp h11
      exact gG_sub [] rfl (t_L_wordOf_72 hF hn hd (by omega) (by omega) q_11 h (fun ad1 x1 y1 => hR ad1 (gExt.tr X10 x1) (gad_call y1 X10 W10)))
    · replace h := gif_n c2 h
      refine g_ldcS (tx := "keeps") (a := gSB + 7) hF (by decide +kernel) (Nat.le_add_right _ _) dL_wordOf_44 ?_
      refine g_goto (tgt := 72) hF dL_wordOf_46 (by decide) ?_
      exact gG_sub [] rfl (t_L_wordOf_72 hF hn hd (by omega) (by omega) (gStr_c (i := 7) (by decide)) h (fun ad1 x1 y1 => hR ad1 (gExt.tr gExt.rf x1) (gad_call y1 gExt.rf (fun _ _ => rfl))))
  · replace h := gif_f c1 h
    refine g_iload_n hF 0 rfl rfl dL_wordOf_4 ?_
    refine g_if_ne (tgt := 13) hF dL_wordOf_5 (by decide) (fun c12 => ?_) (fun c12 => ?_)
    · replace h := gif_t c12 h
      obtain ⟨x13, h13, h⟩ := gbnd h
      obtain ⟨c13, s13, h, ec13, es13⟩ := cadd_sp h
      have g13 : gnew T M (20, 0) = some (x13.1, x13.2.1, x13.2.2) := h13
      refine g_new hF gC_20 gDf_20 kw_1130 kw_1131 kw_90 g13 (gnew_lt g13) (gFr_i (gFr_i gFr_0)) gFr_0 (by omega) (by omega) dL_wordOf_13 (fun ad13 z13 => ?_)
      have y13 : ∀ b : Nat, b < T.length → ad13 b = ad b := fun b hb => z13 b (by rw [(gnew_sp g13).1]; omega)
      have X13 := gExt.tr gExt.rf (gnew_ext g13)
      have W13 := gad_call y13 gExt.rf (fun _ _ => rfl)
      have q_y13 := gnew_at g13
      refine g_dup hF rfl dL_wordOf_16 ?_
      obtain ⟨x14, h14, h⟩ := gbnd h
      obtain ⟨c14, s14, h, ec14, es14⟩ := cadd_sp h
      refine g_callI hF my_J4_init_da8c8 kw_1132 kw_1133 rfl gC_20.1 (by decide) q_y13 (c_J4_init_da8c8 (d := d - 1) (by omega) q_y13 (trip h14)) (by omega) (by omega) (by omega) rfl rfl (Nat.le_of_ble_eq_true rfl) dL_wordOf_17 (g_madeN (gOld_i (gOld_i gOld_0)) (gOld_r (gT_lt q_y13) gOld_0) (fun ad14 e14 y14 => ?_))
      have X14 := gExt.tr X13 e14
      have W14 := gad_call y14 X13 W13
      have q_15 := e14 _ _ q_y13
      refine g_ldcS (tx := "n") (a := gSB + 15) hF (by decide +kernel) (Nat.le_add_right _ _) dL_wordOf_20 ?_
      obtain ⟨x16, h16, h⟩ := gbnd h
      obtain ⟨c16, s16, h, ec16, es16⟩ := cadd_sp h
      refine g_callV hF my_J4_append_15ec4 kw_1161 kw_1162 kw_1163 gC_20.1 (by decide) q_15 (c_J4_append_15ec4 (d := d - 1) (by omega) q_15 (gStr_c (i := 15) (by decide)) (trip h16)) (by omega) (by omega) (by omega) rfl rfl (Nat.le_of_ble_eq_true rfl) dL_wordOf_22 (g_madeS (gOld_i (gOld_i gOld_0)) gOld_0 (fun ad16 e16 y16 => ?_))
      have X16 := gExt.tr X14 e16
      have W16 := gad_call y16 X14 W14
      obtain ⟨_, h17, h⟩ := gbnd h
      obtain ⟨l17, q_17⟩ := gkd_sp h17
      refine g_bipush (v := (97 : Int32)) hF rfl dL_wordOf_25 ?_
      refine g_iload_n hF 0 rfl rfl dL_wordOf_27 ?_
      refine g_iadd hF dL_wordOf_28 ?_
      refine g_i2c (v := ((((97 : Int32) + i0)).toUInt32 % 65536).toInt32) hF rfl dL_wordOf_29 ?_
      obtain ⟨x18, h18, h⟩ := gbnd h
      obtain ⟨c18, s18, h, ec18, es18⟩ := cadd_sp h
      refine g_callV hF my_J4_append_cf468 kw_1252 kw_1253 kw_1254 gC_20.1 (by decide) q_17 (c_J4_append_cf468 (d := d - 1) (by omega) q_17 (trip h18)) (by omega) (by omega) (by omega) rfl rfl (Nat.le_of_ble_eq_true rfl) dL_wordOf_30 (g_madeS (gOld_i (gOld_i gOld_0)) gOld_0 (fun ad18 e18 y18 => ?_))
      have X18 := gExt.tr X16 e18
      have W18 := gad_call y18 X16 W16
      obtain ⟨_, h19, h⟩ := gbnd h
      obtain ⟨l19, q_19⟩ := gkd_sp h19
      obtain ⟨x20, h20, h⟩ := gbnd h
      obtain ⟨c20, s20, h, ec20, es20⟩ := cadd_sp h
      refine g_callV hF my_J4_toString_0e30d kw_1265 kw_1266 kw_1267 gC_20.1 (by decide) q_19 (c_J4_toString_0e30d (d := d - 1) (by omega) q_19 (trip h20)) (by omega) (by omega) (by omega) rfl rfl (Nat.le_of_ble_eq_true rfl) dL_wordOf_33 (g_madeS (gOld_i (gOld_i gOld_0)) gOld_0 (fun ad20 e20 y20 => ?_))
      have X20 := gExt.tr X18 e20
      have W20 := gad_call y20 X18 W18
      obtain ⟨_, h21, h⟩ := gbnd h
      have q_21 := gks_sp h21
      refine g_goto (tgt := 72) hF dL_wordOf_36 (by decide) ?_
      exact gG_sub [] rfl (t_L_wordOf_72 hF hn hd (by omega) (by omega) q_21 h (fun ad1 x1 y1 => hR ad1 (gExt.tr X20 x1) (gad_call y1 X20 W20)))
    · replace h := gif_n c12 h
      refine g_ldcS (tx := "to") (a := gSB + 8) hF (by decide +kernel) (Nat.le_add_right _ _) dL_wordOf_8 ?_
      refine g_goto (tgt := 72) hF dL_wordOf_10 (by decide) ?_
      exact gG_sub [] rfl (t_L_wordOf_72 hF hn hd (by omega) (by omega) (gStr_c (i := 8) (by decide)) h (fun ad1 x1 y1 => hR ad1 (gExt.tr gExt.rf x1) (gad_call y1 gExt.rf (fun _ _ => rfl))))
theorem c_L_wordOf {d : Nat} {T : gT} {M : gM} {c9 s9 : Nat}  {i0 : Int32} {i1 : Int32} {o : Nat × gT × gM} (hd : 7 ≤ d)  (h : f_L_wordOf T M i0 i1 = some (o, c9, s9)) : gRet d yL_wordOf cL_wordOf 2 (some (.object RJ0)) c9 s9 [.int i0, .int i1] T M (gMade T (some (.ref o.1)) o.2.1 o.2.2) := by
  refine gRet_of (own := RL) (by decide) rfl (Nat.le_of_ble_eq_true rfl) (fun Z ad0 hn h0 hF => ?_)
  exact t_L_wordOf (ce := 0) (so := 0) hF hn hd (by omega) (by omega)  h (fun ad1 x1 y1 => ⟨rfl, rfl, rfl, x1, y1⟩)
theorem t_L_randomLinker_B169 {Z : gZ} {d mc ms : Nat} {Acc : Option Value → (Nat → Nat) → gT → gM → Prop} {AccX : Nat → (Nat → Nat) → gT → gM → Prop} {ad : Nat → Nat} {T : gT} {M : gM} {ce so : Nat} {m_a0 m_a1 m_a2 m_a5 m_a8 : Nat} {a0 : Nat} {a1 : Nat} {a2 : Nat} {a5 : Nat} {i6 : Int32} {i7 : Int32} {a8 : Nat} {i9 : Int32} {o : (gM) ⊕ (Int32 × gM)} (hF : gFix Z cL_randomLinker RL "randomLinker" (some (.object RX10)) d mc ms Acc AccX) (hn : Z.2.2.2.2.2.1 = 11) (hd : 59 ≤ d) (hk1 : ce ≤ mc) (hk2 : so ≤ ms) (q0 : T[a0]? = some (8, m_a0)) (q1 : T[a1]? = some (11, m_a1)) (q2 : T[a2]? = some (18, m_a2)) (q5 : T[a5]? = some (16, m_a5)) (q8 : T[a8]? = some (9, m_a8)) (h : f_L_randomLinker_B169 T M a0 a1 a2 a5 i6 i7 a8 i9 = some o) (hE : ∀ e9, o = .inl e9 → gG Z ad T e9 ce so 194 [(0, .ref a0), (1, .ref a1), (2, .ref a2), (5, .ref a5), (6, .int i6), (7, .int i7), (8, .ref a8)] []) (hN : ∀ n9, o = .inr n9 → gG Z ad T n9.2 ce so 169 [(0, .ref a0), (1, .ref a1), (2, .ref a2), (5, .ref a5), (6, .int i6), (7, .int i7), (8, .ref a8), (9, .int n9.1)] []) : gG Z ad T M ce so 169 [(0, .ref a0), (1, .ref a1), (2, .ref a2), (5, .ref a5), (6, .int i6), (7, .int i7), (8, .ref a8), (9, .int i9)] [] := by
  unfold f_L_randomLinker_B169 at h
  refine g_iload hF 7 rfl dL_randomLinker_169 ?_
  refine g_aload hF 3 rfl dL_randomLinker_171 ?_
  refine g_get_i hF fl_RL_141 q5 dL_randomLinker_173 ?_
  refine g_icmp_ge (tgt := 194) hF dL_randomLinker_176 (by decide) (fun c1 => ?_) (fun c1 => ?_)
  · replace h := gif_t c1 h
    exact gG_sub [0, 1, 2, 3, 4, 5, 6] rfl (hE _ (Option.some.inj h).symm)
  · replace h := gif_f c1 h
    refine g_aload hF 6 rfl dL_randomLinker_179 ?_
    obtain ⟨b2, h2, h⟩ := gbnd h
    obtain ⟨g2, l2, q_b2⟩ := ldr_sp h2
    refine g_get_r hF g2 fl_RL_172 q8 dL_randomLinker_181 ?_
    refine g_iload hF 7 rfl dL_randomLinker_184 ?_
    refine g_iconst (v := (-1 : Int32)) hF rfl dL_randomLinker_186 ?_
    obtain ⟨M3, h3, h⟩ := gbnd h
    obtain ⟨i3h, e3v⟩ := ast_sp q_b2 h3
    refine g_iast hF q_b2 i3h dL_randomLinker_187 ?_
    rw [← e3v]
    refine g_iinc (n := 1) (v := (i9 + (1 : Int32))) (ls' := [(9, .int (i9 + (1 : Int32))), (0, .ref a0), (1, .ref a1), (2, .ref a2), (5, .ref a5), (6, .int i6), (7, .int i7), (8, .ref a8)]) hF 7 rfl rfl (by rw [hn]; decide) rfl dL_randomLinker_188 ?_
    refine g_goto (tgt := 169) hF dL_randomLinker_191 (by decide) ?_
    exact gG_sub [1, 2, 3, 4, 5, 6, 7, 0] rfl (hN _ (Option.some.inj h).symm)
theorem t_L_randomLinker_L169 {Z : gZ} {d mc ms : Nat} {Acc : Option Value → (Nat → Nat) → gT → gM → Prop} {AccX : Nat → (Nat → Nat) → gT → gM → Prop} {ad : Nat → Nat} {T : gT} {M : gM} {ce so : Nat} {m_a0 m_a1 m_a2 m_a5 m_a8 : Nat} {a0 : Nat} {a1 : Nat} {a2 : Nat} {a5 : Nat} {i6 : Int32} {i7 : Int32} {a8 : Nat} {i9 : Int32} {o : gM} (hF : gFix Z cL_randomLinker RL "randomLinker" (some (.object RX10)) d mc ms Acc AccX) (hn : Z.2.2.2.2.2.1 = 11) (hd : 59 ≤ d) (hk1 : ce ≤ mc) (hk2 : so ≤ ms) (q0 : T[a0]? = some (8, m_a0)) (q1 : T[a1]? = some (11, m_a1)) (q2 : T[a2]? = some (18, m_a2)) (q5 : T[a5]? = some (16, m_a5)) (q8 : T[a8]? = some (9, m_a8)) (h : gloop (fun x => f_L_randomLinker_B169 T x.2 a0 a1 a2 a5 i6 i7 a8 x.1) gFU (i9, M) = some o) (hE : gG Z ad T o ce so 194 [(0, .ref a0), (1, .ref a1), (2, .ref a2), (5, .ref a5), (6, .int i6), (7, .int i7), (8, .ref a8)] []) : gG Z ad T M ce so 169 [(0, .ref a0), (1, .ref a1), (2, .ref a2), (5, .ref a5), (6, .int i6), (7, .int i7), (8, .ref a8), (9, .int i9)] [] := by
  refine gloop_ind (P := fun x0 : Int32 × gM => gG Z ad T x0.2 ce so 169 [(0, .ref a0), (1, .ref a1), (2, .ref a2), (5, .ref a5), (6, .int i6), (7, .int i7), (8, .ref a8), (9, .int x0.1)] []) (e := o) (fun x0 y hy hl hr => ?_) gFU (i9, M) h
  exact t_L_randomLinker_B169 hF hn hd hk1 hk2 q0 q1 q2 q5 q8 hy (fun e9 q9 => by rw [hl _ q9]; exact hE) (fun n9 q9 => hr n9 q9)
theorem t_L_randomLinker_633 {Z : gZ} {d mc ms : Nat} {Acc : Option Value → (Nat → Nat) → gT → gM → Prop} {AccX : Nat → (Nat → Nat) → gT → gM → Prop} {ad : Nat → Nat} {T : gT} {M : gM} {ce so c9 s9 K KS : Nat} {m_a0 m_a1 m_a2 m_a5 : Nat} {a0 : Nat} {a1 : Nat} {a2 : Nat} {a5 : Nat} {i6 : Int32} {i7 : Int32} {o : (gT × gM) ⊕ (Int32 × gT × gM)} (hF : gFix Z cL_randomLinker RL "randomLinker" (some (.object RX10)) d mc ms Acc AccX) (hn : Z.2.2.2.2.2.1 = 11) (hd : 59 ≤ d) (hk1 : ce + c9 + K ≤ mc) (hk2 : so + s9 + KS ≤ ms) (q0 : T[a0]? = some (8, m_a0)) (q1 : T[a1]? = some (11, m_a1)) (q2 : T[a2]? = some (18, m_a2)) (q5 : T[a5]? = some (16, m_a5)) (h : f_L_randomLinker_633 T M a0 a1 a2 a5 i6 i7 = some (o, c9, s9)) (hE : ∀ (e9 : gT × gM) (ad1 : Nat → Nat) (ce1 so1 : Nat), o = .inl e9 → gExt T e9.1 → (∀ a : Nat, a < T.length → ad1 a = ad a) → ce1 + K ≤ mc → so1 + KS ≤ ms → gG Z ad1 e9.1 e9.2 ce1 so1 639 [(0, .ref a0), (1, .ref a1), (2, .ref a2), (5, .ref a5), (6, .int i6)] []) (hN : ∀ (n9 : Int32 × gT × gM) (ad1 : Nat → Nat) (ce1 so1 : Nat), o = .inr n9 → gExt T n9.2.1 → (∀ a : Nat, a < T.length → ad1 a = ad a) → ce1 + K ≤ mc → so1 + KS ≤ ms → gG Z ad1 n9.2.1 n9.2.2 ce1 so1 507 [(0, .ref a0), (1, .ref a1), (2, .ref a2), (5, .ref a5), (6, .int i6), (7, .int n9.1)] []) : gG Z ad T M ce so 633 [(0, .ref a0), (1, .ref a1), (2, .ref a2), (5, .ref a5), (6, .int i6), (7, .int i7)] [] := by
  unfold f_L_randomLinker_633 at h
  refine g_iinc (n := -1) (v := (i7 + (-1 : Int32))) (ls' := [(7, .int (i7 + (-1 : Int32))), (0, .ref a0), (1, .ref a1), (2, .ref a2), (5, .ref a5), (6, .int i6)]) hF 5 rfl (congrArg (HAdd.hAdd i7) (by decide)) (by rw [hn]; decide) rfl dL_randomLinker_633 ?_
  refine g_goto (tgt := 507) hF dL_randomLinker_636 (by decide) ?_
  cases h
  exact gG_sub [1, 2, 3, 4, 5, 0] rfl (hN _ _ _ _ rfl gExt.rf (fun _ _ => rfl) (by omega) (by omega))
theorem t_L_randomLinker_493 {Z : gZ} {d mc ms : Nat} {Acc : Option Value → (Nat → Nat) → gT → gM → Prop} {AccX : Nat → (Nat → Nat) → gT → gM → Prop} {ad : Nat → Nat} {T : gT} {M : gM} {ce so c9 s9 K KS : Nat} {m_a0 m_a1 m_a2 m_a5 : Nat} {a0 : Nat} {a1 : Nat} {a2 : Nat} {a5 : Nat} {i6 : Int32} {i7 : Int32} {o : (gT × gM) ⊕ (Int32 × gT × gM)} (hF : gFix Z cL_randomLinker RL "randomLinker" (some (.object RX10)) d mc ms Acc AccX) (hn : Z.2.2.2.2.2.1 = 11) (hd : 59 ≤ d) (hk1 : ce + c9 + K ≤ mc) (hk2 : so + s9 + KS ≤ ms) (q0 : T[a0]? = some (8, m_a0)) (q1 : T[a1]? = some (11, m_a1)) (q2 : T[a2]? = some (18, m_a2)) (q5 : T[a5]? = some (16, m_a5)) (h : f_L_randomLinker_493 T M a0 a1 a2 a5 i6 i7 = some (o, c9, s9)) (hE : ∀ (e9 : gT × gM) (ad1 : Nat → Nat) (ce1 so1 : Nat), o = .inl e9 → gExt T e9.1 → (∀ a : Nat, a < T.length → ad1 a = ad a) → ce1 + K ≤ mc → so1 + KS ≤ ms → gG Z ad1 e9.1 e9.2 ce1 so1 499 [(0, .ref a0), (1, .ref a1), (2, .ref a2), (5, .ref a5), (6, .int i6)] []) (hN : ∀ (n9 : Int32 × gT × gM) (ad1 : Nat → Nat) (ce1 so1 : Nat), o = .inr n9 → gExt T n9.2.1 → (∀ a : Nat, a < T.length → ad1 a = ad a) → ce1 + K ≤ mc → so1 + KS ≤ ms → gG Z ad1 n9.2.1 n9.2.2 ce1 so1 301 [(0, .ref a0), (1, .ref a1), (2, .ref a2), (5, .ref a5), (6, .int i6), (7, .int n9.1)] []) : gG Z ad T M ce so 493 [(0, .ref a0), (1, .ref a1), (2, .ref a2), (5, .ref a5), (6, .int i6), (7, .int i7)] [] := by
  unfold f_L_randomLinker_493 at h
  refine g_iinc (n := -1) (v := (i7 + (-1 : Int32))) (ls' := [(7, .int (i7 + (-1 : Int32))), (0, .ref a0), (1, .ref a1), (2, .ref a2), (5, .ref a5), (6, .int i6)]) hF 5 rfl (congrArg (HAdd.hAdd i7) (by decide)) (by rw [hn]; decide) rfl dL_randomLinker_493 ?_
  refine g_goto (tgt := 301) hF dL_randomLinker_496 (by decide) ?_
  cases h
  exact gG_sub [1, 2, 3, 4, 5, 0] rfl (hN _ _ _ _ rfl gExt.rf (fun _ _ => rfl) (by omega) (by omega))
theorem t_L_randomLinker_486 {Z : gZ} {d mc ms : Nat} {Acc : Option Value → (Nat → Nat) → gT → gM → Prop} {AccX : Nat → (Nat → Nat) → gT → gM → Prop} {ad : Nat → Nat} {T : gT} {M : gM} {ce so c9 s9 K KS : Nat} {m_a0 m_a1 m_a2 m_a5 : Nat} {a0 : Nat} {a1 : Nat} {a2 : Nat} {a5 : Nat} {i6 : Int32} {i7 : Int32} {o : (gT × gM) ⊕ (Int32 × gT × gM)} (hF : gFix Z cL_randomLinker RL "randomLinker" (some (.object RX10)) d mc ms Acc AccX) (hn : Z.2.2.2.2.2.1 = 11) (hd : 59 ≤ d) (hk1 : ce + c9 + K ≤ mc) (hk2 : so + s9 + KS ≤ ms) (q0 : T[a0]? = some (8, m_a0)) (q1 : T[a1]? = some (11, m_a1)) (q2 : T[a2]? = some (18, m_a2)) (q5 : T[a5]? = some (16, m_a5)) (h : f_L_randomLinker_486 T M a0 a1 a2 a5 i6 i7 = some (o, c9, s9)) (hE : ∀ (e9 : gT × gM) (ad1 : Nat → Nat) (ce1 so1 : Nat), o = .inl e9 → gExt T e9.1 → (∀ a : Nat, a < T.length → ad1 a = ad a) → ce1 + K ≤ mc → so1 + KS ≤ ms → gG Z ad1 e9.1 e9.2 ce1 so1 499 [(0, .ref a0), (1, .ref a1), (2, .ref a2), (5, .ref a5), (6, .int i6)] []) (hN : ∀ (n9 : Int32 × gT × gM) (ad1 : Nat → Nat) (ce1 so1 : Nat), o = .inr n9 → gExt T n9.2.1 → (∀ a : Nat, a < T.length → ad1 a = ad a) → ce1 + K ≤ mc → so1 + KS ≤ ms → gG Z ad1 n9.2.1 n9.2.2 ce1 so1 301 [(0, .ref a0), (1, .ref a1), (2, .ref a2), (5, .ref a5), (6, .int i6), (7, .int n9.1)] []) : gG Z ad T M ce so 486 [(0, .ref a0), (1, .ref a1), (2, .ref a2), (5, .ref a5), (6, .int i6), (7, .int i7)] [] := by
  unfold f_L_randomLinker_486 at h
  refine g_aload_n hF 0 rfl rfl dL_randomLinker_486 ?_
  refine g_aload_n hF 1 rfl rfl dL_randomLinker_487 ?_
  refine g_ldcS (tx := ";") (a := gSB + 17) hF (by decide +kernel) (Nat.le_add_right _ _) dL_randomLinker_488 ?_
  obtain ⟨x4, h4, h⟩ := gbnd h
  refine g_callS hF my_L_write kw_1106 kw_1107 (c_L_write (d := d - 1) (by omega) q0 q1 (gStr_c (i := 17) (by decide)) h4) (by omega) (by omega) (by omega) rfl rfl (Nat.le_of_ble_eq_true rfl) dL_randomLinker_490 (g_sameN ?_)
  exact gG_sub [0, 1, 2, 3, 4, 5] rfl (t_L_randomLinker_493 hF hn hd (by omega) (by omega) q0 q1 q2 q5 h (fun v9 ad1 ce1 so1 q9 x1 y1 => hE v9 ad1 ce1 so1 q9 (gExt.tr gExt.rf x1) (gad_call y1 gExt.rf (fun _ _ => rfl))) (fun v9 ad1 ce1 so1 q9 x1 y1 => hN v9 ad1 ce1 so1 q9 (gExt.tr gExt.rf x1) (gad_call y1 gExt.rf (fun _ _ => rfl))))
theorem t_L_randomLinker_389 {Z : gZ} {d mc ms : Nat} {Acc : Option Value → (Nat → Nat) → gT → gM → Prop} {AccX : Nat → (Nat → Nat) → gT → gM → Prop} {ad : Nat → Nat} {T : gT} {M : gM} {ce so c9 s9 K KS : Nat} {m_a0 m_a1 m_a2 m_a5 : Nat} {a0 : Nat} {a1 : Nat} {a2 : Nat} {a5 : Nat} {i6 : Int32} {i7 : Int32} {i8 : Int32} {i9 : Int32} {k0 : Int32} {o : (gT × gM) ⊕ (Int32 × gT × gM)} (hF : gFix Z cL_randomLinker RL "randomLinker" (some (.object RX10)) d mc ms Acc AccX) (hn : Z.2.2.2.2.2.1 = 11) (hd : 59 ≤ d) (hk1 : ce + c9 + K ≤ mc) (hk2 : so + s9 + KS ≤ ms) (q0 : T[a0]? = some (8, m_a0)) (q1 : T[a1]? = some (11, m_a1)) (q2 : T[a2]? = some (18, m_a2)) (q5 : T[a5]? = some (16, m_a5)) (h : f_L_randomLinker_389 T M a0 a1 a2 a5 i6 i7 i8 i9 k0 = some (o, c9, s9)) (hE : ∀ (e9 : gT × gM) (ad1 : Nat → Nat) (ce1 so1 : Nat), o = .inl e9 → gExt T e9.1 → (∀ a : Nat, a < T.length → ad1 a = ad a) → ce1 + K ≤ mc → so1 + KS ≤ ms → gG Z ad1 e9.1 e9.2 ce1 so1 499 [(0, .ref a0), (1, .ref a1), (2, .ref a2), (5, .ref a5), (6, .int i6)] []) (hN : ∀ (n9 : Int32 × gT × gM) (ad1 : Nat → Nat) (ce1 so1 : Nat), o = .inr n9 → gExt T n9.2.1 → (∀ a : Nat, a < T.length → ad1 a = ad a) → ce1 + K ≤ mc → so1 + KS ≤ ms → gG Z ad1 n9.2.1 n9.2.2 ce1 so1 301 [(0, .ref a0), (1, .ref a1), (2, .ref a2), (5, .ref a5), (6, .int i6), (7, .int n9.1)] []) : gG Z ad T M ce so 389 [(0, .ref a0), (1, .ref a1), (2, .ref a2), (5, .ref a5), (6, .int i6), (7, .int i7), (8, .int i8), (9, .int i9)] [.int k0] := by
  unfold f_L_randomLinker_389 at h
  refine g_istore (ls' := [(10, .int k0), (0, .ref a0), (1, .ref a1), (2, .ref a2), (5, .ref a5), (6, .int i6), (7, .int i7), (8, .int i8), (9, .int i9)]) hF (by rw [hn]; decide) rfl dL_randomLinker_389 ?_
  refine g_aload hF 4 rfl dL_randomLinker_391 ?_
  obtain ⟨b5, h5, h⟩ := gbnd h
  obtain ⟨g5, l5, q_b5⟩ := ldr_sp h5
  refine g_get_r hF g5 fl_RL_161 q5 dL_randomLinker_393 ?_
  refine g_iload hF 7 rfl dL_randomLinker_396 ?_
  obtain ⟨b6, h6, h⟩ := gbnd h
  obtain ⟨i6h, g6, l6, q_b6⟩ := aldr_sp q_b5 h6
  refine g_aald hF q_b5 (Or.inr (Or.inr (Or.inl ⟨rfl, rfl⟩))) i6h g6 dL_randomLinker_398 ?_
  obtain ⟨b7, h7, h⟩ := gbnd h
  obtain ⟨g7, l7, q_b7⟩ := ldr_sp h7
  refine g_get_r hF g7 fl_RL_172 q_b6 dL_randomLinker_399 ?_
  refine g_iload hF 8 rfl dL_randomLinker_402 ?_
  refine g_iload hF 0 rfl dL_randomLinker_404 ?_
  obtain ⟨M8, h8, h⟩ := gbnd h
  obtain ⟨i8h, e8v⟩ := ast_sp q_b7 h8
  refine g_iast hF q_b7 i8h dL_randomLinker_406 ?_
  rw [← e8v]
  refine g_aload_n hF 1 rfl rfl dL_randomLinker_407 ?_
  refine g_aload_n hF 2 rfl rfl dL_randomLinker_408 ?_
  refine g_ldcS (tx := "offer ") (a := gSB + 22) hF (by decide +kernel) (Nat.le_add_right _ _) dL_randomLinker_409 ?_
  obtain ⟨x9, h9, h⟩ := gbnd h
  refine g_callS hF my_L_write kw_1106 kw_1107 (c_L_write (d := d - 1) (by omega) q0 q1 (gStr_c (i := 22) (by decide)) h9) (by omega) (by omega) (by omega) rfl rfl (Nat.le_of_ble_eq_true rfl) dL_randomLinker_411 (g_sameN ?_)
  refine g_aload_n hF 1 rfl rfl dL_randomLinker_414 ?_
  refine g_aload_n hF 2 rfl rfl dL_randomLinker_415 ?_
  refine g_iload hF 7 rfl dL_randomLinker_416 ?_
  refine g_iconst (v := (0 : Int32)) hF rfl dL_randomLinker_418 ?_
  obtain ⟨x10, h10, h⟩ := gbnd h
  obtain ⟨c10, s10, h, ec10, es10⟩ := cadd_sp h
  refine g_callS hF my_L_wordOf kw_1126 kw_1127 (c_L_wordOf (d := d - 1) (by omega)  (trip h10)) (by omega) (by omega) (by omega) rfl rfl (Nat.le_of_ble_eq_true rfl) dL_randomLinker_419 (g_madeS (gOld_i (gOld_r (gT_lt q0) (gOld_r (gT_lt q1) (gOld_r (gT_lt q2) (gOld_r (gT_lt q5) (gOld_i (gOld_i (gOld_i (gOld_i gOld_0))))))))) (gOld_r (gT_lt q1) (gOld_r (gT_lt q0) gOld_0)) (fun ad10 e10 y10 => ?_))
  have X10 := gExt.tr gExt.rf e10
  have W10 := gad_call y10 gExt.rf (fun _ _ => rfl)
  have q_11 := e10 _ _ q0
  have q_12 := e10 _ _ q1
  have q_13 := e10 _ _ q2
  have q_14 := e10 _ _ q5
  obtain ⟨_, h15, h⟩ := gbnd h
  have q_15 := gks_sp h15
  obtain ⟨x16, h16, h⟩ := gbnd h
  refine g_callS hF my_L_write kw_1106 kw_1107 (c_L_write (d := d - 1) (by omega) q_11 q_12 q_15 h16) (by omega) (by omega) (by omega) rfl rfl (Nat.le_of_ble_eq_true rfl) dL_randomLinker_422 (g_sameN ?_)
  refine g_aload_n hF 1 rfl rfl dL_randomLinker_425 ?_
  refine g_aload_n hF 2 rfl rfl dL_randomLinker_426 ?_
  refine g_ldcS (tx := " ") (a := gSB + 19) hF (by decide +kernel) (Nat.le_add_right _ _) dL_randomLinker_427 ?_
  obtain ⟨x17, h17, h⟩ := gbnd h
  refine g_callS hF my_L_write kw_1106 kw_1107 (c_L_write (d := d - 1) (by omega) q_11 q_12 (gStr_c (i := 19) (by decide)) h17) (by omega) (by omega) (by omega) rfl rfl (Nat.le_of_ble_eq_true rfl) dL_randomLinker_429 (g_sameN ?_)
  refine g_aload_n hF 1 rfl rfl dL_randomLinker_432 ?_
  refine g_aload_n hF 2 rfl rfl dL_randomLinker_433 ?_
  refine g_iload hF 8 rfl dL_randomLinker_434 ?_
  refine g_iconst (v := (1 : Int32)) hF rfl dL_randomLinker_436 ?_
  obtain ⟨x18, h18, h⟩ := gbnd h
  obtain ⟨c18, s18, h, ec18, es18⟩ := cadd_sp h
  refine g_callS hF my_L_wordOf kw_1126 kw_1127 (c_L_wordOf (d := d - 1) (by omega)  (trip h18)) (by omega) (by omega) (by omega) rfl rfl (Nat.le_of_ble_eq_true rfl) dL_randomLinker_437 (g_madeS (gOld_i (gOld_r (gT_lt q_11) (gOld_r (gT_lt q_12) (gOld_r (gT_lt q_13) (gOld_r (gT_lt q_14) (gOld_i (gOld_i (gOld_i (gOld_i gOld_0))))))))) (gOld_r (gT_lt q_12) (gOld_r (gT_lt q_11) gOld_0)) (fun ad18 e18 y18 => ?_))
  have X18 := gExt.tr X10 e18
  have W18 := gad_call y18 X10 W10
  have q_19 := e18 _ _ q_11
  have q_20 := e18 _ _ q_12
  have q_21 := e18 _ _ q_13
  have q_22 := e18 _ _ q_14
  obtain ⟨_, h23, h⟩ := gbnd h
  have q_23 := gks_sp h23
  obtain ⟨x24, h24, h⟩ := gbnd h
  refine g_callS hF my_L_write kw_1106 kw_1107 (c_L_write (d := d - 1) (by omega) q_19 q_20 q_23 h24) (by omega) (by omega) (by omega) rfl rfl (Nat.le_of_ble_eq_true rfl) dL_randomLinker_440 (g_sameN ?_)
  refine g_aload_n hF 1 rfl rfl dL_randomLinker_443 ?_
  refine g_aload_n hF 2 rfl rfl dL_randomLinker_444 ?_
  refine g_ldcS (tx := " ") (a := gSB + 19) hF (by decide +kernel) (Nat.le_add_right _ _) dL_randomLinker_445 ?_
  obtain ⟨x25, h25, h⟩ := gbnd h
  refine g_callS hF my_L_write kw_1106 kw_1107 (c_L_write (d := d - 1) (by omega) q_19 q_20 (gStr_c (i := 19) (by decide)) h25) (by omega) (by omega) (by omega) rfl rfl (Nat.le_of_ble_eq_true rfl) dL_randomLinker_447 (g_sameN ?_)
  refine g_iload hF 0 rfl dL_randomLinker_450 ?_
  refine g_if_ge (tgt := 479) hF dL_randomLinker_452 (by decide) (fun c26 => ?_) (fun c26 => ?_)
  · replace h := gif_t c26 h
    refine g_aload_n hF 1 rfl rfl dL_randomLinker_479 ?_
    refine g_aload_n hF 2 rfl rfl dL_randomLinker_480 ?_
    refine g_iload hF 0 rfl dL_randomLinker_481 ?_
    obtain ⟨x27, h27, h⟩ := gbnd h
    refine g_callS hF my_L_writeNumber kw_1362 kw_1363 (c_L_writeNumber (d := d - 1) (by omega) q_19 q_20 h27) (by omega) (by omega) (by omega) rfl rfl (Nat.le_of_ble_eq_true rfl) dL_randomLinker_483 (g_sameN ?_)
    exact gG_sub [1, 2, 3, 4, 5, 6] rfl (t_L_randomLinker_486 hF hn hd (by omega) (by omega) q_19 q_20 q_21 q_22 h (fun v9 ad1 ce1 so1 q9 x1 y1 => hE v9 ad1 ce1 so1 q9 (gExt.tr X18 x1) (gad_call y1 X18 W18)) (fun v9 ad1 ce1 so1 q9 x1 y1 => hN v9 ad1 ce1 so1 q9 (gExt.tr X18 x1) (gad_call y1 X18 W18)))
  · replace h := gif_f c26 h
    refine g_aload_n hF 1 rfl rfl dL_randomLinker_455 ?_
    refine g_aload_n hF 2 rfl rfl dL_randomLinker_456 ?_
    refine g_ldcS (tx := "to ") (a := gSB + 23) hF (by decide +kernel) (Nat.le_add_right _ _) dL_randomLinker_457 ?_
    obtain ⟨x28, h28, h⟩ := gbnd h
    refine g_callS hF my_L_write kw_1106 kw_1107 (c_L_write (d := d - 1) (by omega) q_19 q_20 (gStr_c (i := 23) (by decide)) h28) (by omega) (by omega) (by omega) rfl rfl (Nat.le_of_ble_eq_true rfl) dL_randomLinker_459 (g_sameN ?_)
    refine g_aload_n hF 1 rfl rfl dL_randomLinker_462 ?_
    refine g_aload_n hF 2 rfl rfl dL_randomLinker_463 ?_
    refine g_bipush (v := (-2 : Int32)) hF rfl dL_randomLinker_464 ?_
    refine g_iload hF 0 rfl dL_randomLinker_466 ?_
    refine g_isub hF dL_randomLinker_468 ?_
    refine g_iconst (v := (1 : Int32)) hF rfl dL_randomLinker_469 ?_
    obtain ⟨x29, h29, h⟩ := gbnd h
    obtain ⟨c29, s29, h, ec29, es29⟩ := cadd_sp h
    refine g_callS hF my_L_wordOf kw_1126 kw_1127 (c_L_wordOf (d := d - 1) (by omega)  (trip h29)) (by omega) (by omega) (by omega) rfl rfl (Nat.le_of_ble_eq_true rfl) dL_randomLinker_470 (g_madeS (gOld_i (gOld_r (gT_lt q_19) (gOld_r (gT_lt q_20) (gOld_r (gT_lt q_21) (gOld_r (gT_lt q_22) (gOld_i (gOld_i (gOld_i (gOld_i gOld_0))))))))) (gOld_r (gT_lt q_20) (gOld_r (gT_lt q_19) gOld_0)) (fun ad29 e29 y29 => ?_))
    have X29 := gExt.tr X18 e29
    have W29 := gad_call y29 X18 W18
    have q_30 := e29 _ _ q_19
    have q_31 := e29 _ _ q_20
    have q_32 := e29 _ _ q_21
    have q_33 := e29 _ _ q_22
    obtain ⟨_, h34, h⟩ := gbnd h
    have q_34 := gks_sp h34
    obtain ⟨x35, h35, h⟩ := gbnd h
    refine g_callS hF my_L_write kw_1106 kw_1107 (c_L_write (d := d - 1) (by omega) q_30 q_31 q_34 h35) (by omega) (by omega) (by omega) rfl rfl (Nat.le_of_ble_eq_true rfl) dL_randomLinker_473 (g_sameN ?_)
    refine g_goto (tgt := 486) hF dL_randomLinker_476 (by decide) ?_
    exact gG_sub [1, 2, 3, 4, 5, 6] rfl (t_L_randomLinker_486 hF hn hd (by omega) (by omega) q_30 q_31 q_32 q_33 h (fun v9 ad1 ce1 so1 q9 x1 y1 => hE v9 ad1 ce1 so1 q9 (gExt.tr X29 x1) (gad_call y1 X29 W29)) (fun v9 ad1 ce1 so1 q9 x1 y1 => hN v9 ad1 ce1 so1 q9 (gExt.tr X29 x1) (gad_call y1 X29 W29)))
theorem t_L_randomLinker_259 {Z : gZ} {d mc ms : Nat} {Acc : Option Value → (Nat → Nat) → gT → gM → Prop} {AccX : Nat → (Nat → Nat) → gT → gM → Prop} {ad : Nat → Nat} {T : gT} {M : gM} {ce so c9 s9 K KS : Nat} {m_a0 m_a1 m_a2 m_a5 m_a8 m_b0 m_b1 : Nat} {a0 : Nat} {a1 : Nat} {a2 : Nat} {a5 : Nat} {i6 : Int32} {i7 : Int32} {a8 : Nat} {b0 : Nat} {b1 : Nat} {z2 : Nat} {o : (gT × gM) ⊕ (Int32 × gT × gM)} (hF : gFix Z cL_randomLinker RL "randomLinker" (some (.object RX10)) d mc ms Acc AccX) (hn : Z.2.2.2.2.2.1 = 11) (hd : 59 ≤ d) (hk1 : ce + c9 + K ≤ mc) (hk2 : so + s9 + KS ≤ ms) (q0 : T[a0]? = some (8, m_a0)) (q1 : T[a1]? = some (11, m_a1)) (q2 : T[a2]? = some (18, m_a2)) (q5 : T[a5]? = some (16, m_a5)) (q8 : T[a8]? = some (9, m_a8)) (p0 : T[b0]? = some (8, m_b0)) (p1 : T[b1]? = some (11, m_b1)) (p2 : gStr T z2) (h : f_L_randomLinker_259 T M a0 a1 a2 a5 i6 i7 a8 b0 b1 z2 = some (o, c9, s9)) (hE : ∀ (e9 : gT × gM) (ad1 : Nat → Nat) (ce1 so1 : Nat), o = .inl e9 → gExt T e9.1 → (∀ a : Nat, a < T.length → ad1 a = ad a) → ce1 + K ≤ mc → so1 + KS ≤ ms → gG Z ad1 e9.1 e9.2 ce1 so1 293 [(0, .ref a0), (1, .ref a1), (2, .ref a2), (5, .ref a5), (6, .int i6)] []) (hN : ∀ (n9 : Int32 × gT × gM) (ad1 : Nat → Nat) (ce1 so1 : Nat), o = .inr n9 → gExt T n9.2.1 → (∀ a : Nat, a < T.length → ad1 a = ad a) → ce1 + K ≤ mc → so1 + KS ≤ ms → gG Z ad1 n9.2.1 n9.2.2 ce1 so1 95 [(0, .ref a0), (1, .ref a1), (2, .ref a2), (5, .ref a5), (6, .int i6), (7, .int n9.1)] []) : gG Z ad T M ce so 259 [(0, .ref a0), (1, .ref a1), (2, .ref a2), (5, .ref a5), (6, .int i6), (7, .int i7), (8, .ref a8)] [.ref z2, .ref b1, .ref b0] := by
  unfold f_L_randomLinker_259 at h
  obtain ⟨x36, h36, h⟩ := gbnd h
  refine g_callS hF my_L_write kw_1106 kw_1107 (c_L_write (d := d - 1) (by omega) p0 p1 p2 h36) (by omega) (by omega) (by omega) rfl rfl (Nat.le_of_ble_eq_true rfl) dL_randomLinker_259 (g_sameN ?_)
  refine g_aload hF 3 rfl dL_randomLinker_262 ?_
  obtain ⟨b37, h37, h⟩ := gbnd h
  obtain ⟨g37, l37, q_b37⟩ := ldr_sp h37
  refine g_get_r hF g37 fl_RL_161 q5 dL_randomLinker_264 ?_
  refine g_iload hF 5 rfl dL_randomLinker_267 ?_
  refine g_aload hF 6 rfl dL_randomLinker_269 ?_
  obtain ⟨M38, h38, h⟩ := gbnd h
  obtain ⟨i38h, e38v⟩ := astr_sp q_b37 h38
  refine g_aast (r := (RX0, TX0, 5)) hF q_b37 (Or.inr (Or.inr (Or.inl ⟨rfl, rfl⟩))) q8 i38h dL_randomLinker_271 ?_
  rw [← e38v]
  refine g_aload hF 3 rfl dL_randomLinker_272 ?_
  refine g_aload hF 3 rfl dL_randomLinker_274 ?_
  obtain ⟨b39, h39, h⟩ := gbnd h
  obtain ⟨g39, l39, q_b39⟩ := ldr_sp h39
  refine g_get_r hF g39 fl_RL_187 q5 dL_randomLinker_276 ?_
  refine g_iload hF 5 rfl dL_randomLinker_279 ?_
  obtain ⟨x40, h40, h⟩ := gbnd h
  obtain ⟨c40, s40, h, ec40, es40⟩ := cadd_sp h
  refine g_callS hF my_L_with kw_1099 kw_1100 (c_L_with (d := d - 1) (by omega) q_b39 (trip h40)) (by omega) (by omega) (by omega) rfl rfl (Nat.le_of_ble_eq_true rfl) dL_randomLinker_281 (g_madeS (gOld_r (gT_lt q0) (gOld_r (gT_lt q1) (gOld_r (gT_lt q2) (gOld_r (gT_lt q5) (gOld_i (gOld_i (gOld_r (gT_lt q8) gOld_0))))))) (gOld_r (gT_lt q5) gOld_0) (fun ad40 e40 y40 => ?_))
  have X40 := gExt.tr gExt.rf e40
  have W40 := gad_call y40 gExt.rf (fun _ _ => rfl)
  have q_41 := e40 _ _ q0
  have q_42 := e40 _ _ q1
  have q_43 := e40 _ _ q2
  have q_44 := e40 _ _ q5
  have q_45 := e40 _ _ q8
  obtain ⟨_, h46, h⟩ := gbnd h
  obtain ⟨l46, q_46⟩ := gkd_sp h46
  refine g_put_r hF (fun _ => rfl) (fun _ => rfl) (gT_lt q_46) fl_RL_187 q_44 dL_randomLinker_284 ?_
  refine g_iinc (n := 1) (v := (i7 + (1 : Int32))) (ls' := [(7, .int (i7 + (1 : Int32))), (0, .ref a0), (1, .ref a1), (2, .ref a2), (5, .ref a5), (6, .int i6), (8, .ref a8)]) hF 5 rfl rfl (by rw [hn]; decide) rfl dL_randomLinker_287 ?_
  refine g_goto (tgt := 95) hF dL_randomLinker_290 (by decide) ?_
  cases h
  exact gG_sub [1, 2, 3, 4, 5, 0] rfl (hN _ _ _ _ rfl X40 W40 (by omega) (by omega))
theorem t_L_randomLinker_229 {Z : gZ} {d mc ms : Nat} {Acc : Option Value → (Nat → Nat) → gT → gM → Prop} {AccX : Nat → (Nat → Nat) → gT → gM → Prop} {ad : Nat → Nat} {T : gT} {M : gM} {ce so c9 s9 K KS : Nat} {m_a0 m_a1 m_a2 m_a5 m_a8 m_b0 m_b1 : Nat} {a0 : Nat} {a1 : Nat} {a2 : Nat} {a5 : Nat} {i6 : Int32} {i7 : Int32} {a8 : Nat} {b0 : Nat} {b1 : Nat} {z2 : Nat} {o : (gT × gM) ⊕ (Int32 × gT × gM)} (hF : gFix Z cL_randomLinker RL "randomLinker" (some (.object RX10)) d mc ms Acc AccX) (hn : Z.2.2.2.2.2.1 = 11) (hd : 59 ≤ d) (hk1 : ce + c9 + K ≤ mc) (hk2 : so + s9 + KS ≤ ms) (q0 : T[a0]? = some (8, m_a0)) (q1 : T[a1]? = some (11, m_a1)) (q2 : T[a2]? = some (18, m_a2)) (q5 : T[a5]? = some (16, m_a5)) (q8 : T[a8]? = some (9, m_a8)) (p0 : T[b0]? = some (8, m_b0)) (p1 : T[b1]? = some (11, m_b1)) (p2 : gStr T z2) (h : f_L_randomLinker_229 T M a0 a1 a2 a5 i6 i7 a8 b0 b1 z2 = some (o, c9, s9)) (hE : ∀ (e9 : gT × gM) (ad1 : Nat → Nat) (ce1 so1 : Nat), o = .inl e9 → gExt T e9.1 → (∀ a : Nat, a < T.length → ad1 a = ad a) → ce1 + K ≤ mc → so1 + KS ≤ ms → gG Z ad1 e9.1 e9.2 ce1 so1 293 [(0, .ref a0), (1, .ref a1), (2, .ref a2), (5, .ref a5), (6, .int i6)] []) (hN : ∀ (n9 : Int32 × gT × gM) (ad1 : Nat → Nat) (ce1 so1 : Nat), o = .inr n9 → gExt T n9.2.1 → (∀ a : Nat, a < T.length → ad1 a = ad a) → ce1 + K ≤ mc → so1 + KS ≤ ms → gG Z ad1 n9.2.1 n9.2.2 ce1 so1 95 [(0, .ref a0), (1, .ref a1), (2, .ref a2), (5, .ref a5), (6, .int i6), (7, .int n9.1)] []) : gG Z ad T M ce so 229 [(0, .ref a0), (1, .ref a1), (2, .ref a2), (5, .ref a5), (6, .int i6), (7, .int i7), (8, .ref a8)] [.ref z2, .ref b1, .ref b0] := by
  unfold f_L_randomLinker_229 at h
  obtain ⟨x47, h47, h⟩ := gbnd h
  refine g_callS hF my_L_write kw_1106 kw_1107 (c_L_write (d := d - 1) (by omega) p0 p1 p2 h47) (by omega) (by omega) (by omega) rfl rfl (Nat.le_of_ble_eq_true rfl) dL_randomLinker_229 (g_sameN ?_)
  refine g_aload_n hF 0 rfl rfl dL_randomLinker_232 ?_
  refine g_aload_n hF 1 rfl rfl dL_randomLinker_233 ?_
  refine g_aload hF 6 rfl dL_randomLinker_234 ?_
  refine g_get_i hF fl_RL_166 q8 dL_randomLinker_236 ?_
  obtain ⟨x48, h48, h⟩ := gbnd h
  refine g_callS hF my_L_writeNumber kw_1362 kw_1363 (c_L_writeNumber (d := d - 1) (by omega) q0 q1 h48) (by omega) (by omega) (by omega) rfl rfl (Nat.le_of_ble_eq_true rfl) dL_randomLinker_239 (g_sameN ?_)
  refine g_aload_n hF 0 rfl rfl dL_randomLinker_242 ?_
  refine g_aload_n hF 1 rfl rfl dL_randomLinker_243 ?_
  refine g_aload hF 6 rfl dL_randomLinker_244 ?_
  refine g_get_i hF fl_RL_169 q8 dL_randomLinker_246 ?_
  refine g_if_eq (tgt := 257) hF dL_randomLinker_249 (by decide) (fun c49 => ?_) (fun c49 => ?_)
  · replace h := gif_t c49 h
    refine g_ldcS (tx := ";") (a := gSB + 17) hF (by decide +kernel) (Nat.le_add_right _ _) dL_randomLinker_257 ?_
    exact gG_sub [0, 1, 2, 3, 4, 5, 6] rfl (t_L_randomLinker_259 hF hn hd (by omega) (by omega) q0 q1 q2 q5 q8 q0 q1 (gStr_c (i := 17) (by decide)) h (fun v9 ad1 ce1 so1 q9 x1 y1 => hE v9 ad1 ce1 so1 q9 (gExt.tr gExt.rf x1) (gad_call y1 gExt.rf (fun _ _ => rfl))) (fun v9 ad1 ce1 so1 q9 x1 y1 => hN v9 ad1 ce1 so1 q9 (gExt.tr gExt.rf x1) (gad_call y1 gExt.rf (fun _ _ => rfl))))
  · replace h := gif_f c49 h
    refine g_ldcS (tx := " keeps;") (a := gSB + 21) hF (by decide +kernel) (Nat.le_add_right _ _) dL_randomLinker_252 ?_
    refine g_goto (tgt := 259) hF dL_randomLinker_254 (by decide) ?_
    exact gG_sub [0, 1, 2, 3, 4, 5, 6] rfl (t_L_randomLinker_259 hF hn hd (by omega) (by omega) q0 q1 q2 q5 q8 q0 q1 (gStr_c (i := 21) (by decide)) h (fun v9 ad1 ce1 so1 q9 x1 y1 => hE v9 ad1 ce1 so1 q9 (gExt.tr gExt.rf x1) (gad_call y1 gExt.rf (fun _ _ => rfl))) (fun v9 ad1 ce1 so1 q9 x1 y1 => hN v9 ad1 ce1 so1 q9 (gExt.tr gExt.rf x1) (gad_call y1 gExt.rf (fun _ _ => rfl))))
