theorem t_X10_binding_120 {Z : gZ} {d mc ms : Nat} {Acc : Option Value → (Nat → Nat) → gT → gM → Prop} {AccX : Nat → (Nat → Nat) → gT → gM → Prop} {ad : Nat → Nat} {T : gT} {M : gM} {ce so c9 s9 : Nat}  {k0 : Int32} {o : Int32 × gT × gM} (hF : gFix Z cX10_binding RX10 "binding" (some .int) d mc ms Acc AccX) (hn : Z.2.2.2.2.2.1 = 8) (hd : 11 ≤ d) (hk1 : ce + c9 ≤ mc) (hk2 : so + s9 ≤ ms)  (h : f_X10_binding_120 T M k0 = some (o, c9, s9)) (hR : ∀ ad1 : Nat → Nat, gExt T o.2.1 → (∀ a : Nat, a < T.length → ad1 a = ad a) → Acc (some (.int o.1)) ad1 o.2.1 o.2.2) : gG Z ad T M ce so 120 [] [.int k0] := by
  unfold f_X10_binding_120 at h
  cases h
  exact g_ret_i hF rfl rfl dX10_binding_120 (hR _ gExt.rf (fun _ _ => rfl)) (by omega) (by omega)
theorem t_X10_binding_115 {Z : gZ} {d mc ms : Nat} {Acc : Option Value → (Nat → Nat) → gT → gM → Prop} {AccX : Nat → (Nat → Nat) → gT → gM → Prop} {ad : Nat → Nat} {T : gT} {M : gM} {ce so c9 s9 : Nat} {m_a0 : Nat} {a0 : Nat} {i2 : Int32} {o : Int32 × gT × gM} (hF : gFix Z cX10_binding RX10 "binding" (some .int) d mc ms Acc AccX) (hn : Z.2.2.2.2.2.1 = 8) (hd : 11 ≤ d) (hk1 : ce + c9 ≤ mc) (hk2 : so + s9 ≤ ms) (q0 : T[a0]? = some (16, m_a0)) (h : f_X10_binding_115 T M a0 i2 = some (o, c9, s9)) (hR : ∀ ad1 : Nat → Nat, gExt T o.2.1 → (∀ a : Nat, a < T.length → ad1 a = ad a) → Acc (some (.int o.1)) ad1 o.2.1 o.2.2) : gG Z ad T M ce so 115 [(0, .ref a0), (2, .int i2)] [] := by
  unfold f_X10_binding_115 at h
  refine g_aload_n hF 0 rfl rfl dX10_binding_115 ?_
  refine g_iload_n hF 1 rfl rfl dX10_binding_116 ?_
  obtain ⟨x15, h15, h⟩ := gbnd h
  obtain ⟨c15, s15, h, ec15, es15⟩ := cadd_sp h
  refine g_callV hF my_X10_winner kw_621 kw_572 kw_573 gC_16.1 (by decide) q0 (c_X10_winner (d := d - 1) (by omega) q0 (trip h15)) (by omega) (by omega) (by omega) rfl rfl (Nat.le_of_ble_eq_true rfl) dX10_binding_117 (g_madeS (gOld_r (gT_lt q0) (gOld_i gOld_0)) gOld_0 (fun ad15 e15 y15 => ?_))
  have X15 := gExt.tr gExt.rf e15
  have W15 := gad_call y15 gExt.rf (fun _ _ => rfl)
  have q_16 := e15 _ _ q0
  exact gG_sub [] rfl (t_X10_binding_120 hF hn hd (by omega) (by omega)  h (fun ad1 x1 y1 => hR ad1 (gExt.tr X15 x1) (gad_call y1 X15 W15)))
theorem t_X10_binding {Z : gZ} {d mc ms : Nat} {Acc : Option Value → (Nat → Nat) → gT → gM → Prop} {AccX : Nat → (Nat → Nat) → gT → gM → Prop} {ad : Nat → Nat} {T : gT} {M : gM} {ce so c9 s9 : Nat} {m_a0 : Nat} {a0 : Nat} {i1 : Int32} {i2 : Int32} {o : Int32 × gT × gM} (hF : gFix Z cX10_binding RX10 "binding" (some .int) d mc ms Acc AccX) (hn : Z.2.2.2.2.2.1 = 8) (hd : 11 ≤ d) (hk1 : ce + c9 ≤ mc) (hk2 : so + s9 ≤ ms) (q0 : T[a0]? = some (16, m_a0)) (h : f_X10_binding T M a0 i1 i2 = some (o, c9, s9)) (hR : ∀ ad1 : Nat → Nat, gExt T o.2.1 → (∀ a : Nat, a < T.length → ad1 a = ad a) → Acc (some (.int o.1)) ad1 o.2.1 o.2.2) : gG Z ad T M ce so 0 [(0, .ref a0), (1, .int i1), (2, .int i2)] [] := by
  unfold f_X10_binding at h
  refine g_aload_n hF 0 rfl rfl dX10_binding_0 ?_
  refine g_iload_n hF 1 rfl rfl dX10_binding_1 ?_
  obtain ⟨x17, h17, h⟩ := gbnd h
  refine g_callV hF my_X10_rank kw_579 kw_568 kw_569 gC_16.1 (by decide) q0 (c_X10_rank (d := d - 1) (by omega) q0 h17) (by omega) (by omega) (by omega) rfl rfl (Nat.le_of_ble_eq_true rfl) dX10_binding_2 (g_sameS ?_)
  refine g_if_ge (tgt := 10) hF dX10_binding_5 (by decide) (fun c18 => ?_) (fun c18 => ?_)
  · replace h := gif_t c18 h
    refine g_iconst (v := (0 : Int32)) hF rfl dX10_binding_10 ?_
    refine g_istore_n (ls' := [(3, .int (0 : Int32)), (0, .ref a0), (1, .int i1), (2, .int i2)]) hF rfl (by rw [hn]; decide) rfl dX10_binding_11 ?_
    refine g_aload_n hF 1 rfl rfl dX10_binding_12 ?_
    obtain ⟨b19, h19, h⟩ := gbnd h
    obtain ⟨g19, l19, q_b19⟩ := ldr_sp h19
    refine g_get_r hF g19 fl_RX10_19 q0 dX10_binding_13 ?_
    refine g_astore (ls' := [(4, .ref b19), (3, .int (0 : Int32)), (0, .ref a0), (1, .int i1), (2, .int i2)]) hF (by rw [hn]; decide) rfl dX10_binding_16 ?_
    refine g_aload hF 0 rfl dX10_binding_18 ?_
    refine g_alenA hF q_b19 (by decide) dX10_binding_20 ?_
    refine g_istore (ls' := [(5, .int (Int32.ofNat (alen T b19))), (4, .ref b19), (3, .int (0 : Int32)), (0, .ref a0), (1, .int i1), (2, .int i2)]) hF (by rw [hn]; decide) rfl dX10_binding_21 ?_
    refine g_iconst (v := (0 : Int32)) hF rfl dX10_binding_23 ?_
    refine g_istore (ls' := [(6, .int (0 : Int32)), (5, .int (Int32.ofNat (alen T b19))), (4, .ref b19), (3, .int (0 : Int32)), (0, .ref a0), (1, .int i1), (2, .int i2)]) hF (by rw [hn]; decide) rfl dX10_binding_24 ?_
    obtain ⟨x20, h20, h⟩ := gbnd h
    obtain ⟨c20, s20, h, ec20, es20⟩ := cadd_sp h
    refine gG_sub [4, 5, 6, 3, 2, 1, 0] rfl (t_X10_binding_L26 (K := c20) (KS := s20) hF hn hd gFU (trip h20) (by omega) (by omega) (fun e20 adE20 ceE20 soE20 qE20 xE20 yE20 kE20 kS20 => ?_))
    subst qE20
    have X20 := gExt.tr gExt.rf xE20
    have W20 := gad_call yE20 gExt.rf (fun _ _ => rfl)
    have q_21 := xE20 _ _ q_b19
    have q_22 := xE20 _ _ q0
    refine g_aload_n hF 0 rfl rfl dX10_binding_66 ?_
    refine g_iload_n hF 1 rfl rfl dX10_binding_67 ?_
    refine g_iload_n hF 2 rfl rfl dX10_binding_68 ?_
    obtain ⟨x23, h23, h⟩ := gbnd h
    refine g_callV hF my_X10_vote kw_584 kw_585 kw_586 gC_16.1 (by decide) q_22 (c_X10_vote (d := d - 1) (by omega) q_22 h23) (by omega) (by omega) (by omega) rfl rfl (Nat.le_of_ble_eq_true rfl) dX10_binding_69 (g_sameS ?_)
    refine g_istore (ls' := [(4, .int x23), (0, .ref a0), (1, .int i1), (2, .int i2), (3, .int x20.1.1)]) hF (by rw [hn]; decide) rfl dX10_binding_72 ?_
    refine g_aload_n hF 1 rfl rfl dX10_binding_74 ?_
    obtain ⟨b24, h24, h⟩ := gbnd h
    obtain ⟨g24, l24, q_b24⟩ := ldr_sp h24
    refine g_get_r hF g24 fl_RX10_15 q_22 dX10_binding_75 ?_
    refine g_iload_n hF 2 rfl rfl dX10_binding_78 ?_
    obtain ⟨b25, h25, h⟩ := gbnd h
    obtain ⟨i25h, g25, l25, q_b25⟩ := aldr_sp q_b24 h25
    refine g_aald hF q_b24 (Or.inr (Or.inr (Or.inl ⟨rfl, rfl⟩))) i25h g25 dX10_binding_79 ?_
    refine g_get_i hF fl_RX10_94 q_b25 dX10_binding_80 ?_
    refine g_if_eq (tgt := 115) hF dX10_binding_83 (by decide) (fun c26 => ?_) (fun c26 => ?_)
    · replace h := gif_t c26 h
      exact gG_sub [1, 3] rfl (t_X10_binding_115 hF hn hd (by omega) (by omega) q_22 h (fun ad1 x1 y1 => hR ad1 (gExt.tr X20 x1) (gad_call y1 X20 W20)))
    · replace h := gif_f c26 h
      refine g_iload hF 0 rfl dX10_binding_86 ?_
      refine g_if_lt (tgt := 115) hF dX10_binding_88 (by decide) (fun c27 => ?_) (fun c27 => ?_)
      · replace h := gif_t c27 h
        exact gG_sub [1, 3] rfl (t_X10_binding_115 hF hn hd (by omega) (by omega) q_22 h (fun ad1 x1 y1 => hR ad1 (gExt.tr X20 x1) (gad_call y1 X20 W20)))
      · replace h := gif_f c27 h
        refine g_bipush (v := (100 : Int32)) hF rfl dX10_binding_91 ?_
        refine g_aload_n hF 1 rfl rfl dX10_binding_93 ?_
        refine g_iload hF 0 rfl dX10_binding_94 ?_
        refine g_iload_n hF 3 rfl rfl dX10_binding_96 ?_
        obtain ⟨x28, h28, h⟩ := gbnd h
        obtain ⟨c28, s28, h, ec28, es28⟩ := cadd_sp h
        refine g_callV hF my_X10_support kw_580 kw_581 kw_582 gC_16.1 (by decide) q_22 (c_X10_support (d := d - 1) (by omega) q_22 (trip h28)) (by omega) (by omega) (by omega) rfl rfl (Nat.le_of_ble_eq_true rfl) dX10_binding_97 (g_madeS (gOld_i (gOld_r (gT_lt q_22) (gOld_i (gOld_i (gOld_i gOld_0))))) (gOld_i gOld_0) (fun ad28 e28 y28 => ?_))
        have X28 := gExt.tr X20 e28
        have W28 := gad_call y28 X20 W20
        have q_29 := e28 _ _ q_22
        refine g_imul hF dX10_binding_100 ?_
        refine g_aload_n hF 1 rfl rfl dX10_binding_101 ?_
        refine g_get_i hF fl_RX10_7 q_29 dX10_binding_102 ?_
        refine g_iload_n hF 4 rfl rfl dX10_binding_105 ?_
        refine g_imul hF dX10_binding_106 ?_
        refine g_icmp_lt (tgt := 115) hF dX10_binding_107 (by decide) (fun c30 => ?_) (fun c30 => ?_)
        · replace h := gif_t c30 h
          exact gG_sub [1, 3] rfl (t_X10_binding_115 hF hn hd (by omega) (by omega) q_29 h (fun ad1 x1 y1 => hR ad1 (gExt.tr X28 x1) (gad_call y1 X28 W28)))
        · replace h := gif_f c30 h
          refine g_iload hF 0 rfl dX10_binding_110 ?_
          refine g_goto (tgt := 120) hF dX10_binding_112 (by decide) ?_
          exact gG_sub [] rfl (t_X10_binding_120 hF hn hd (by omega) (by omega)  h (fun ad1 x1 y1 => hR ad1 (gExt.tr X28 x1) (gad_call y1 X28 W28)))
  · replace h := gif_f c18 h
    refine g_iconst (v := (-1 : Int32)) hF rfl dX10_binding_8 ?_
    cases h
    exact g_ret_i hF rfl rfl dX10_binding_9 (hR _ gExt.rf (fun _ _ => rfl)) (by omega) (by omega)
theorem c_X10_binding {d : Nat} {T : gT} {M : gM} {c9 s9 : Nat} {m_a0 : Nat} {a0 : Nat} {i1 : Int32} {i2 : Int32} {o : Int32 × gT × gM} (hd : 11 ≤ d) (q0 : T[a0]? = some (16, m_a0)) (h : f_X10_binding T M a0 i1 i2 = some (o, c9, s9)) : gRet d yX10_binding cX10_binding 8 (some .int) c9 s9 [.ref a0, .int i1, .int i2] T M (gMade T (some (.int o.1)) o.2.1 o.2.2) := by
  refine gRet_of (own := RX10) (by decide) rfl (Nat.le_of_ble_eq_true rfl) (fun Z ad0 hn h0 hF => ?_)
  exact t_X10_binding (ce := 0) (so := 0) hF hn hd (by omega) (by omega) q0 h (fun ad1 x1 y1 => ⟨rfl, rfl, rfl, x1, y1⟩)
theorem t_X10_bindings_B27 {Z : gZ} {d mc ms : Nat} {Acc : Option Value → (Nat → Nat) → gT → gM → Prop} {AccX : Nat → (Nat → Nat) → gT → gM → Prop} {ad : Nat → Nat} {T : gT} {M : gM} {ce so c9 s9 K KS : Nat}  {a0 : Nat} {a1 : Nat} {i2 : Int32} {i3 : Int32} {o : (gT × gM) ⊕ (Int32 × gT × gM)} (hF : gFix Z cX10_bindings RX10 "bindings" (some (.array (.array .int))) d mc ms Acc AccX) (hn : Z.2.2.2.2.2.1 = 4) (hd : 12 ≤ d) (hk1 : ce + c9 + K ≤ mc) (hk2 : so + s9 + KS ≤ ms)  (h : f_X10_bindings_B27 T M a0 a1 i2 i3 = some (o, c9, s9)) (hE : ∀ (e9 : gT × gM) (ad1 : Nat → Nat) (ce1 so1 : Nat), o = .inl e9 → gExt T e9.1 → (∀ a : Nat, a < T.length → ad1 a = ad a) → ce1 + K ≤ mc → so1 + KS ≤ ms → gG Z ad1 e9.1 e9.2 ce1 so1 52 [(0, .ref a0), (1, .ref a1), (2, .int i2)] []) (hN : ∀ (n9 : Int32 × gT × gM) (ad1 : Nat → Nat) (ce1 so1 : Nat), o = .inr n9 → gExt T n9.2.1 → (∀ a : Nat, a < T.length → ad1 a = ad a) → ce1 + K ≤ mc → so1 + KS ≤ ms → gG Z ad1 n9.2.1 n9.2.2 ce1 so1 27 [(0, .ref a0), (1, .ref a1), (2, .int i2), (3, .int n9.1)] []) : gG Z ad T M ce so 27 [(0, .ref a0), (1, .ref a1), (2, .int i2), (3, .int i3)] [] := by
  unfold f_X10_bindings_B27 at h
  obtain ⟨_, h1, h⟩ := gbnd h
  obtain ⟨l1, q_1⟩ := gkd_sp h1
  obtain ⟨_, h2, h⟩ := gbnd h
  obtain ⟨l2, q_2⟩ := gkd_sp h2
  refine g_iload_n hF 3 rfl rfl dX10_bindings_27 ?_
  refine g_aload_n hF 0 rfl rfl dX10_bindings_28 ?_
  refine g_get_i hF fl_RX10_24 q_1 dX10_bindings_29 ?_
  refine g_icmp_ge (tgt := 52) hF dX10_bindings_32 (by decide) (fun c5 => ?_) (fun c5 => ?_)
  · replace h := gif_t c5 h
    cases h
    exact gG_sub [0, 1, 2] rfl (hE _ _ _ _ rfl gExt.rf (fun _ _ => rfl) (by omega) (by omega))
  · replace h := gif_f c5 h
    refine g_aload_n hF 1 rfl rfl dX10_bindings_35 ?_
    refine g_iload_n hF 2 rfl rfl dX10_bindings_36 ?_
    obtain ⟨b6, h6, h⟩ := gbnd h
    obtain ⟨i6h, g6, l6, q_b6⟩ := aldr_sp q_2 h6
    refine g_aald2 hF q_2 i6h g6 dX10_bindings_37 ?_
    refine g_iload_n hF 3 rfl rfl dX10_bindings_38 ?_
    refine g_aload_n hF 0 rfl rfl dX10_bindings_39 ?_
    refine g_iload_n hF 2 rfl rfl dX10_bindings_40 ?_
    refine g_iload_n hF 3 rfl rfl dX10_bindings_41 ?_
    obtain ⟨x7, h7, h⟩ := gbnd h
    obtain ⟨c7, s7, h, ec7, es7⟩ := cadd_sp h
    refine g_callV hF my_X10_binding kw_617 kw_618 kw_619 gC_16.1 (by decide) q_1 (c_X10_binding (d := d - 1) (by omega) q_1 (trip h7)) (by omega) (by omega) (by omega) rfl rfl (Nat.le_of_ble_eq_true rfl) dX10_bindings_42 (g_madeS (gOld_r (gT_lt q_1) (gOld_r (gT_lt q_2) (gOld_i (gOld_i gOld_0)))) (gOld_i (gOld_r (gT_lt q_b6) gOld_0)) (fun ad7 e7 y7 => ?_))
    have X7 := gExt.tr gExt.rf e7
    have W7 := gad_call y7 gExt.rf (fun _ _ => rfl)
    have q_8 := e7 _ _ q_1
    have q_9 := e7 _ _ q_2
    have q_10 := e7 _ _ q_b6
    obtain ⟨M11, h11, h⟩ := gbnd h
    obtain ⟨i11h, e11v⟩ := ast_sp q_10 h11
    refine g_iast hF q_10 i11h dX10_bindings_45 ?_
    rw [← e11v]
    refine g_iinc (n := 1) (v := (i3 + (1 : Int32))) (ls' := [(3, .int (i3 + (1 : Int32))), (0, .ref a0), (1, .ref a1), (2, .int i2)]) hF 3 rfl rfl (by rw [hn]; decide) rfl dX10_bindings_46 ?_
    refine g_goto (tgt := 27) hF dX10_bindings_49 (by decide) ?_
    cases h
    exact gG_sub [1, 2, 3, 0] rfl (hN _ _ _ _ rfl X7 W7 (by omega) (by omega))
theorem t_X10_bindings_L27 {Z : gZ} {d mc ms : Nat} {Acc : Option Value → (Nat → Nat) → gT → gM → Prop} {AccX : Nat → (Nat → Nat) → gT → gM → Prop} {K KS : Nat} {a0 : Nat} {a1 : Nat} {i2 : Int32} (hF : gFix Z cX10_bindings RX10 "bindings" (some (.array (.array .int))) d mc ms Acc AccX) (hn : Z.2.2.2.2.2.1 = 4) (hd : 12 ≤ d) : ∀ (n9 : Nat) {ad : Nat → Nat} {x0 : Int32 × gT × gM} {e0 : gT × gM} {ce so c9 s9 : Nat}, gloopc (fun x : Int32 × gT × gM => f_X10_bindings_B27 x.2.1 x.2.2 a0 a1 i2 x.1) n9 x0 = some (e0, c9, s9) → ce + c9 + K ≤ mc → so + s9 + KS ≤ ms → ∀ (hE : ∀ (e9 : gT × gM) (ad1 : Nat → Nat) (ce1 so1 : Nat), e0 = e9 → gExt x0.2.1 e9.1 → (∀ a : Nat, a < x0.2.1.length → ad1 a = ad a) → ce1 + K ≤ mc → so1 + KS ≤ ms → gG Z ad1 e9.1 e9.2 ce1 so1 52 [(0, .ref a0), (1, .ref a1), (2, .int i2)] []), gG Z ad x0.2.1 x0.2.2 ce so 27 [(0, .ref a0), (1, .ref a1), (2, .int i2), (3, .int x0.1)] []
  | 0 => fun h => nomatch h
  | n9 + 1 => fun h hk1 hk2 hE => by
    rcases gloopc_sp h with hB | ⟨a9, c1, s1, c2, s2, hB, h2, e1, e2⟩
    · exact t_X10_bindings_B27 (K := K) (KS := KS) hF hn hd hk1 hk2 hB (fun e9 ad1 ce1 so1 q9 => hE e9 ad1 ce1 so1 (Sum.inl.inj q9)) (fun n8 ad1 ce1 so1 q9 => nomatch q9)
    · exact t_X10_bindings_B27 (K := c2 + K) (KS := s2 + KS) hF hn hd (by omega) (by omega) hB (fun e9 ad1 ce1 so1 q9 => nomatch q9) (fun n8 ad1 ce1 so1 q9 x9 y9 k1 k2 => by rw [← Sum.inr.inj q9] at x9 ⊢; exact t_X10_bindings_L27 (K := K) (KS := KS) hF hn hd n9 h2 (by omega) (by omega) (fun e9 ad2 ce2 so2 q8 x2 y2 => hE e9 ad2 ce2 so2 q8 (gExt.tr x9 x2) (gad_call y2 x9 y9)))
theorem t_X10_bindings_B16 {Z : gZ} {d mc ms : Nat} {Acc : Option Value → (Nat → Nat) → gT → gM → Prop} {AccX : Nat → (Nat → Nat) → gT → gM → Prop} {ad : Nat → Nat} {T : gT} {M : gM} {ce so c9 s9 K KS : Nat}  {a0 : Nat} {a1 : Nat} {i2 : Int32} {o : (gT × gM) ⊕ (Int32 × gT × gM)} (hF : gFix Z cX10_bindings RX10 "bindings" (some (.array (.array .int))) d mc ms Acc AccX) (hn : Z.2.2.2.2.2.1 = 4) (hd : 12 ≤ d) (hk1 : ce + c9 + K ≤ mc) (hk2 : so + s9 + KS ≤ ms)  (h : f_X10_bindings_B16 T M a0 a1 i2 = some (o, c9, s9)) (hE : ∀ (e9 : gT × gM) (ad1 : Nat → Nat) (ce1 so1 : Nat), o = .inl e9 → gExt T e9.1 → (∀ a : Nat, a < T.length → ad1 a = ad a) → ce1 + K ≤ mc → so1 + KS ≤ ms → gG Z ad1 e9.1 e9.2 ce1 so1 58 [(1, .ref a1)] []) (hN : ∀ (n9 : Int32 × gT × gM) (ad1 : Nat → Nat) (ce1 so1 : Nat), o = .inr n9 → gExt T n9.2.1 → (∀ a : Nat, a < T.length → ad1 a = ad a) → ce1 + K ≤ mc → so1 + KS ≤ ms → gG Z ad1 n9.2.1 n9.2.2 ce1 so1 16 [(0, .ref a0), (1, .ref a1), (2, .int n9.1)] []) : gG Z ad T M ce so 16 [(0, .ref a0), (1, .ref a1), (2, .int i2)] [] := by
  unfold f_X10_bindings_B16 at h
  obtain ⟨_, h12, h⟩ := gbnd h
  obtain ⟨l12, q_12⟩ := gkd_sp h12
  obtain ⟨_, h13, h⟩ := gbnd h
  obtain ⟨l13, q_13⟩ := gkd_sp h13
  refine g_iload_n hF 2 rfl rfl dX10_bindings_16 ?_
  refine g_aload_n hF 0 rfl rfl dX10_bindings_17 ?_
  obtain ⟨b15, h15, h⟩ := gbnd h
  obtain ⟨g15, l15, q_b15⟩ := ldr_sp h15
  refine g_get_r hF g15 fl_RX10_15 q_12 dX10_bindings_18 ?_
  refine g_alenA hF q_b15 (by decide) dX10_bindings_21 ?_
  refine g_icmp_ge (tgt := 58) hF dX10_bindings_22 (by decide) (fun c16 => ?_) (fun c16 => ?_)
  · replace h := gif_t c16 h
    cases h
    exact gG_sub [1] rfl (hE _ _ _ _ rfl gExt.rf (fun _ _ => rfl) (by omega) (by omega))
  · replace h := gif_f c16 h
    refine g_iconst (v := (0 : Int32)) hF rfl dX10_bindings_25 ?_
    refine g_istore_n (ls' := [(3, .int (0 : Int32)), (0, .ref a0), (1, .ref a1), (2, .int i2)]) hF rfl (by rw [hn]; decide) rfl dX10_bindings_26 ?_
    obtain ⟨x17, h17, h⟩ := gbnd h
    obtain ⟨c17, s17, h, ec17, es17⟩ := cadd_sp h
    refine gG_sub [1, 2, 3, 0] rfl (t_X10_bindings_L27 (K := c17 + K) (KS := s17 + KS) hF hn hd gFU (trip h17) (by omega) (by omega) (fun e17 adE17 ceE17 soE17 qE17 xE17 yE17 kE17 kS17 => ?_))
    subst qE17
    have X17 := gExt.tr gExt.rf xE17
    have W17 := gad_call yE17 gExt.rf (fun _ _ => rfl)
    have q_18 := xE17 _ _ q_12
    have q_19 := xE17 _ _ q_13
    refine g_iinc (n := 1) (v := (i2 + (1 : Int32))) (ls' := [(2, .int (i2 + (1 : Int32))), (0, .ref a0), (1, .ref a1)]) hF 2 rfl rfl (by rw [hn]; decide) rfl dX10_bindings_52 ?_
    refine g_goto (tgt := 16) hF dX10_bindings_55 (by decide) ?_
    cases h
    exact gG_sub [1, 2, 0] rfl (hN _ _ _ _ rfl X17 W17 (by omega) (by omega))
theorem t_X10_bindings_L16 {Z : gZ} {d mc ms : Nat} {Acc : Option Value → (Nat → Nat) → gT → gM → Prop} {AccX : Nat → (Nat → Nat) → gT → gM → Prop} {K KS : Nat} {a0 : Nat} {a1 : Nat} (hF : gFix Z cX10_bindings RX10 "bindings" (some (.array (.array .int))) d mc ms Acc AccX) (hn : Z.2.2.2.2.2.1 = 4) (hd : 12 ≤ d) : ∀ (n9 : Nat) {ad : Nat → Nat} {x0 : Int32 × gT × gM} {e0 : gT × gM} {ce so c9 s9 : Nat}, gloopc (fun x : Int32 × gT × gM => f_X10_bindings_B16 x.2.1 x.2.2 a0 a1 x.1) n9 x0 = some (e0, c9, s9) → ce + c9 + K ≤ mc → so + s9 + KS ≤ ms → ∀ (hE : ∀ (e9 : gT × gM) (ad1 : Nat → Nat) (ce1 so1 : Nat), e0 = e9 → gExt x0.2.1 e9.1 → (∀ a : Nat, a < x0.2.1.length → ad1 a = ad a) → ce1 + K ≤ mc → so1 + KS ≤ ms → gG Z ad1 e9.1 e9.2 ce1 so1 58 [(1, .ref a1)] []), gG Z ad x0.2.1 x0.2.2 ce so 16 [(0, .ref a0), (1, .ref a1), (2, .int x0.1)] []
  | 0 => fun h => nomatch h
  | n9 + 1 => fun h hk1 hk2 hE => by
    rcases gloopc_sp h with hB | ⟨a9, c1, s1, c2, s2, hB, h2, e1, e2⟩
    · exact t_X10_bindings_B16 (K := K) (KS := KS) hF hn hd hk1 hk2 hB (fun e9 ad1 ce1 so1 q9 => hE e9 ad1 ce1 so1 (Sum.inl.inj q9)) (fun n8 ad1 ce1 so1 q9 => nomatch q9)
    · exact t_X10_bindings_B16 (K := c2 + K) (KS := s2 + KS) hF hn hd (by omega) (by omega) hB (fun e9 ad1 ce1 so1 q9 => nomatch q9) (fun n8 ad1 ce1 so1 q9 x9 y9 k1 k2 => by rw [← Sum.inr.inj q9] at x9 ⊢; exact t_X10_bindings_L16 (K := K) (KS := KS) hF hn hd n9 h2 (by omega) (by omega) (fun e9 ad2 ce2 so2 q8 x2 y2 => hE e9 ad2 ce2 so2 q8 (gExt.tr x9 x2) (gad_call y2 x9 y9)))
theorem t_X10_bindings {Z : gZ} {d mc ms : Nat} {Acc : Option Value → (Nat → Nat) → gT → gM → Prop} {AccX : Nat → (Nat → Nat) → gT → gM → Prop} {ad : Nat → Nat} {T : gT} {M : gM} {ce so c9 s9 : Nat} {m_a0 : Nat} {a0 : Nat} {o : Nat × gT × gM} (hF : gFix Z cX10_bindings RX10 "bindings" (some (.array (.array .int))) d mc ms Acc AccX) (hn : Z.2.2.2.2.2.1 = 4) (hd : 12 ≤ d) (hk1 : ce + c9 ≤ mc) (hk2 : so + s9 ≤ ms) (q0 : T[a0]? = some (16, m_a0)) (h : f_X10_bindings T M a0 = some (o, c9, s9)) (hR : ∀ ad1 : Nat → Nat, gExt T o.2.1 → (∀ a : Nat, a < T.length → ad1 a = ad a) → Acc (some (.ref o.1)) ad1 o.2.1 o.2.2) : gG Z ad T M ce so 0 [(0, .ref a0)] [] := by
  unfold f_X10_bindings at h
  refine g_aload_n hF 0 rfl rfl dX10_bindings_0 ?_
  obtain ⟨b20, h20, h⟩ := gbnd h
  obtain ⟨g20, l20, q_b20⟩ := ldr_sp h20
  refine g_get_r hF g20 fl_RX10_15 q0 dX10_bindings_1 ?_
  refine g_alenA hF q_b20 (by decide) dX10_bindings_4 ?_
  refine g_aload_n hF 0 rfl rfl dX10_bindings_5 ?_
  refine g_get_i hF fl_RX10_24 q0 dX10_bindings_6 ?_
  obtain ⟨x21, h21, h⟩ := gbnd h
  obtain ⟨c21, s21, h, ec21, es21⟩ := cadd_sp h
  obtain ⟨n21a, n21b, n21c, n21d, n21h⟩ := gnewmI_sp h21
  refine g_multi hF n21a n21b rfl rfl n21c n21d kw_615 kw_167 n21h (gOld_r (gT_lt q0) gOld_0) gOld_0 (by omega) (by omega) dX10_bindings_9 (fun ad21 y21 => ?_)
  have X21 := gExt.tr gExt.rf (gnewm_ext n21h)
  have W21 := gad_call y21 gExt.rf (fun _ _ => rfl)
  have q_22 := (gnewm_ext n21h) _ _ q0
  have q_y21 := gnewm_at n21h
  refine g_astore_n (ls' := [(1, .ref x21.1), (0, .ref a0)]) hF rfl (by rw [hn]; decide) rfl dX10_bindings_13 ?_
  refine g_iconst (v := (0 : Int32)) hF rfl dX10_bindings_14 ?_
  refine g_istore_n (ls' := [(2, .int (0 : Int32)), (1, .ref x21.1), (0, .ref a0)]) hF rfl (by rw [hn]; decide) rfl dX10_bindings_15 ?_
  obtain ⟨x23, h23, h⟩ := gbnd h
  obtain ⟨c23, s23, h, ec23, es23⟩ := cadd_sp h
  refine gG_sub [2, 1, 0] rfl (t_X10_bindings_L16 (K := c23) (KS := s23) hF hn hd gFU (trip h23) (by omega) (by omega) (fun e23 adE23 ceE23 soE23 qE23 xE23 yE23 kE23 kS23 => ?_))
  subst qE23
  have X23 := gExt.tr X21 xE23
  have W23 := gad_call yE23 X21 W21
  have q_24 := xE23 _ _ q_y21
  have q_25 := xE23 _ _ q_22
  refine g_aload_n hF 0 rfl rfl dX10_bindings_58 ?_
  cases h
  exact g_ret_a hF rfl (Or.inr ⟨_, rfl⟩) dX10_bindings_59 (hR adE23 X23 W23) (by omega) (by omega)
theorem c_X10_bindings {d : Nat} {T : gT} {M : gM} {c9 s9 : Nat} {m_a0 : Nat} {a0 : Nat} {o : Nat × gT × gM} (hd : 12 ≤ d) (q0 : T[a0]? = some (16, m_a0)) (h : f_X10_bindings T M a0 = some (o, c9, s9)) : gRet d yX10_bindings cX10_bindings 4 (some (.array (.array .int))) c9 s9 [.ref a0] T M (gMade T (some (.ref o.1)) o.2.1 o.2.2) := by
  refine gRet_of (own := RX10) (by decide) rfl (Nat.le_of_ble_eq_true rfl) (fun Z ad0 hn h0 hF => ?_)
  exact t_X10_bindings (ce := 0) (so := 0) hF hn hd (by omega) (by omega) q0 h (fun ad1 x1 y1 => ⟨rfl, rfl, rfl, x1, y1⟩)
theorem t_L_with_B9 {Z : gZ} {d mc ms : Nat} {Acc : Option Value → (Nat → Nat) → gT → gM → Prop} {AccX : Nat → (Nat → Nat) → gT → gM → Prop} {ad : Nat → Nat} {T : gT} {M : gM} {ce so : Nat} {m_a0 m_a2 : Nat} {a0 : Nat} {i1 : Int32} {a2 : Nat} {i3 : Int32} {o : (gM) ⊕ (Int32 × gM)} (hF : gFix Z cL_with RL "with" (some (.array .int)) d mc ms Acc AccX) (hn : Z.2.2.2.2.2.1 = 4) (hd : 1 ≤ d) (hk1 : ce ≤ mc) (hk2 : so ≤ ms) (q0 : T[a0]? = some (11, m_a0)) (q2 : T[a2]? = some (11, m_a2)) (h : f_L_with_B9 T M a0 i1 a2 i3 = some o) (hE : ∀ e9, o = .inl e9 → gG Z ad T e9 ce so 27 [(0, .ref a0), (1, .int i1), (2, .ref a2)] []) (hN : ∀ n9, o = .inr n9 → gG Z ad T n9.2 ce so 9 [(0, .ref a0), (1, .int i1), (2, .ref a2), (3, .int n9.1)] []) : gG Z ad T M ce so 9 [(0, .ref a0), (1, .int i1), (2, .ref a2), (3, .int i3)] [] := by
  unfold f_L_with_B9 at h
  refine g_iload_n hF 3 rfl rfl dL_with_9 ?_
  refine g_aload_n hF 0 rfl rfl dL_with_10 ?_
  refine g_alenA hF q0 (by decide) dL_with_11 ?_
  refine g_icmp_ge (tgt := 27) hF dL_with_12 (by decide) (fun c1 => ?_) (fun c1 => ?_)
  · replace h := gif_t c1 h
    exact gG_sub [0, 1, 2] rfl (hE _ (Option.some.inj h).symm)
  · replace h := gif_f c1 h
    refine g_aload_n hF 2 rfl rfl dL_with_15 ?_
    refine g_iload_n hF 3 rfl rfl dL_with_16 ?_
    refine g_aload_n hF 0 rfl rfl dL_with_17 ?_
    refine g_iload_n hF 3 rfl rfl dL_with_18 ?_
    obtain ⟨v2, h2, h⟩ := gbnd h
    obtain ⟨i2h, e2v⟩ := ald_sp q0 h2
    refine g_iald hF q0 i2h dL_with_19 ?_
    rw [← e2v]
    obtain ⟨M3, h3, h⟩ := gbnd h
    obtain ⟨i3h, e3v⟩ := ast_sp q2 h3
    refine g_iast hF q2 i3h dL_with_20 ?_
    rw [← e3v]
    refine g_iinc (n := 1) (v := (i3 + (1 : Int32))) (ls' := [(3, .int (i3 + (1 : Int32))), (0, .ref a0), (1, .int i1), (2, .ref a2)]) hF 3 rfl rfl (by rw [hn]; decide) rfl dL_with_21 ?_
    refine g_goto (tgt := 9) hF dL_with_24 (by decide) ?_
    exact gG_sub [1, 2, 3, 0] rfl (hN _ (Option.some.inj h).symm)
theorem t_L_with_L9 {Z : gZ} {d mc ms : Nat} {Acc : Option Value → (Nat → Nat) → gT → gM → Prop} {AccX : Nat → (Nat → Nat) → gT → gM → Prop} {ad : Nat → Nat} {T : gT} {M : gM} {ce so : Nat} {m_a0 m_a2 : Nat} {a0 : Nat} {i1 : Int32} {a2 : Nat} {i3 : Int32} {o : gM} (hF : gFix Z cL_with RL "with" (some (.array .int)) d mc ms Acc AccX) (hn : Z.2.2.2.2.2.1 = 4) (hd : 1 ≤ d) (hk1 : ce ≤ mc) (hk2 : so ≤ ms) (q0 : T[a0]? = some (11, m_a0)) (q2 : T[a2]? = some (11, m_a2)) (h : gloop (fun x => f_L_with_B9 T x.2 a0 i1 a2 x.1) gFU (i3, M) = some o) (hE : gG Z ad T o ce so 27 [(0, .ref a0), (1, .int i1), (2, .ref a2)] []) : gG Z ad T M ce so 9 [(0, .ref a0), (1, .int i1), (2, .ref a2), (3, .int i3)] [] := by
  refine gloop_ind (P := fun x0 : Int32 × gM => gG Z ad T x0.2 ce so 9 [(0, .ref a0), (1, .int i1), (2, .ref a2), (3, .int x0.1)] []) (e := o) (fun x0 y hy hl hr => ?_) gFU (i3, M) h
  exact t_L_with_B9 hF hn hd hk1 hk2 q0 q2 hy (fun e9 q9 => by rw [hl _ q9]; exact hE) (fun n9 q9 => hr n9 q9)
theorem t_L_with {Z : gZ} {d mc ms : Nat} {Acc : Option Value → (Nat → Nat) → gT → gM → Prop} {AccX : Nat → (Nat → Nat) → gT → gM → Prop} {ad : Nat → Nat} {T : gT} {M : gM} {ce so c9 s9 : Nat} {m_a0 : Nat} {a0 : Nat} {i1 : Int32} {o : Nat × gT × gM} (hF : gFix Z cL_with RL "with" (some (.array .int)) d mc ms Acc AccX) (hn : Z.2.2.2.2.2.1 = 4) (hd : 1 ≤ d) (hk1 : ce + c9 ≤ mc) (hk2 : so + s9 ≤ ms) (q0 : T[a0]? = some (11, m_a0)) (h : f_L_with T M a0 i1 = some (o, c9, s9)) (hR : ∀ ad1 : Nat → Nat, gExt T o.2.1 → (∀ a : Nat, a < T.length → ad1 a = ad a) → Acc (some (.ref o.1)) ad1 o.2.1 o.2.2) : gG Z ad T M ce so 0 [(0, .ref a0), (1, .int i1)] [] := by
  unfold f_L_with at h
  refine g_aload_n hF 0 rfl rfl dL_with_0 ?_
  refine g_alenA hF q0 (by decide) dL_with_1 ?_
  refine g_iconst (v := (1 : Int32)) hF rfl dL_with_2 ?_
  refine g_iadd hF dL_with_3 ?_
  obtain ⟨x4, h4, h⟩ := gbnd h
  obtain ⟨c4, s4, h, ec4, es4⟩ := cadd_sp h
  obtain ⟨n40, n41, n4h⟩ := gnewa_sp h4
  refine g_newa_int hF n40 rfl n41 kw_167 n4h (gnew_lt n4h) (gFr_r (gT_ne q0) (gFr_i gFr_0)) gFr_0 (by omega) (by omega) dL_with_4 (fun ad4 z4 => ?_)
  have y4 : ∀ b : Nat, b < T.length → ad4 b = ad b := fun b hb => z4 b (by rw [(gnew_sp n4h).1]; omega)
  have X4 := gExt.tr gExt.rf (gnew_ext n4h)
  have W4 := gad_call y4 gExt.rf (fun _ _ => rfl)
  have q_5 := (gnew_ext n4h) _ _ q0
  have q_y4 := gnew_at n4h
  refine g_astore_n (ls' := [(2, .ref x4.1), (0, .ref a0), (1, .int i1)]) hF rfl (by rw [hn]; decide) rfl dL_with_6 ?_
  refine g_iconst (v := (0 : Int32)) hF rfl dL_with_7 ?_
  refine g_istore_n (ls' := [(3, .int (0 : Int32)), (2, .ref x4.1), (0, .ref a0), (1, .int i1)]) hF rfl (by rw [hn]; decide) rfl dL_with_8 ?_
  obtain ⟨x6, h6, h⟩ := gbnd h
  refine gG_sub [2, 3, 1, 0] rfl (t_L_with_L9 hF hn hd (by omega) (by omega) q_5 q_y4 h6 ?_)
  refine g_aload_n hF 2 rfl rfl dL_with_27 ?_
  refine g_aload_n hF 0 rfl rfl dL_with_28 ?_
  refine g_alenA hF q_5 (by decide) dL_with_29 ?_
  refine g_iload_n hF 1 rfl rfl dL_with_30 ?_
  obtain ⟨M7, h7, h⟩ := gbnd h
  obtain ⟨i7h, e7v⟩ := ast_sp q_y4 h7
  refine g_iast hF q_y4 i7h dL_with_31 ?_
  rw [← e7v]
  refine g_aload_n hF 2 rfl rfl dL_with_32 ?_
  cases h
  exact g_ret_a hF rfl (Or.inr ⟨_, rfl⟩) dL_with_33 (hR ad4 X4 W4) (by omega) (by omega)
theorem c_L_with {d : Nat} {T : gT} {M : gM} {c9 s9 : Nat} {m_a0 : Nat} {a0 : Nat} {i1 : Int32} {o : Nat × gT × gM} (hd : 1 ≤ d) (q0 : T[a0]? = some (11, m_a0)) (h : f_L_with T M a0 i1 = some (o, c9, s9)) : gRet d yL_with cL_with 4 (some (.array .int)) c9 s9 [.ref a0, .int i1] T M (gMade T (some (.ref o.1)) o.2.1 o.2.2) := by
  refine gRet_of (own := RL) (by decide) rfl (Nat.le_of_ble_eq_true rfl) (fun Z ad0 hn h0 hF => ?_)
  exact t_L_with (ce := 0) (so := 0) hF hn hd (by omega) (by omega) q0 h (fun ad1 x1 y1 => ⟨rfl, rfl, rfl, x1, y1⟩)
theorem t_X10_call_B14 {Z : gZ} {d mc ms : Nat} {Acc : Option Value → (Nat → Nat) → gT → gM → Prop} {AccX : Nat → (Nat → Nat) → gT → gM → Prop} {ad : Nat → Nat} {T : gT} {M : gM} {ce so c9 s9 K KS : Nat}  {a0 : Nat} {a1 : Nat} {a4 : Nat} {i5 : Int32} {i6 : Int32} {i7 : Int32} {o : (Nat × gT × gM) ⊕ (Nat × Int32 × Int32 × Int32 × gT × gM)} (hF : gFix Z cX10_call RX10 "call" (some (.array .int)) d mc ms Acc AccX) (hn : Z.2.2.2.2.2.1 = 10) (hd : 2 ≤ d) (hk1 : ce + c9 + K ≤ mc) (hk2 : so + s9 + KS ≤ ms)  (h : f_X10_call_B14 T M a0 a1 a4 i5 i6 i7 = some (o, c9, s9)) (hR : ∀ r9, o = .inl r9 → ∀ ad1 : Nat → Nat, gExt T r9.2.1 → (∀ a : Nat, a < T.length → ad1 a = ad a) → Acc (some (.ref r9.1)) ad1 r9.2.1 r9.2.2) (hN : ∀ (n9 : Nat × Int32 × Int32 × Int32 × gT × gM) (ad1 : Nat → Nat) (ce1 so1 : Nat), o = .inr n9 → gExt T n9.2.2.2.2.1 → (∀ a : Nat, a < T.length → ad1 a = ad a) → ce1 + K ≤ mc → so1 + KS ≤ ms → gG Z ad1 n9.2.2.2.2.1 n9.2.2.2.2.2 ce1 so1 14 [(0, .ref a0), (1, .ref a1), (4, .ref n9.1), (5, .int n9.2.1), (6, .int n9.2.2.1), (7, .int n9.2.2.2.1)] []) : gG Z ad T M ce so 14 [(0, .ref a0), (1, .ref a1), (4, .ref a4), (5, .int i5), (6, .int i6), (7, .int i7)] [] := by
  unfold f_X10_call_B14 at h
  obtain ⟨_, h1, h⟩ := gbnd h
  obtain ⟨l1, q_1⟩ := gkd_sp h1
  obtain ⟨_, h2, h⟩ := gbnd h
  obtain ⟨l2, q_2⟩ := gkd_sp h2
  obtain ⟨_, h3, h⟩ := gbnd h
  obtain ⟨l3, q_3⟩ := gkd_sp h3
  refine g_aload hF 2 rfl dX10_call_14 ?_
  refine g_bipush (v := (100 : Int32)) hF rfl dX10_call_16 ?_
  refine g_iload hF 3 rfl dX10_call_18 ?_
  refine g_imul hF dX10_call_20 ?_
  refine g_iload hF 4 rfl dX10_call_21 ?_
  refine g_iadd hF dX10_call_23 ?_
  obtain ⟨x7, h7, h⟩ := gbnd h
  refine g_callSN hF my_L_has kn_592 kw_593 (c_L_has (d := d - 1) (by omega) q_3 h7) (by omega) (by omega) (by omega) rfl rfl (Nat.le_of_ble_eq_true rfl) dX10_call_24 (g_sameS ?_)
  refine g_if_ne (tgt := 123) hF dX10_call_27 (by decide) (fun c8 => ?_) (fun c8 => ?_)
  · replace h := gif_t c8 h
    refine g_iconst (v := (2 : Int32)) hF rfl dX10_call_123 ?_
    obtain ⟨x9, h9, h⟩ := gbnd h
    obtain ⟨c9, s9, h, ec9, es9⟩ := cadd_sp h
    have g9 : gnew T M (11, 2) = some (x9.1, x9.2.1, x9.2.2) := h9
    refine g_newa_int (N := 2) hF (by decide) (by decide) (by decide) kw_167 g9 (gnew_lt g9) (gFr_r (gT_ne q_1) (gFr_r (gT_ne q_2) (gFr_r (gT_ne q_3) (gFr_i (gFr_i (gFr_i gFr_0)))))) gFr_0 (by omega) (by omega) dX10_call_124 (fun ad9 z9 => ?_)
    have y9 : ∀ b : Nat, b < T.length → ad9 b = ad b := fun b hb => z9 b (by rw [(gnew_sp g9).1]; omega)
    have X9 := gExt.tr gExt.rf (gnew_ext g9)
    have W9 := gad_call y9 gExt.rf (fun _ _ => rfl)
    have q_10 := (gnew_ext g9) _ _ q_1
    have q_11 := (gnew_ext g9) _ _ q_2
    have q_12 := (gnew_ext g9) _ _ q_3
    have q_y9 := gnew_at g9
    refine g_dup hF rfl dX10_call_126 ?_
    refine g_iconst (v := (0 : Int32)) hF rfl dX10_call_127 ?_
    refine g_bipush (v := (-2 : Int32)) hF rfl dX10_call_128 ?_
    obtain ⟨M13, h13, h⟩ := gbnd h
    obtain ⟨i13h, e13v⟩ := ast_sp q_y9 h13
    refine g_iast hF q_y9 i13h dX10_call_130 ?_
    rw [← e13v]
    refine g_dup hF rfl dX10_call_131 ?_
    refine g_iconst (v := (1 : Int32)) hF rfl dX10_call_132 ?_
    refine g_iload hF 5 rfl dX10_call_133 ?_
    obtain ⟨M14, h14, h⟩ := gbnd h
    obtain ⟨i14h, e14v⟩ := ast_sp q_y9 h14
    refine g_iast hF q_y9 i14h dX10_call_135 ?_
    rw [← e14v]
    cases h
    exact g_ret_a hF rfl (Or.inr ⟨_, rfl⟩) dX10_call_136 ((hR _ rfl) ad9 X9 W9) (by omega) (by omega)
  · replace h := gif_n c8 h
    refine g_aload hF 2 rfl dX10_call_30 ?_
    refine g_bipush (v := (100 : Int32)) hF rfl dX10_call_32 ?_
    refine g_iload hF 3 rfl dX10_call_34 ?_
    refine g_imul hF dX10_call_36 ?_
    refine g_iload hF 4 rfl dX10_call_37 ?_
    refine g_iadd hF dX10_call_39 ?_
    obtain ⟨x15, h15, h⟩ := gbnd h
    obtain ⟨c15, s15, h, ec15, es15⟩ := cadd_sp h
    refine g_callSN hF my_L_with kn_1465 kw_1100 (c_L_with (d := d - 1) (by omega) q_3 (trip h15)) (by omega) (by omega) (by omega) rfl rfl (Nat.le_of_ble_eq_true rfl) dX10_call_40 (g_madeS (gOld_r (gT_lt q_1) (gOld_r (gT_lt q_2) (gOld_r (gT_lt q_3) (gOld_i (gOld_i (gOld_i gOld_0)))))) gOld_0 (fun ad15 e15 y15 => ?_))
    have X15 := gExt.tr gExt.rf e15
    have W15 := gad_call y15 gExt.rf (fun _ _ => rfl)
    have q_16 := e15 _ _ q_1
    have q_17 := e15 _ _ q_2
    have q_18 := e15 _ _ q_3
    obtain ⟨_, h19, h⟩ := gbnd h
    obtain ⟨l19, q_19⟩ := gkd_sp h19
    refine g_astore (ls' := [(4, .ref x15.1.1), (0, .ref a0), (1, .ref a1), (5, .int i5), (6, .int i6), (7, .int i7)]) hF (by rw [hn]; decide) rfl dX10_call_43 ?_
    refine g_aload_n hF 2 rfl rfl dX10_call_45 ?_
    refine g_iload hF 3 rfl dX10_call_46 ?_
    obtain ⟨b20, h20, h⟩ := gbnd h
    obtain ⟨i20h, g20, l20, q_b20⟩ := aldr_sp q_17 h20
    refine g_aald2 hF q_17 i20h g20 dX10_call_48 ?_
    refine g_iload hF 4 rfl dX10_call_49 ?_
    obtain ⟨v21, h21, h⟩ := gbnd h
    obtain ⟨i21h, e21v⟩ := ald_sp q_b20 h21
    refine g_iald hF q_b20 i21h dX10_call_51 ?_
    rw [← e21v]
    refine g_istore (ls' := [(8, .int v21), (4, .ref x15.1.1), (0, .ref a0), (1, .ref a1), (5, .int i5), (6, .int i6), (7, .int i7)]) hF (by rw [hn]; decide) rfl dX10_call_52 ?_
    refine g_iload hF 0 rfl dX10_call_54 ?_
    refine g_if_ge (tgt := 72) hF dX10_call_56 (by decide) (fun c22 => ?_) (fun c22 => ?_)
    · replace h := gif_t c22 h
      refine g_iinc (n := 1) (v := (i7 + (1 : Int32))) (ls' := [(7, .int (i7 + (1 : Int32))), (8, .int v21), (4, .ref x15.1.1), (0, .ref a0), (1, .ref a1), (5, .int i5), (6, .int i6)]) hF 6 rfl rfl (by rw [hn]; decide) rfl dX10_call_72 ?_
      refine g_aload_n hF 3 rfl rfl dX10_call_75 ?_
      obtain ⟨b23, h23, h⟩ := gbnd h
      obtain ⟨g23, l23, q_b23⟩ := ldr_sp h23
      refine g_get_r hF g23 fl_RX10_15 q_16 dX10_call_76 ?_
      refine g_iload hF 1 rfl dX10_call_79 ?_
      obtain ⟨b24, h24, h⟩ := gbnd h
      obtain ⟨i24h, g24, l24, q_b24⟩ := aldr_sp q_b23 h24
      refine g_aald hF q_b23 (Or.inr (Or.inr (Or.inl ⟨rfl, rfl⟩))) i24h g24 dX10_call_81 ?_
      obtain ⟨b25, h25, h⟩ := gbnd h
      obtain ⟨g25, l25, q_b25⟩ := ldr_sp h25
      refine g_get_r hF g25 fl_RX10_72 q_b24 dX10_call_82 ?_
      refine g_iload hF 6 rfl dX10_call_85 ?_
      obtain ⟨v26, h26, h⟩ := gbnd h
      obtain ⟨i26h, e26v⟩ := ald_sp q_b25 h26
      refine g_iald hF q_b25 i26h dX10_call_87 ?_
      rw [← e26v]
      refine g_istore (ls' := [(9, .int v26), (7, .int (i7 + (1 : Int32))), (8, .int v21), (4, .ref x15.1.1), (0, .ref a0), (1, .ref a1), (5, .int i5), (6, .int i6)]) hF (by rw [hn]; decide) rfl dX10_call_88 ?_
      refine g_iload hF 0 rfl dX10_call_90 ?_
      refine g_if_lt (tgt := 109) hF dX10_call_92 (by decide) (fun c27 => ?_) (fun c27 => ?_)
      · replace h := gif_t c27 h
        refine g_iload hF 2 rfl dX10_call_109 ?_
        refine g_istore (ls' := [(5, .int v21), (9, .int v26), (7, .int (i7 + (1 : Int32))), (8, .int v21), (4, .ref x15.1.1), (0, .ref a0), (1, .ref a1), (6, .int i6)]) hF (by rw [hn]; decide) rfl dX10_call_111 ?_
        refine g_bipush (v := (-2 : Int32)) hF rfl dX10_call_113 ?_
        refine g_iload hF 1 rfl dX10_call_115 ?_
        refine g_isub hF dX10_call_117 ?_
        refine g_istore (ls' := [(6, .int ((-2 : Int32) - v26)), (5, .int v21), (9, .int v26), (7, .int (i7 + (1 : Int32))), (8, .int v21), (4, .ref x15.1.1), (0, .ref a0), (1, .ref a1)]) hF (by rw [hn]; decide) rfl dX10_call_118 ?_
        refine g_goto (tgt := 14) hF dX10_call_120 (by decide) ?_
        cases h
        exact gG_sub [6, 7, 5, 1, 0, 3] rfl (hN _ _ _ _ rfl X15 W15 (by omega) (by omega))
      · replace h := gif_f c27 h
        refine g_iconst (v := (2 : Int32)) hF rfl dX10_call_95 ?_
        obtain ⟨x28, h28, h⟩ := gbnd h
        obtain ⟨c28, s28, h, ec28, es28⟩ := cadd_sp h
        have g28 : gnew x15.1.2.1 x15.1.2.2 (11, 2) = some (x28.1, x28.2.1, x28.2.2) := h28
        refine g_newa_int (N := 2) hF (by decide) (by decide) (by decide) kw_167 g28 (gnew_lt g28) (gFr_i (gFr_i (gFr_i (gFr_r (gT_ne q_19) (gFr_r (gT_ne q_16) (gFr_r (gT_ne q_17) (gFr_i (gFr_i gFr_0)))))))) gFr_0 (by omega) (by omega) dX10_call_96 (fun ad28 z28 => ?_)
        have y28 : ∀ b : Nat, b < x15.1.2.1.length → ad28 b = ad15 b := fun b hb => z28 b (by rw [(gnew_sp g28).1]; omega)
        have X28 := gExt.tr X15 (gnew_ext g28)
        have W28 := gad_call y28 X15 W15
        have q_29 := (gnew_ext g28) _ _ q_19
        have q_30 := (gnew_ext g28) _ _ q_16
        have q_31 := (gnew_ext g28) _ _ q_17
        have q_y28 := gnew_at g28
        refine g_dup hF rfl dX10_call_98 ?_
        refine g_iconst (v := (0 : Int32)) hF rfl dX10_call_99 ?_
        refine g_iload hF 0 rfl dX10_call_100 ?_
        obtain ⟨M32, h32, h⟩ := gbnd h
        obtain ⟨i32h, e32v⟩ := ast_sp q_y28 h32
        refine g_iast hF q_y28 i32h dX10_call_102 ?_
        rw [← e32v]
        refine g_dup hF rfl dX10_call_103 ?_
        refine g_iconst (v := (1 : Int32)) hF rfl dX10_call_104 ?_
        refine g_iload hF 1 rfl dX10_call_105 ?_
        obtain ⟨M33, h33, h⟩ := gbnd h
        obtain ⟨i33h, e33v⟩ := ast_sp q_y28 h33
        refine g_iast hF q_y28 i33h dX10_call_107 ?_
        rw [← e33v]
        cases h
        exact g_ret_a hF rfl (Or.inr ⟨_, rfl⟩) dX10_call_108 ((hR _ rfl) ad28 X28 W28) (by omega) (by omega)
    · replace h := gif_f c22 h
      refine g_iconst (v := (2 : Int32)) hF rfl dX10_call_59 ?_
      obtain ⟨x34, h34, h⟩ := gbnd h
      obtain ⟨c34, s34, h, ec34, es34⟩ := cadd_sp h
      have g34 : gnew x15.1.2.1 x15.1.2.2 (11, 2) = some (x34.1, x34.2.1, x34.2.2) := h34
      refine g_newa_int (N := 2) hF (by decide) (by decide) (by decide) kw_167 g34 (gnew_lt g34) (gFr_i (gFr_r (gT_ne q_19) (gFr_r (gT_ne q_16) (gFr_r (gT_ne q_17) (gFr_i (gFr_i (gFr_i gFr_0))))))) gFr_0 (by omega) (by omega) dX10_call_60 (fun ad34 z34 => ?_)
      have y34 : ∀ b : Nat, b < x15.1.2.1.length → ad34 b = ad15 b := fun b hb => z34 b (by rw [(gnew_sp g34).1]; omega)
      have X34 := gExt.tr X15 (gnew_ext g34)
      have W34 := gad_call y34 X15 W15
      have q_35 := (gnew_ext g34) _ _ q_19
      have q_36 := (gnew_ext g34) _ _ q_16
      have q_37 := (gnew_ext g34) _ _ q_17
      have q_y34 := gnew_at g34
      refine g_dup hF rfl dX10_call_62 ?_
      refine g_iconst (v := (0 : Int32)) hF rfl dX10_call_63 ?_
      refine g_iconst (v := (-1 : Int32)) hF rfl dX10_call_64 ?_
      obtain ⟨M38, h38, h⟩ := gbnd h
      obtain ⟨i38h, e38v⟩ := ast_sp q_y34 h38
      refine g_iast hF q_y34 i38h dX10_call_65 ?_
      rw [← e38v]
      refine g_dup hF rfl dX10_call_66 ?_
      refine g_iconst (v := (1 : Int32)) hF rfl dX10_call_67 ?_
      refine g_iload hF 6 rfl dX10_call_68 ?_
      obtain ⟨M39, h39, h⟩ := gbnd h
      obtain ⟨i39h, e39v⟩ := ast_sp q_y34 h39
      refine g_iast hF q_y34 i39h dX10_call_70 ?_
      rw [← e39v]
      cases h
      exact g_ret_a hF rfl (Or.inr ⟨_, rfl⟩) dX10_call_71 ((hR _ rfl) ad34 X34 W34) (by omega) (by omega)
theorem t_X10_call_L14 {Z : gZ} {d mc ms : Nat} {Acc : Option Value → (Nat → Nat) → gT → gM → Prop} {AccX : Nat → (Nat → Nat) → gT → gM → Prop} {K KS : Nat} {a0 : Nat} {a1 : Nat} (hF : gFix Z cX10_call RX10 "call" (some (.array .int)) d mc ms Acc AccX) (hn : Z.2.2.2.2.2.1 = 10) (hd : 2 ≤ d) : ∀ (n9 : Nat) {ad : Nat → Nat} {x0 : Nat × Int32 × Int32 × Int32 × gT × gM} {e0 : Nat × gT × gM} {ce so c9 s9 : Nat}, gloopc (fun x : Nat × Int32 × Int32 × Int32 × gT × gM => f_X10_call_B14 x.2.2.2.2.1 x.2.2.2.2.2 a0 a1 x.1 x.2.1 x.2.2.1 x.2.2.2.1) n9 x0 = some (e0, c9, s9) → ce + c9 + K ≤ mc → so + s9 + KS ≤ ms → ∀ (hR : ∀ r9, e0 = r9 → ∀ ad1 : Nat → Nat, gExt x0.2.2.2.2.1 r9.2.1 → (∀ a : Nat, a < x0.2.2.2.2.1.length → ad1 a = ad a) → Acc (some (.ref r9.1)) ad1 r9.2.1 r9.2.2), gG Z ad x0.2.2.2.2.1 x0.2.2.2.2.2 ce so 14 [(0, .ref a0), (1, .ref a1), (4, .ref x0.1), (5, .int x0.2.1), (6, .int x0.2.2.1), (7, .int x0.2.2.2.1)] []
  | 0 => fun h => nomatch h
  | n9 + 1 => fun h hk1 hk2 hR => by
    rcases gloopc_sp h with hB | ⟨a9, c1, s1, c2, s2, hB, h2, e1, e2⟩
    · exact t_X10_call_B14 (K := K) (KS := KS) hF hn hd hk1 hk2 hB (fun r9 q9 => hR r9 (Sum.inl.inj q9)) (fun n8 ad1 ce1 so1 q9 => nomatch q9)
    · exact t_X10_call_B14 (K := c2 + K) (KS := s2 + KS) hF hn hd (by omega) (by omega) hB (fun r9 q9 => nomatch q9) (fun n8 ad1 ce1 so1 q9 x9 y9 k1 k2 => by rw [← Sum.inr.inj q9] at x9 ⊢; exact t_X10_call_L14 (K := K) (KS := KS) hF hn hd n9 h2 (by omega) (by omega) (fun r9 q8 ad2 x2 y2 => hR r9 q8 ad2 (gExt.tr x9 x2) (gad_call y2 x9 y9)))
theorem t_X10_call {Z : gZ} {d mc ms : Nat} {Acc : Option Value → (Nat → Nat) → gT → gM → Prop} {AccX : Nat → (Nat → Nat) → gT → gM → Prop} {ad : Nat → Nat} {T : gT} {M : gM} {ce so c9 s9 : Nat} {m_a0 m_a1 : Nat} {a0 : Nat} {a1 : Nat} {i2 : Int32} {i3 : Int32} {o : Nat × gT × gM} (hF : gFix Z cX10_call RX10 "call" (some (.array .int)) d mc ms Acc AccX) (hn : Z.2.2.2.2.2.1 = 10) (hd : 2 ≤ d) (hk1 : ce + c9 ≤ mc) (hk2 : so + s9 ≤ ms) (q0 : T[a0]? = some (16, m_a0)) (q1 : T[a1]? = some (15, m_a1)) (h : f_X10_call T M a0 a1 i2 i3 = some (o, c9, s9)) (hR : ∀ ad1 : Nat → Nat, gExt T o.2.1 → (∀ a : Nat, a < T.length → ad1 a = ad a) → Acc (some (.ref o.1)) ad1 o.2.1 o.2.2) : gG Z ad T M ce so 0 [(0, .ref a0), (1, .ref a1), (2, .int i2), (3, .int i3)] [] := by
  unfold f_X10_call at h
  refine g_iconst (v := (0 : Int32)) hF rfl dX10_call_0 ?_
  obtain ⟨x40, h40, h⟩ := gbnd h
  obtain ⟨c40, s40, h, ec40, es40⟩ := cadd_sp h
  have g40 : gnew T M (11, 0) = some (x40.1, x40.2.1, x40.2.2) := h40
  refine g_newa_int (N := 0) hF (by decide) (by decide) (by decide) kw_167 g40 (gnew_lt g40) (gFr_r (gT_ne q0) (gFr_r (gT_ne q1) (gFr_i (gFr_i gFr_0)))) gFr_0 (by omega) (by omega) dX10_call_1 (fun ad40 z40 => ?_)
  have y40 : ∀ b : Nat, b < T.length → ad40 b = ad b := fun b hb => z40 b (by rw [(gnew_sp g40).1]; omega)
  have X40 := gExt.tr gExt.rf (gnew_ext g40)
  have W40 := gad_call y40 gExt.rf (fun _ _ => rfl)
  have q_41 := (gnew_ext g40) _ _ q0
  have q_42 := (gnew_ext g40) _ _ q1
  have q_y40 := gnew_at g40
  refine g_astore (ls' := [(4, .ref x40.1), (0, .ref a0), (1, .ref a1), (2, .int i2), (3, .int i3)]) hF (by rw [hn]; decide) rfl dX10_call_3 ?_
  refine g_iload_n hF 3 rfl rfl dX10_call_5 ?_
  refine g_istore (ls' := [(5, .int i2), (4, .ref x40.1), (0, .ref a0), (1, .ref a1), (2, .int i2), (3, .int i3)]) hF (by rw [hn]; decide) rfl dX10_call_6 ?_
  refine g_iload_n hF 5 rfl rfl dX10_call_8 ?_
  refine g_istore (ls' := [(6, .int i3), (5, .int i2), (4, .ref x40.1), (0, .ref a0), (1, .ref a1), (2, .int i2), (3, .int i3)]) hF (by rw [hn]; decide) rfl dX10_call_9 ?_
  refine g_iconst (v := (0 : Int32)) hF rfl dX10_call_11 ?_
  refine g_istore (ls' := [(7, .int (0 : Int32)), (6, .int i3), (5, .int i2), (4, .ref x40.1), (0, .ref a0), (1, .ref a1), (2, .int i2), (3, .int i3)]) hF (by rw [hn]; decide) rfl dX10_call_12 ?_
  obtain ⟨x43, h43, h⟩ := gbnd h
  obtain ⟨c43, s43, h, ec43, es43⟩ := cadd_sp h
  cases h
  exact gG_sub [4, 5, 3, 2, 1, 0] rfl (t_X10_call_L14 (K := 0) (KS := 0) hF hn hd gFU (trip h43) (by omega) (by omega) (fun r9 q9 => by subst q9; exact (fun ad1 x1 y1 => hR ad1 (gExt.tr X40 x1) (gad_call y1 X40 W40))))
theorem c_X10_call {d : Nat} {T : gT} {M : gM} {c9 s9 : Nat} {m_a0 m_a1 : Nat} {a0 : Nat} {a1 : Nat} {i2 : Int32} {i3 : Int32} {o : Nat × gT × gM} (hd : 2 ≤ d) (q0 : T[a0]? = some (16, m_a0)) (q1 : T[a1]? = some (15, m_a1)) (h : f_X10_call T M a0 a1 i2 i3 = some (o, c9, s9)) : gRet d yX10_call cX10_call 10 (some (.array .int)) c9 s9 [.ref a0, .ref a1, .int i2, .int i3] T M (gMade T (some (.ref o.1)) o.2.1 o.2.2) := by
  refine gRet_of (own := RX10) (by decide) rfl (Nat.le_of_ble_eq_true rfl) (fun Z ad0 hn h0 hF => ?_)
  exact t_X10_call (ce := 0) (so := 0) hF hn hd (by omega) (by omega) q0 q1 h (fun ad1 x1 y1 => ⟨rfl, rfl, rfl, x1, y1⟩)
theorem t_X10_changed_69 {Z : gZ} {d mc ms : Nat} {Acc : Option Value → (Nat → Nat) → gT → gM → Prop} {AccX : Nat → (Nat → Nat) → gT → gM → Prop} {ad : Nat → Nat} {T : gT} {M : gM} {ce so c9 s9 K KS : Nat} {m_a0 m_a1 m_a4 : Nat} {a0 : Nat} {a1 : Nat} {i2 : Int32} {i3 : Int32} {a4 : Nat} {i5 : Int32} {i6 : Int32} {i7 : Int32} {i8 : Int32} {o : (Int32 × gT × gM) ⊕ (Int32 × Int32 × gT × gM)} (hF : gFix Z cX10_changed RX10 "changed" (some .int) d mc ms Acc AccX) (hn : Z.2.2.2.2.2.1 = 9) (hd : 12 ≤ d) (hk1 : ce + c9 + K ≤ mc) (hk2 : so + s9 + KS ≤ ms) (q0 : T[a0]? = some (16, m_a0)) (q1 : T[a1]? = some (15, m_a1)) (q4 : T[a4]? = some (11, m_a4)) (h : f_X10_changed_69 T M a0 a1 i2 i3 a4 i5 i6 i7 i8 = some (o, c9, s9)) (hE : ∀ (e9 : Int32 × gT × gM) (ad1 : Nat → Nat) (ce1 so1 : Nat), o = .inl e9 → gExt T e9.2.1 → (∀ a : Nat, a < T.length → ad1 a = ad a) → ce1 + K ≤ mc → so1 + KS ≤ ms → gG Z ad1 e9.2.1 e9.2.2 ce1 so1 75 [(0, .ref a0), (1, .ref a1), (2, .int i2), (3, .int e9.1), (4, .ref a4), (5, .int i5), (6, .int i6)] []) (hN : ∀ (n9 : Int32 × Int32 × gT × gM) (ad1 : Nat → Nat) (ce1 so1 : Nat), o = .inr n9 → gExt T n9.2.2.1 → (∀ a : Nat, a < T.length → ad1 a = ad a) → ce1 + K ≤ mc → so1 + KS ≤ ms → gG Z ad1 n9.2.2.1 n9.2.2.2 ce1 so1 33 [(0, .ref a0), (1, .ref a1), (2, .int i2), (3, .int n9.1), (4, .ref a4), (5, .int i5), (6, .int i6), (7, .int i7), (8, .int n9.2.1)] []) : gG Z ad T M ce so 69 [(0, .ref a0), (1, .ref a1), (2, .int i2), (3, .int i3), (4, .ref a4), (5, .int i5), (6, .int i6), (7, .int i7), (8, .int i8)] [] := by
  unfold f_X10_changed_69 at h
  refine g_iinc (n := 1) (v := (i8 + (1 : Int32))) (ls' := [(8, .int (i8 + (1 : Int32))), (0, .ref a0), (1, .ref a1), (2, .int i2), (3, .int i3), (4, .ref a4), (5, .int i5), (6, .int i6), (7, .int i7)]) hF 8 rfl rfl (by rw [hn]; decide) rfl dX10_changed_69 ?_
  refine g_goto (tgt := 33) hF dX10_changed_72 (by decide) ?_
  cases h
  exact gG_sub [1, 2, 3, 4, 5, 6, 7, 8, 0] rfl (hN _ _ _ _ rfl gExt.rf (fun _ _ => rfl) (by omega) (by omega))
theorem t_X10_changed_B33 {Z : gZ} {d mc ms : Nat} {Acc : Option Value → (Nat → Nat) → gT → gM → Prop} {AccX : Nat → (Nat → Nat) → gT → gM → Prop} {ad : Nat → Nat} {T : gT} {M : gM} {ce so c9 s9 K KS : Nat}  {a0 : Nat} {a1 : Nat} {i2 : Int32} {i3 : Int32} {a4 : Nat} {i5 : Int32} {i6 : Int32} {i7 : Int32} {i8 : Int32} {o : (Int32 × gT × gM) ⊕ (Int32 × Int32 × gT × gM)} (hF : gFix Z cX10_changed RX10 "changed" (some .int) d mc ms Acc AccX) (hn : Z.2.2.2.2.2.1 = 9) (hd : 12 ≤ d) (hk1 : ce + c9 + K ≤ mc) (hk2 : so + s9 + KS ≤ ms)  (h : f_X10_changed_B33 T M a0 a1 i2 i3 a4 i5 i6 i7 i8 = some (o, c9, s9)) (hE : ∀ (e9 : Int32 × gT × gM) (ad1 : Nat → Nat) (ce1 so1 : Nat), o = .inl e9 → gExt T e9.2.1 → (∀ a : Nat, a < T.length → ad1 a = ad a) → ce1 + K ≤ mc → so1 + KS ≤ ms → gG Z ad1 e9.2.1 e9.2.2 ce1 so1 75 [(0, .ref a0), (1, .ref a1), (2, .int i2), (3, .int e9.1), (4, .ref a4), (5, .int i5), (6, .int i6)] []) (hN : ∀ (n9 : Int32 × Int32 × gT × gM) (ad1 : Nat → Nat) (ce1 so1 : Nat), o = .inr n9 → gExt T n9.2.2.1 → (∀ a : Nat, a < T.length → ad1 a = ad a) → ce1 + K ≤ mc → so1 + KS ≤ ms → gG Z ad1 n9.2.2.1 n9.2.2.2 ce1 so1 33 [(0, .ref a0), (1, .ref a1), (2, .int i2), (3, .int n9.1), (4, .ref a4), (5, .int i5), (6, .int i6), (7, .int i7), (8, .int n9.2.1)] []) : gG Z ad T M ce so 33 [(0, .ref a0), (1, .ref a1), (2, .int i2), (3, .int i3), (4, .ref a4), (5, .int i5), (6, .int i6), (7, .int i7), (8, .int i8)] [] := by
  unfold f_X10_changed_B33 at h
  obtain ⟨_, h1, h⟩ := gbnd h
  obtain ⟨l1, q_1⟩ := gkd_sp h1
  obtain ⟨_, h2, h⟩ := gbnd h
  obtain ⟨l2, q_2⟩ := gkd_sp h2
  obtain ⟨_, h5, h⟩ := gbnd h
  obtain ⟨l5, q_5⟩ := gkd_sp h5
  refine g_iload hF 8 rfl dX10_changed_33 ?_
  refine g_aload_n hF 0 rfl rfl dX10_changed_35 ?_
  refine g_get_i hF fl_RX10_24 q_1 dX10_changed_36 ?_
  refine g_icmp_ge (tgt := 75) hF dX10_changed_39 (by decide) (fun c10 => ?_) (fun c10 => ?_)
  · replace h := gif_t c10 h
    cases h
    exact gG_sub [0, 1, 2, 3, 4, 5, 6] rfl (hE _ _ _ _ rfl gExt.rf (fun _ _ => rfl) (by omega) (by omega))
  · replace h := gif_f c10 h
    refine g_iload hF 7 rfl dX10_changed_42 ?_
    refine g_iload_n hF 2 rfl rfl dX10_changed_44 ?_
    refine g_icmp_eq (tgt := 75) hF dX10_changed_45 (by decide) (fun c11 => ?_) (fun c11 => ?_)
    · replace h := gif_t c11 h
      cases h
      exact gG_sub [0, 1, 2, 3, 4, 5, 6] rfl (hE _ _ _ _ rfl gExt.rf (fun _ _ => rfl) (by omega) (by omega))
    · replace h := gif_f c11 h
      refine g_aload_n hF 0 rfl rfl dX10_changed_48 ?_
      refine g_iload hF 7 rfl dX10_changed_49 ?_
      refine g_iload hF 8 rfl dX10_changed_51 ?_
      obtain ⟨x12, h12, h⟩ := gbnd h
      obtain ⟨c12, s12, h, ec12, es12⟩ := cadd_sp h
      refine g_callV hF my_X10_binding kw_617 kw_618 kw_619 gC_16.1 (by decide) q_1 (c_X10_binding (d := d - 1) (by omega) q_1 (trip h12)) (by omega) (by omega) (by omega) rfl rfl (Nat.le_of_ble_eq_true rfl) dX10_changed_53 (g_madeS (gOld_r (gT_lt q_1) (gOld_r (gT_lt q_2) (gOld_i (gOld_i (gOld_r (gT_lt q_5) (gOld_i (gOld_i (gOld_i (gOld_i gOld_0))))))))) gOld_0 (fun ad12 e12 y12 => ?_))
      have X12 := gExt.tr gExt.rf e12
      have W12 := gad_call y12 gExt.rf (fun _ _ => rfl)
      have q_13 := e12 _ _ q_1
      have q_14 := e12 _ _ q_2
      have q_15 := e12 _ _ q_5
      refine g_aload_n hF 1 rfl rfl dX10_changed_56 ?_
      refine g_iload hF 7 rfl dX10_changed_57 ?_
      obtain ⟨b16, h16, h⟩ := gbnd h
      obtain ⟨i16h, g16, l16, q_b16⟩ := aldr_sp q_14 h16
      refine g_aald2 hF q_14 i16h g16 dX10_changed_59 ?_
      refine g_iload hF 8 rfl dX10_changed_60 ?_
      obtain ⟨v17, h17, h⟩ := gbnd h
      obtain ⟨i17h, e17v⟩ := ald_sp q_b16 h17
      refine g_iald hF q_b16 i17h dX10_changed_62 ?_
      rw [← e17v]
      refine g_icmp_eq (tgt := 69) hF dX10_changed_63 (by decide) (fun c18 => ?_) (fun c18 => ?_)
      · replace h := gif_t c18 h
        exact gG_sub [0, 1, 2, 3, 4, 5, 6, 7, 8] rfl (t_X10_changed_69 hF hn hd (by omega) (by omega) q_13 q_14 q_15 h (fun v9 ad1 ce1 so1 q9 x1 y1 => hE v9 ad1 ce1 so1 q9 (gExt.tr X12 x1) (gad_call y1 X12 W12)) (fun v9 ad1 ce1 so1 q9 x1 y1 => hN v9 ad1 ce1 so1 q9 (gExt.tr X12 x1) (gad_call y1 X12 W12)))
      · replace h := gif_f c18 h
        refine g_iinc (n := 1) (v := (i3 + (1 : Int32))) (ls' := [(3, .int (i3 + (1 : Int32))), (0, .ref a0), (1, .ref a1), (2, .int i2), (4, .ref a4), (5, .int i5), (6, .int i6), (7, .int i7), (8, .int i8)]) hF 3 rfl rfl (by rw [hn]; decide) rfl dX10_changed_66 ?_
        exact gG_sub [1, 2, 3, 0, 4, 5, 6, 7, 8] rfl (t_X10_changed_69 hF hn hd (by omega) (by omega) q_13 q_14 q_15 h (fun v9 ad1 ce1 so1 q9 x1 y1 => hE v9 ad1 ce1 so1 q9 (gExt.tr X12 x1) (gad_call y1 X12 W12)) (fun v9 ad1 ce1 so1 q9 x1 y1 => hN v9 ad1 ce1 so1 q9 (gExt.tr X12 x1) (gad_call y1 X12 W12)))
