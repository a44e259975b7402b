theorem t_X10_changed_L33 {Z : gZ} {d mc ms : Nat} {Acc : Option Value → (Nat → Nat) → gT → gM → Prop} {AccX : Nat → (Nat → Nat) → gT → gM → Prop} {K KS : Nat} {a0 : Nat} {a1 : Nat} {i2 : Int32} {a4 : Nat} {i5 : Int32} {i6 : Int32} {i7 : Int32} (hF : gFix Z cX10_changed RX10 "changed" (some .int) d mc ms Acc AccX) (hn : Z.2.2.2.2.2.1 = 9) (hd : 12 ≤ d) : ∀ (n9 : Nat) {ad : Nat → Nat} {x0 : Int32 × Int32 × gT × gM} {e0 : Int32 × gT × gM} {ce so c9 s9 : Nat}, gloopc (fun x : Int32 × Int32 × gT × gM => f_X10_changed_B33 x.2.2.1 x.2.2.2 a0 a1 i2 x.1 a4 i5 i6 i7 x.2.1) n9 x0 = some (e0, c9, s9) → ce + c9 + K ≤ mc → so + s9 + KS ≤ ms → ∀ (hE : ∀ (e9 : Int32 × gT × gM) (ad1 : Nat → Nat) (ce1 so1 : Nat), e0 = e9 → gExt x0.2.2.1 e9.2.1 → (∀ a : Nat, a < x0.2.2.1.length → ad1 a = ad a) → ce1 + K ≤ mc → so1 + KS ≤ ms → gG Z ad1 e9.2.1 e9.2.2 ce1 so1 75 [(0, .ref a0), (1, .ref a1), (2, .int i2), (3, .int e9.1), (4, .ref a4), (5, .int i5), (6, .int i6)] []), gG Z ad x0.2.2.1 x0.2.2.2 ce so 33 [(0, .ref a0), (1, .ref a1), (2, .int i2), (3, .int x0.1), (4, .ref a4), (5, .int i5), (6, .int i6), (7, .int i7), (8, .int x0.2.1)] []
  | 0 => fun h => nomatch h
  | n9 + 1 => fun h hk1 hk2 hE => by
    rcases gloopc_sp h with hB | ⟨a9, c1, s1, c2, s2, hB, h2, e1, e2⟩
    · exact t_X10_changed_B33 (K := K) (KS := KS) hF hn hd hk1 hk2 hB (fun e9 ad1 ce1 so1 q9 => hE e9 ad1 ce1 so1 (Sum.inl.inj q9)) (fun n8 ad1 ce1 so1 q9 => nomatch q9)
    · exact t_X10_changed_B33 (K := c2 + K) (KS := s2 + KS) hF hn hd (by omega) (by omega) hB (fun e9 ad1 ce1 so1 q9 => nomatch q9) (fun n8 ad1 ce1 so1 q9 x9 y9 k1 k2 => by rw [← Sum.inr.inj q9] at x9 ⊢; exact t_X10_changed_L33 (K := K) (KS := KS) hF hn hd n9 h2 (by omega) (by omega) (fun e9 ad2 ce2 so2 q8 x2 y2 => hE e9 ad2 ce2 so2 q8 (gExt.tr x9 x2) (gad_call y2 x9 y9)))
theorem t_X10_changed_B16 {Z : gZ} {d mc ms : Nat} {Acc : Option Value → (Nat → Nat) → gT → gM → Prop} {AccX : Nat → (Nat → Nat) → gT → gM → Prop} {ad : Nat → Nat} {T : gT} {M : gM} {ce so c9 s9 K KS : Nat}  {a0 : Nat} {a1 : Nat} {i2 : Int32} {i3 : Int32} {a4 : Nat} {i5 : Int32} {i6 : Int32} {o : (Int32 × gT × gM) ⊕ (Int32 × Int32 × gT × gM)} (hF : gFix Z cX10_changed RX10 "changed" (some .int) d mc ms Acc AccX) (hn : Z.2.2.2.2.2.1 = 9) (hd : 12 ≤ d) (hk1 : ce + c9 + K ≤ mc) (hk2 : so + s9 + KS ≤ ms)  (h : f_X10_changed_B16 T M a0 a1 i2 i3 a4 i5 i6 = some (o, c9, s9)) (hE : ∀ (e9 : Int32 × gT × gM) (ad1 : Nat → Nat) (ce1 so1 : Nat), o = .inl e9 → gExt T e9.2.1 → (∀ a : Nat, a < T.length → ad1 a = ad a) → ce1 + K ≤ mc → so1 + KS ≤ ms → gG Z ad1 e9.2.1 e9.2.2 ce1 so1 81 [(3, .int e9.1)] []) (hN : ∀ (n9 : Int32 × Int32 × gT × gM) (ad1 : Nat → Nat) (ce1 so1 : Nat), o = .inr n9 → gExt T n9.2.2.1 → (∀ a : Nat, a < T.length → ad1 a = ad a) → ce1 + K ≤ mc → so1 + KS ≤ ms → gG Z ad1 n9.2.2.1 n9.2.2.2 ce1 so1 16 [(0, .ref a0), (1, .ref a1), (2, .int i2), (3, .int n9.1), (4, .ref a4), (5, .int i5), (6, .int n9.2.1)] []) : gG Z ad T M ce so 16 [(0, .ref a0), (1, .ref a1), (2, .int i2), (3, .int i3), (4, .ref a4), (5, .int i5), (6, .int i6)] [] := by
  unfold f_X10_changed_B16 at h
  obtain ⟨_, h19, h⟩ := gbnd h
  obtain ⟨l19, q_19⟩ := gkd_sp h19
  obtain ⟨_, h20, h⟩ := gbnd h
  obtain ⟨l20, q_20⟩ := gkd_sp h20
  obtain ⟨_, h23, h⟩ := gbnd h
  obtain ⟨l23, q_23⟩ := gkd_sp h23
  refine g_iload hF 6 rfl dX10_changed_16 ?_
  refine g_iload hF 5 rfl dX10_changed_18 ?_
  refine g_icmp_ge (tgt := 81) hF dX10_changed_20 (by decide) (fun c26 => ?_) (fun c26 => ?_)
  · replace h := gif_t c26 h
    cases h
    exact gG_sub [3] rfl (hE _ _ _ _ rfl gExt.rf (fun _ _ => rfl) (by omega) (by omega))
  · replace h := gif_f c26 h
    refine g_aload hF 4 rfl dX10_changed_23 ?_
    refine g_iload hF 6 rfl dX10_changed_25 ?_
    obtain ⟨v27, h27, h⟩ := gbnd h
    obtain ⟨i27h, e27v⟩ := ald_sp q_23 h27
    refine g_iald hF q_23 i27h dX10_changed_27 ?_
    rw [← e27v]
    refine g_istore (ls' := [(7, .int v27), (0, .ref a0), (1, .ref a1), (2, .int i2), (3, .int i3), (4, .ref a4), (5, .int i5), (6, .int i6)]) hF (by rw [hn]; decide) rfl dX10_changed_28 ?_
    refine g_iconst (v := (0 : Int32)) hF rfl dX10_changed_30 ?_
    refine g_istore (ls' := [(8, .int (0 : Int32)), (7, .int v27), (0, .ref a0), (1, .ref a1), (2, .int i2), (3, .int i3), (4, .ref a4), (5, .int i5), (6, .int i6)]) hF (by rw [hn]; decide) rfl dX10_changed_31 ?_
    obtain ⟨x28, h28, h⟩ := gbnd h
    obtain ⟨c28, s28, h, ec28, es28⟩ := cadd_sp h
    refine gG_sub [2, 3, 4, 5, 6, 7, 8, 1, 0] rfl (t_X10_changed_L33 (K := c28 + K) (KS := s28 + KS) hF hn hd gFU (trip h28) (by omega) (by omega) (fun e28 adE28 ceE28 soE28 qE28 xE28 yE28 kE28 kS28 => ?_))
    subst qE28
    have X28 := gExt.tr gExt.rf xE28
    have W28 := gad_call yE28 gExt.rf (fun _ _ => rfl)
    have q_29 := xE28 _ _ q_19
    have q_30 := xE28 _ _ q_20
    have q_31 := xE28 _ _ q_23
    refine g_iinc (n := 1) (v := (i6 + (1 : Int32))) (ls' := [(6, .int (i6 + (1 : Int32))), (0, .ref a0), (1, .ref a1), (2, .int i2), (3, .int x28.1.1), (4, .ref a4), (5, .int i5)]) hF 6 rfl rfl (by rw [hn]; decide) rfl dX10_changed_75 ?_
    refine g_goto (tgt := 16) hF dX10_changed_78 (by decide) ?_
    cases h
    exact gG_sub [1, 2, 3, 4, 5, 6, 0] rfl (hN _ _ _ _ rfl X28 W28 (by omega) (by omega))
theorem t_X10_changed_L16 {Z : gZ} {d mc ms : Nat} {Acc : Option Value → (Nat → Nat) → gT → gM → Prop} {AccX : Nat → (Nat → Nat) → gT → gM → Prop} {K KS : Nat} {a0 : Nat} {a1 : Nat} {i2 : Int32} {a4 : Nat} {i5 : Int32} (hF : gFix Z cX10_changed RX10 "changed" (some .int) d mc ms Acc AccX) (hn : Z.2.2.2.2.2.1 = 9) (hd : 12 ≤ d) : ∀ (n9 : Nat) {ad : Nat → Nat} {x0 : Int32 × Int32 × gT × gM} {e0 : Int32 × gT × gM} {ce so c9 s9 : Nat}, gloopc (fun x : Int32 × Int32 × gT × gM => f_X10_changed_B16 x.2.2.1 x.2.2.2 a0 a1 i2 x.1 a4 i5 x.2.1) n9 x0 = some (e0, c9, s9) → ce + c9 + K ≤ mc → so + s9 + KS ≤ ms → ∀ (hE : ∀ (e9 : Int32 × gT × gM) (ad1 : Nat → Nat) (ce1 so1 : Nat), e0 = e9 → gExt x0.2.2.1 e9.2.1 → (∀ a : Nat, a < x0.2.2.1.length → ad1 a = ad a) → ce1 + K ≤ mc → so1 + KS ≤ ms → gG Z ad1 e9.2.1 e9.2.2 ce1 so1 81 [(3, .int e9.1)] []), gG Z ad x0.2.2.1 x0.2.2.2 ce so 16 [(0, .ref a0), (1, .ref a1), (2, .int i2), (3, .int x0.1), (4, .ref a4), (5, .int i5), (6, .int x0.2.1)] []
  | 0 => fun h => nomatch h
  | n9 + 1 => fun h hk1 hk2 hE => by
    rcases gloopc_sp h with hB | ⟨a9, c1, s1, c2, s2, hB, h2, e1, e2⟩
    · exact t_X10_changed_B16 (K := K) (KS := KS) hF hn hd hk1 hk2 hB (fun e9 ad1 ce1 so1 q9 => hE e9 ad1 ce1 so1 (Sum.inl.inj q9)) (fun n8 ad1 ce1 so1 q9 => nomatch q9)
    · exact t_X10_changed_B16 (K := c2 + K) (KS := s2 + KS) hF hn hd (by omega) (by omega) hB (fun e9 ad1 ce1 so1 q9 => nomatch q9) (fun n8 ad1 ce1 so1 q9 x9 y9 k1 k2 => by rw [← Sum.inr.inj q9] at x9 ⊢; exact t_X10_changed_L16 (K := K) (KS := KS) hF hn hd n9 h2 (by omega) (by omega) (fun e9 ad2 ce2 so2 q8 x2 y2 => hE e9 ad2 ce2 so2 q8 (gExt.tr x9 x2) (gad_call y2 x9 y9)))
theorem t_X10_changed {Z : gZ} {d mc ms : Nat} {Acc : Option Value → (Nat → Nat) → gT → gM → Prop} {AccX : Nat → (Nat → Nat) → gT → gM → Prop} {ad : Nat → Nat} {T : gT} {M : gM} {ce so c9 s9 : Nat} {m_a0 m_a1 : Nat} {a0 : Nat} {a1 : Nat} {i2 : Int32} {o : Int32 × gT × gM} (hF : gFix Z cX10_changed RX10 "changed" (some .int) d mc ms Acc AccX) (hn : Z.2.2.2.2.2.1 = 9) (hd : 12 ≤ d) (hk1 : ce + c9 ≤ mc) (hk2 : so + s9 ≤ ms) (q0 : T[a0]? = some (16, m_a0)) (q1 : T[a1]? = some (15, m_a1)) (h : f_X10_changed T M a0 a1 i2 = some (o, c9, s9)) (hR : ∀ ad1 : Nat → Nat, gExt T o.2.1 → (∀ a : Nat, a < T.length → ad1 a = ad a) → Acc (some (.int o.1)) ad1 o.2.1 o.2.2) : gG Z ad T M ce so 0 [(0, .ref a0), (1, .ref a1), (2, .int i2)] [] := by
  unfold f_X10_changed at h
  refine g_iconst (v := (0 : Int32)) hF rfl dX10_changed_0 ?_
  refine g_istore_n (ls' := [(3, .int (0 : Int32)), (0, .ref a0), (1, .ref a1), (2, .int i2)]) hF rfl (by rw [hn]; decide) rfl dX10_changed_1 ?_
  refine g_aload_n hF 1 rfl rfl dX10_changed_2 ?_
  obtain ⟨b32, h32, h⟩ := gbnd h
  obtain ⟨g32, l32, q_b32⟩ := ldr_sp h32
  refine g_get_r hF g32 fl_RX10_19 q0 dX10_changed_3 ?_
  refine g_astore (ls' := [(4, .ref b32), (3, .int (0 : Int32)), (0, .ref a0), (1, .ref a1), (2, .int i2)]) hF (by rw [hn]; decide) rfl dX10_changed_6 ?_
  refine g_aload hF 0 rfl dX10_changed_8 ?_
  refine g_alenA hF q_b32 (by decide) dX10_changed_10 ?_
  refine g_istore (ls' := [(5, .int (Int32.ofNat (alen T b32))), (4, .ref b32), (3, .int (0 : Int32)), (0, .ref a0), (1, .ref a1), (2, .int i2)]) hF (by rw [hn]; decide) rfl dX10_changed_11 ?_
  refine g_iconst (v := (0 : Int32)) hF rfl dX10_changed_13 ?_
  refine g_istore (ls' := [(6, .int (0 : Int32)), (5, .int (Int32.ofNat (alen T b32))), (4, .ref b32), (3, .int (0 : Int32)), (0, .ref a0), (1, .ref a1), (2, .int i2)]) hF (by rw [hn]; decide) rfl dX10_changed_14 ?_
  obtain ⟨x33, h33, h⟩ := gbnd h
  obtain ⟨c33, s33, h, ec33, es33⟩ := cadd_sp h
  refine gG_sub [4, 5, 6, 3, 2, 1, 0] rfl (t_X10_changed_L16 (K := c33) (KS := s33) hF hn hd gFU (trip h33) (by omega) (by omega) (fun e33 adE33 ceE33 soE33 qE33 xE33 yE33 kE33 kS33 => ?_))
  subst qE33
  have X33 := gExt.tr gExt.rf xE33
  have W33 := gad_call yE33 gExt.rf (fun _ _ => rfl)
  have q_34 := xE33 _ _ q_b32
  have q_35 := xE33 _ _ q0
  have q_36 := xE33 _ _ q1
  refine g_iload_n hF 0 rfl rfl dX10_changed_81 ?_
  cases h
  exact g_ret_i hF rfl rfl dX10_changed_82 (hR adE33 X33 W33) (by omega) (by omega)
theorem c_X10_changed {d : Nat} {T : gT} {M : gM} {c9 s9 : Nat} {m_a0 m_a1 : Nat} {a0 : Nat} {a1 : Nat} {i2 : Int32} {o : Int32 × gT × gM} (hd : 12 ≤ d) (q0 : T[a0]? = some (16, m_a0)) (q1 : T[a1]? = some (15, m_a1)) (h : f_X10_changed T M a0 a1 i2 = some (o, c9, s9)) : gRet d yX10_changed cX10_changed 9 (some .int) c9 s9 [.ref a0, .ref a1, .int i2] T M (gMade T (some (.int o.1)) o.2.1 o.2.2) := by
  refine gRet_of (own := RX10) (by decide) rfl (Nat.le_of_ble_eq_true rfl) (fun Z ad0 hn h0 hF => ?_)
  exact t_X10_changed (ce := 0) (so := 0) hF hn hd (by omega) (by omega) q0 q1 h (fun ad1 x1 y1 => ⟨rfl, rfl, rfl, x1, y1⟩)
theorem t_X10_told_81 {Z : gZ} {d mc ms : Nat} {Acc : Option Value → (Nat → Nat) → gT → gM → Prop} {AccX : Nat → (Nat → Nat) → gT → gM → Prop} {ad : Nat → Nat} {T : gT} {M : gM} {ce so c9 s9 : Nat}  {k0 : Int32} {o : Int32 × gT × gM} (hF : gFix Z cX10_told RX10 "told" (some .int) d mc ms Acc AccX) (hn : Z.2.2.2.2.2.1 = 4) (hd : 9 ≤ d) (hk1 : ce + c9 ≤ mc) (hk2 : so + s9 ≤ ms)  (h : f_X10_told_81 T M k0 = some (o, c9, s9)) (hR : ∀ ad1 : Nat → Nat, gExt T o.2.1 → (∀ a : Nat, a < T.length → ad1 a = ad a) → Acc (some (.int o.1)) ad1 o.2.1 o.2.2) : gG Z ad T M ce so 81 [] [.int k0] := by
  unfold f_X10_told_81 at h
  cases h
  exact g_ret_i hF rfl rfl dX10_told_81 (hR _ gExt.rf (fun _ _ => rfl)) (by omega) (by omega)
theorem t_X10_told {Z : gZ} {d mc ms : Nat} {Acc : Option Value → (Nat → Nat) → gT → gM → Prop} {AccX : Nat → (Nat → Nat) → gT → gM → Prop} {ad : Nat → Nat} {T : gT} {M : gM} {ce so c9 s9 : Nat} {m_a0 : Nat} {a0 : Nat} {i1 : Int32} {i2 : Int32} {o : Int32 × gT × gM} (hF : gFix Z cX10_told RX10 "told" (some .int) d mc ms Acc AccX) (hn : Z.2.2.2.2.2.1 = 4) (hd : 9 ≤ d) (hk1 : ce + c9 ≤ mc) (hk2 : so + s9 ≤ ms) (q0 : T[a0]? = some (16, m_a0)) (h : f_X10_told T M a0 i1 i2 = some (o, c9, s9)) (hR : ∀ ad1 : Nat → Nat, gExt T o.2.1 → (∀ a : Nat, a < T.length → ad1 a = ad a) → Acc (some (.int o.1)) ad1 o.2.1 o.2.2) : gG Z ad T M ce so 0 [(0, .ref a0), (1, .int i1), (2, .int i2)] [] := by
  unfold f_X10_told at h
  refine g_aload_n hF 0 rfl rfl dX10_told_0 ?_
  obtain ⟨b1, h1, h⟩ := gbnd h
  obtain ⟨g1, l1, q_b1⟩ := ldr_sp h1
  refine g_get_r hF g1 fl_RX10_15 q0 dX10_told_1 ?_
  refine g_iload_n hF 1 rfl rfl dX10_told_4 ?_
  obtain ⟨b2, h2, h⟩ := gbnd h
  obtain ⟨i2h, g2, l2, q_b2⟩ := aldr_sp q_b1 h2
  refine g_aald hF q_b1 (Or.inr (Or.inr (Or.inl ⟨rfl, rfl⟩))) i2h g2 dX10_told_5 ?_
  refine g_astore_n (ls' := [(3, .ref b2), (0, .ref a0), (1, .int i1), (2, .int i2)]) hF rfl (by rw [hn]; decide) rfl dX10_told_6 ?_
  refine g_iload_n hF 3 rfl rfl dX10_told_7 ?_
  refine g_if_ne (tgt := 18) hF dX10_told_8 (by decide) (fun c3 => ?_) (fun c3 => ?_)
  · replace h := gif_t c3 h
    refine g_iload_n hF 3 rfl rfl dX10_told_18 ?_
    refine g_iconst (v := (1 : Int32)) hF rfl dX10_told_19 ?_
    refine g_icmp_ne (tgt := 38) hF dX10_told_20 (by decide) (fun c4 => ?_) (fun c4 => ?_)
    · replace h := gif_t c4 h
      refine g_iload_n hF 3 rfl rfl dX10_told_38 ?_
      refine g_iconst (v := (2 : Int32)) hF rfl dX10_told_39 ?_
      refine g_icmp_ne (tgt := 51) hF dX10_told_40 (by decide) (fun c5 => ?_) (fun c5 => ?_)
      · replace h := gif_t c5 h
        refine g_iload_n hF 3 rfl rfl dX10_told_51 ?_
        refine g_iconst (v := (3 : Int32)) hF rfl dX10_told_52 ?_
        refine g_icmp_ne (tgt := 63) hF dX10_told_53 (by decide) (fun c6 => ?_) (fun c6 => ?_)
        · replace h := gif_t c6 h
          refine g_iload_n hF 3 rfl rfl dX10_told_63 ?_
          refine g_iconst (v := (4 : Int32)) hF rfl dX10_told_64 ?_
          refine g_icmp_ne (tgt := 76) hF dX10_told_65 (by decide) (fun c7 => ?_) (fun c7 => ?_)
          · replace h := gif_t c7 h
            refine g_aload_n hF 1 rfl rfl dX10_told_76 ?_
            refine g_iload_n hF 2 rfl rfl dX10_told_77 ?_
            obtain ⟨x8, h8, h⟩ := gbnd h
            obtain ⟨c8, s8, h, ec8, es8⟩ := cadd_sp h
            refine g_callV hF my_X10_weight kw_588 kw_589 kw_590 gC_16.1 (by decide) q0 (c_X10_weight (d := d - 1) (by omega) q0 (trip h8)) (by omega) (by omega) (by omega) rfl rfl (Nat.le_of_ble_eq_true rfl) dX10_told_78 (g_madeS (gOld_r (gT_lt q_b2) (gOld_r (gT_lt q0) (gOld_i (gOld_i gOld_0)))) gOld_0 (fun ad8 e8 y8 => ?_))
            have X8 := gExt.tr gExt.rf e8
            have W8 := gad_call y8 gExt.rf (fun _ _ => rfl)
            have q_9 := e8 _ _ q_b2
            have q_10 := e8 _ _ q0
            exact gG_sub [] rfl (t_X10_told_81 hF hn hd (by omega) (by omega)  h (fun ad1 x1 y1 => hR ad1 (gExt.tr X8 x1) (gad_call y1 X8 W8)))
          · replace h := gif_n c7 h
            refine g_aload_n hF 0 rfl rfl dX10_told_68 ?_
            obtain ⟨b11, h11, h⟩ := gbnd h
            obtain ⟨g11, l11, q_b11⟩ := ldr_sp h11
            refine g_get_r hF g11 fl_RX10_39 q_b2 dX10_told_69 ?_
            refine g_alenA hF q_b11 (by decide) dX10_told_72 ?_
            refine g_goto (tgt := 81) hF dX10_told_73 (by decide) ?_
            exact gG_sub [] rfl (t_X10_told_81 hF hn hd (by omega) (by omega)  h (fun ad1 x1 y1 => hR ad1 (gExt.tr gExt.rf x1) (gad_call y1 gExt.rf (fun _ _ => rfl))))
        · replace h := gif_n c6 h
          refine g_aload_n hF 0 rfl rfl dX10_told_56 ?_
          obtain ⟨x12, h12, h⟩ := gbnd h
          refine g_callV hF my_X9_offered kw_595 kw_596 kw_597 gC_9.1 (by decide) q_b2 (c_X9_offered (d := d - 1) (by omega) q_b2 h12) (by omega) (by omega) (by omega) rfl rfl (Nat.le_of_ble_eq_true rfl) dX10_told_57 (g_sameS ?_)
          refine g_goto (tgt := 81) hF dX10_told_60 (by decide) ?_
          exact gG_sub [] rfl (t_X10_told_81 hF hn hd (by omega) (by omega)  h (fun ad1 x1 y1 => hR ad1 (gExt.tr gExt.rf x1) (gad_call y1 gExt.rf (fun _ _ => rfl))))
      · replace h := gif_n c5 h
        refine g_aload_n hF 1 rfl rfl dX10_told_43 ?_
        refine g_iload_n hF 2 rfl rfl dX10_told_44 ?_
        obtain ⟨x13, h13, h⟩ := gbnd h
        refine g_callV hF my_X10_rank kw_579 kw_568 kw_569 gC_16.1 (by decide) q0 (c_X10_rank (d := d - 1) (by omega) q0 h13) (by omega) (by omega) (by omega) rfl rfl (Nat.le_of_ble_eq_true rfl) dX10_told_45 (g_sameS ?_)
        refine g_goto (tgt := 81) hF dX10_told_48 (by decide) ?_
        exact gG_sub [] rfl (t_X10_told_81 hF hn hd (by omega) (by omega)  h (fun ad1 x1 y1 => hR ad1 (gExt.tr gExt.rf x1) (gad_call y1 gExt.rf (fun _ _ => rfl))))
    · replace h := gif_n c4 h
      refine g_aload_n hF 0 rfl rfl dX10_told_23 ?_
      refine g_get_i hF fl_RX10_94 q_b2 dX10_told_24 ?_
      refine g_if_eq (tgt := 34) hF dX10_told_27 (by decide) (fun c14 => ?_) (fun c14 => ?_)
      · replace h := gif_t c14 h
        refine g_iconst (v := (0 : Int32)) hF rfl dX10_told_34 ?_
        refine g_goto (tgt := 81) hF dX10_told_35 (by decide) ?_
        exact gG_sub [] rfl (t_X10_told_81 hF hn hd (by omega) (by omega)  h (fun ad1 x1 y1 => hR ad1 (gExt.tr gExt.rf x1) (gad_call y1 gExt.rf (fun _ _ => rfl))))
      · replace h := gif_f c14 h
        refine g_iconst (v := (1 : Int32)) hF rfl dX10_told_30 ?_
        refine g_goto (tgt := 81) hF dX10_told_31 (by decide) ?_
        exact gG_sub [] rfl (t_X10_told_81 hF hn hd (by omega) (by omega)  h (fun ad1 x1 y1 => hR ad1 (gExt.tr gExt.rf x1) (gad_call y1 gExt.rf (fun _ _ => rfl))))
  · replace h := gif_n c3 h
    refine g_aload_n hF 0 rfl rfl dX10_told_11 ?_
    refine g_get_i hF fl_RX10_48 q_b2 dX10_told_12 ?_
    refine g_goto (tgt := 81) hF dX10_told_15 (by decide) ?_
    exact gG_sub [] rfl (t_X10_told_81 hF hn hd (by omega) (by omega)  h (fun ad1 x1 y1 => hR ad1 (gExt.tr gExt.rf x1) (gad_call y1 gExt.rf (fun _ _ => rfl))))
theorem c_X10_told {d : Nat} {T : gT} {M : gM} {c9 s9 : Nat} {m_a0 : Nat} {a0 : Nat} {i1 : Int32} {i2 : Int32} {o : Int32 × gT × gM} (hd : 9 ≤ d) (q0 : T[a0]? = some (16, m_a0)) (h : f_X10_told T M a0 i1 i2 = some (o, c9, s9)) : gRet d yX10_told cX10_told 4 (some .int) c9 s9 [.ref a0, .int i1, .int i2] T M (gMade T (some (.int o.1)) o.2.1 o.2.2) := by
  refine gRet_of (own := RX10) (by decide) rfl (Nat.le_of_ble_eq_true rfl) (fun Z ad0 hn h0 hF => ?_)
  exact t_X10_told (ce := 0) (so := 0) hF hn hd (by omega) (by omega) q0 h (fun ad1 x1 y1 => ⟨rfl, rfl, rfl, x1, y1⟩)
theorem t_X10_sum_B59 {Z : gZ} {d mc ms : Nat} {Acc : Option Value → (Nat → Nat) → gT → gM → Prop} {AccX : Nat → (Nat → Nat) → gT → gM → Prop} {ad : Nat → Nat} {T : gT} {M : gM} {ce so c9 s9 K KS : Nat}  {a0 : Nat} {a1 : Nat} {j2 : Int64} {i4 : Int32} {i5 : Int32} {o : (Int64 × gT × gM) ⊕ (Int64 × Int32 × gT × gM)} (hF : gFix Z cX10_sum RX10 "sum" (some .long) d mc ms Acc AccX) (hn : Z.2.2.2.2.2.1 = 6) (hd : 13 ≤ d) (hk1 : ce + c9 + K ≤ mc) (hk2 : so + s9 + KS ≤ ms)  (h : f_X10_sum_B59 T M a0 a1 j2 i4 i5 = some (o, c9, s9)) (hE : ∀ (e9 : Int64 × gT × gM) (ad1 : Nat → Nat) (ce1 so1 : Nat), o = .inl e9 → gExt T e9.2.1 → (∀ a : Nat, a < T.length → ad1 a = ad a) → ce1 + K ≤ mc → so1 + KS ≤ ms → gG Z ad1 e9.2.1 e9.2.2 ce1 so1 125 [(0, .ref a0), (1, .ref a1), (2, .long e9.1), (4, .int i4)] []) (hN : ∀ (n9 : Int64 × Int32 × gT × gM) (ad1 : Nat → Nat) (ce1 so1 : Nat), o = .inr n9 → gExt T n9.2.2.1 → (∀ a : Nat, a < T.length → ad1 a = ad a) → ce1 + K ≤ mc → so1 + KS ≤ ms → gG Z ad1 n9.2.2.1 n9.2.2.2 ce1 so1 59 [(0, .ref a0), (1, .ref a1), (2, .long n9.1), (4, .int i4), (5, .int n9.2.1)] []) : gG Z ad T M ce so 59 [(0, .ref a0), (1, .ref a1), (2, .long j2), (4, .int i4), (5, .int i5)] [] := by
  unfold f_X10_sum_B59 at h
  obtain ⟨_, h1, h⟩ := gbnd h
  obtain ⟨l1, q_1⟩ := gkd_sp h1
  obtain ⟨_, h2, h⟩ := gbnd h
  obtain ⟨l2, q_2⟩ := gkd_sp h2
  refine g_iload hF 4 rfl dX10_sum_59 ?_
  refine g_aload_n hF 0 rfl rfl dX10_sum_61 ?_
  refine g_get_i hF fl_RX10_24 q_1 dX10_sum_62 ?_
  refine g_icmp_ge (tgt := 125) hF dX10_sum_65 (by decide) (fun c6 => ?_) (fun c6 => ?_)
  · replace h := gif_t c6 h
    cases h
    exact gG_sub [0, 1, 2, 3] rfl (hE _ _ _ _ rfl gExt.rf (fun _ _ => rfl) (by omega) (by omega))
  · replace h := gif_f c6 h
    refine g_ldc2 (v := (31 : Int64)) hF kw_1456 dX10_sum_68 ?_
    refine g_ldc2 (v := (31 : Int64)) hF kw_1456 dX10_sum_71 ?_
    refine g_ldc2 (v := (31 : Int64)) hF kw_1456 dX10_sum_74 ?_
    refine g_lload_n hF 2 rfl rfl dX10_sum_77 ?_
    refine g_lmul hF dX10_sum_78 ?_
    refine g_aload_n hF 0 rfl rfl dX10_sum_79 ?_
    obtain ⟨b7, h7, h⟩ := gbnd h
    obtain ⟨g7, l7, q_b7⟩ := ldr_sp h7
    refine g_get_r hF g7 fl_RX10_15 q_1 dX10_sum_80 ?_
    refine g_iload hF 3 rfl dX10_sum_83 ?_
    obtain ⟨b8, h8, h⟩ := gbnd h
    obtain ⟨i8h, g8, l8, q_b8⟩ := aldr_sp q_b7 h8
    refine g_aald hF q_b7 (Or.inr (Or.inr (Or.inl ⟨rfl, rfl⟩))) i8h g8 dX10_sum_85 ?_
    obtain ⟨b9, h9, h⟩ := gbnd h
    obtain ⟨g9, l9, q_b9⟩ := ldr_sp h9
    refine g_get_r hF g9 fl_RX10_72 q_b8 dX10_sum_86 ?_
    refine g_iload hF 4 rfl dX10_sum_89 ?_
    obtain ⟨v10, h10, h⟩ := gbnd h
    obtain ⟨i10h, e10v⟩ := ald_sp q_b9 h10
    refine g_iald hF q_b9 i10h dX10_sum_91 ?_
    rw [← e10v]
    refine g_i2l hF dX10_sum_92 ?_
    refine g_ladd hF dX10_sum_93 ?_
    refine g_lmul hF dX10_sum_94 ?_
    refine g_aload_n hF 1 rfl rfl dX10_sum_95 ?_
    refine g_iload hF 3 rfl dX10_sum_96 ?_
    obtain ⟨b11, h11, h⟩ := gbnd h
    obtain ⟨i11h, g11, l11, q_b11⟩ := aldr_sp q_2 h11
    refine g_aald2 hF q_2 i11h g11 dX10_sum_98 ?_
    refine g_iload hF 4 rfl dX10_sum_99 ?_
    obtain ⟨v12, h12, h⟩ := gbnd h
    obtain ⟨i12h, e12v⟩ := ald_sp q_b11 h12
    refine g_iald hF q_b11 i12h dX10_sum_101 ?_
    rw [← e12v]
    refine g_i2l hF dX10_sum_102 ?_
    refine g_ladd hF dX10_sum_103 ?_
    refine g_lmul hF dX10_sum_104 ?_
    refine g_aload_n hF 0 rfl rfl dX10_sum_105 ?_
    refine g_aload_n hF 1 rfl rfl dX10_sum_106 ?_
    refine g_iload hF 3 rfl dX10_sum_107 ?_
    refine g_iload hF 4 rfl dX10_sum_109 ?_
    obtain ⟨x13, h13, h⟩ := gbnd h
    obtain ⟨c13, s13, h, ec13, es13⟩ := cadd_sp h
    refine g_callV hF my_X10_call kw_1461 kw_1462 kw_1463 gC_16.1 (by decide) q_1 (c_X10_call (d := d - 1) (by omega) q_1 q_2 (trip h13)) (by omega) (by omega) (by omega) rfl rfl (Nat.le_of_ble_eq_true rfl) dX10_sum_111 (g_madeS (gOld_r (gT_lt q_1) (gOld_r (gT_lt q_2) (gOld_l (gOld_i (gOld_i gOld_0))))) (gOld_l gOld_0) (fun ad13 e13 y13 => ?_))
    have X13 := gExt.tr gExt.rf e13
    have W13 := gad_call y13 gExt.rf (fun _ _ => rfl)
    have q_14 := e13 _ _ q_1
    have q_15 := e13 _ _ q_2
    obtain ⟨_, h16, h⟩ := gbnd h
    obtain ⟨l16, q_16⟩ := gkd_sp h16
    refine g_iconst (v := (0 : Int32)) hF rfl dX10_sum_114 ?_
    obtain ⟨v17, h17, h⟩ := gbnd h
    obtain ⟨i17h, e17v⟩ := ald_sp q_16 h17
    refine g_iald hF q_16 i17h dX10_sum_115 ?_
    rw [← e17v]
    refine g_i2l hF dX10_sum_116 ?_
    refine g_ladd hF dX10_sum_117 ?_
    refine g_lstore_n (ls' := [(2, .long (((31 : Int64) * (((31 : Int64) * (((31 : Int64) * j2) + ((v10).toInt64))) + ((v12).toInt64))) + ((v17).toInt64))), (0, .ref a0), (1, .ref a1), (4, .int i4), (5, .int i5)]) hF rfl (by rw [hn]; decide) rfl dX10_sum_118 ?_
    refine g_iinc (n := 1) (v := (i5 + (1 : Int32))) (ls' := [(5, .int (i5 + (1 : Int32))), (2, .long (((31 : Int64) * (((31 : Int64) * (((31 : Int64) * j2) + ((v10).toInt64))) + ((v12).toInt64))) + ((v17).toInt64))), (0, .ref a0), (1, .ref a1), (4, .int i4)]) hF 4 rfl rfl (by rw [hn]; decide) rfl dX10_sum_119 ?_
    refine g_goto (tgt := 59) hF dX10_sum_122 (by decide) ?_
    cases h
    exact gG_sub [2, 3, 1, 4, 0] rfl (hN _ _ _ _ rfl X13 W13 (by omega) (by omega))
theorem t_X10_sum_L59 {Z : gZ} {d mc ms : Nat} {Acc : Option Value → (Nat → Nat) → gT → gM → Prop} {AccX : Nat → (Nat → Nat) → gT → gM → Prop} {K KS : Nat} {a0 : Nat} {a1 : Nat} {i4 : Int32} (hF : gFix Z cX10_sum RX10 "sum" (some .long) d mc ms Acc AccX) (hn : Z.2.2.2.2.2.1 = 6) (hd : 13 ≤ d) : ∀ (n9 : Nat) {ad : Nat → Nat} {x0 : Int64 × Int32 × gT × gM} {e0 : Int64 × gT × gM} {ce so c9 s9 : Nat}, gloopc (fun x : Int64 × Int32 × gT × gM => f_X10_sum_B59 x.2.2.1 x.2.2.2 a0 a1 x.1 i4 x.2.1) n9 x0 = some (e0, c9, s9) → ce + c9 + K ≤ mc → so + s9 + KS ≤ ms → ∀ (hE : ∀ (e9 : Int64 × gT × gM) (ad1 : Nat → Nat) (ce1 so1 : Nat), e0 = e9 → gExt x0.2.2.1 e9.2.1 → (∀ a : Nat, a < x0.2.2.1.length → ad1 a = ad a) → ce1 + K ≤ mc → so1 + KS ≤ ms → gG Z ad1 e9.2.1 e9.2.2 ce1 so1 125 [(0, .ref a0), (1, .ref a1), (2, .long e9.1), (4, .int i4)] []), gG Z ad x0.2.2.1 x0.2.2.2 ce so 59 [(0, .ref a0), (1, .ref a1), (2, .long x0.1), (4, .int i4), (5, .int x0.2.1)] []
  | 0 => fun h => nomatch h
  | n9 + 1 => fun h hk1 hk2 hE => by
    rcases gloopc_sp h with hB | ⟨a9, c1, s1, c2, s2, hB, h2, e1, e2⟩
    · exact t_X10_sum_B59 (K := K) (KS := KS) hF hn hd hk1 hk2 hB (fun e9 ad1 ce1 so1 q9 => hE e9 ad1 ce1 so1 (Sum.inl.inj q9)) (fun n8 ad1 ce1 so1 q9 => nomatch q9)
    · exact t_X10_sum_B59 (K := c2 + K) (KS := s2 + KS) hF hn hd (by omega) (by omega) hB (fun e9 ad1 ce1 so1 q9 => nomatch q9) (fun n8 ad1 ce1 so1 q9 x9 y9 k1 k2 => by rw [← Sum.inr.inj q9] at x9 ⊢; exact t_X10_sum_L59 (K := K) (KS := KS) hF hn hd n9 h2 (by omega) (by omega) (fun e9 ad2 ce2 so2 q8 x2 y2 => hE e9 ad2 ce2 so2 q8 (gExt.tr x9 x2) (gad_call y2 x9 y9)))
theorem t_X10_sum_B27 {Z : gZ} {d mc ms : Nat} {Acc : Option Value → (Nat → Nat) → gT → gM → Prop} {AccX : Nat → (Nat → Nat) → gT → gM → Prop} {ad : Nat → Nat} {T : gT} {M : gM} {ce so c9 s9 K KS : Nat}  {a0 : Nat} {a1 : Nat} {j2 : Int64} {i4 : Int32} {i5 : Int32} {o : (Int64 × gT × gM) ⊕ (Int64 × Int32 × gT × gM)} (hF : gFix Z cX10_sum RX10 "sum" (some .long) d mc ms Acc AccX) (hn : Z.2.2.2.2.2.1 = 6) (hd : 13 ≤ d) (hk1 : ce + c9 + K ≤ mc) (hk2 : so + s9 + KS ≤ ms)  (h : f_X10_sum_B27 T M a0 a1 j2 i4 i5 = some (o, c9, s9)) (hE : ∀ (e9 : Int64 × gT × gM) (ad1 : Nat → Nat) (ce1 so1 : Nat), o = .inl e9 → gExt T e9.2.1 → (∀ a : Nat, a < T.length → ad1 a = ad a) → ce1 + K ≤ mc → so1 + KS ≤ ms → gG Z ad1 e9.2.1 e9.2.2 ce1 so1 56 [(0, .ref a0), (1, .ref a1), (2, .long e9.1), (4, .int i4)] []) (hN : ∀ (n9 : Int64 × Int32 × gT × gM) (ad1 : Nat → Nat) (ce1 so1 : Nat), o = .inr n9 → gExt T n9.2.2.1 → (∀ a : Nat, a < T.length → ad1 a = ad a) → ce1 + K ≤ mc → so1 + KS ≤ ms → gG Z ad1 n9.2.2.1 n9.2.2.2 ce1 so1 27 [(0, .ref a0), (1, .ref a1), (2, .long n9.1), (4, .int i4), (5, .int n9.2.1)] []) : gG Z ad T M ce so 27 [(0, .ref a0), (1, .ref a1), (2, .long j2), (4, .int i4), (5, .int i5)] [] := by
  unfold f_X10_sum_B27 at h
  obtain ⟨_, h18, h⟩ := gbnd h
  obtain ⟨l18, q_18⟩ := gkd_sp h18
  obtain ⟨_, h19, h⟩ := gbnd h
  obtain ⟨l19, q_19⟩ := gkd_sp h19
  refine g_iload hF 4 rfl dX10_sum_27 ?_
  refine g_bipush (v := (6 : Int32)) hF rfl dX10_sum_29 ?_
  refine g_icmp_ge (tgt := 56) hF dX10_sum_31 (by decide) (fun c23 => ?_) (fun c23 => ?_)
  · replace h := gif_t c23 h
    cases h
    exact gG_sub [0, 1, 2, 3] rfl (hE _ _ _ _ rfl gExt.rf (fun _ _ => rfl) (by omega) (by omega))
  · replace h := gif_f c23 h
    refine g_ldc2 (v := (31 : Int64)) hF kw_1456 dX10_sum_34 ?_
    refine g_lload_n hF 2 rfl rfl dX10_sum_37 ?_
    refine g_lmul hF dX10_sum_38 ?_
    refine g_aload_n hF 0 rfl rfl dX10_sum_39 ?_
    refine g_iload hF 3 rfl dX10_sum_40 ?_
    refine g_iload hF 4 rfl dX10_sum_42 ?_
    obtain ⟨x24, h24, h⟩ := gbnd h
    obtain ⟨c24, s24, h, ec24, es24⟩ := cadd_sp h
    refine g_callV hF my_X10_told kw_1457 kw_1458 kw_1459 gC_16.1 (by decide) q_18 (c_X10_told (d := d - 1) (by omega) q_18 (trip h24)) (by omega) (by omega) (by omega) rfl rfl (Nat.le_of_ble_eq_true rfl) dX10_sum_44 (g_madeS (gOld_r (gT_lt q_18) (gOld_r (gT_lt q_19) (gOld_l (gOld_i (gOld_i gOld_0))))) (gOld_l gOld_0) (fun ad24 e24 y24 => ?_))
    have X24 := gExt.tr gExt.rf e24
    have W24 := gad_call y24 gExt.rf (fun _ _ => rfl)
    have q_25 := e24 _ _ q_18
    have q_26 := e24 _ _ q_19
    refine g_i2l hF dX10_sum_47 ?_
    refine g_ladd hF dX10_sum_48 ?_
    refine g_lstore_n (ls' := [(2, .long (((31 : Int64) * j2) + ((x24.1.1).toInt64))), (0, .ref a0), (1, .ref a1), (4, .int i4), (5, .int i5)]) hF rfl (by rw [hn]; decide) rfl dX10_sum_49 ?_
    refine g_iinc (n := 1) (v := (i5 + (1 : Int32))) (ls' := [(5, .int (i5 + (1 : Int32))), (2, .long (((31 : Int64) * j2) + ((x24.1.1).toInt64))), (0, .ref a0), (1, .ref a1), (4, .int i4)]) hF 4 rfl rfl (by rw [hn]; decide) rfl dX10_sum_50 ?_
    refine g_goto (tgt := 27) hF dX10_sum_53 (by decide) ?_
    cases h
    exact gG_sub [2, 3, 1, 4, 0] rfl (hN _ _ _ _ rfl X24 W24 (by omega) (by omega))
theorem t_X10_sum_L27 {Z : gZ} {d mc ms : Nat} {Acc : Option Value → (Nat → Nat) → gT → gM → Prop} {AccX : Nat → (Nat → Nat) → gT → gM → Prop} {K KS : Nat} {a0 : Nat} {a1 : Nat} {i4 : Int32} (hF : gFix Z cX10_sum RX10 "sum" (some .long) d mc ms Acc AccX) (hn : Z.2.2.2.2.2.1 = 6) (hd : 13 ≤ d) : ∀ (n9 : Nat) {ad : Nat → Nat} {x0 : Int64 × Int32 × gT × gM} {e0 : Int64 × gT × gM} {ce so c9 s9 : Nat}, gloopc (fun x : Int64 × Int32 × gT × gM => f_X10_sum_B27 x.2.2.1 x.2.2.2 a0 a1 x.1 i4 x.2.1) n9 x0 = some (e0, c9, s9) → ce + c9 + K ≤ mc → so + s9 + KS ≤ ms → ∀ (hE : ∀ (e9 : Int64 × gT × gM) (ad1 : Nat → Nat) (ce1 so1 : Nat), e0 = e9 → gExt x0.2.2.1 e9.2.1 → (∀ a : Nat, a < x0.2.2.1.length → ad1 a = ad a) → ce1 + K ≤ mc → so1 + KS ≤ ms → gG Z ad1 e9.2.1 e9.2.2 ce1 so1 56 [(0, .ref a0), (1, .ref a1), (2, .long e9.1), (4, .int i4)] []), gG Z ad x0.2.2.1 x0.2.2.2 ce so 27 [(0, .ref a0), (1, .ref a1), (2, .long x0.1), (4, .int i4), (5, .int x0.2.1)] []
  | 0 => fun h => nomatch h
  | n9 + 1 => fun h hk1 hk2 hE => by
    rcases gloopc_sp h with hB | ⟨a9, c1, s1, c2, s2, hB, h2, e1, e2⟩
    · exact t_X10_sum_B27 (K := K) (KS := KS) hF hn hd hk1 hk2 hB (fun e9 ad1 ce1 so1 q9 => hE e9 ad1 ce1 so1 (Sum.inl.inj q9)) (fun n8 ad1 ce1 so1 q9 => nomatch q9)
    · exact t_X10_sum_B27 (K := c2 + K) (KS := s2 + KS) hF hn hd (by omega) (by omega) hB (fun e9 ad1 ce1 so1 q9 => nomatch q9) (fun n8 ad1 ce1 so1 q9 x9 y9 k1 k2 => by rw [← Sum.inr.inj q9] at x9 ⊢; exact t_X10_sum_L27 (K := K) (KS := KS) hF hn hd n9 h2 (by omega) (by omega) (fun e9 ad2 ce2 so2 q8 x2 y2 => hE e9 ad2 ce2 so2 q8 (gExt.tr x9 x2) (gad_call y2 x9 y9)))
theorem t_X10_sum_B14 {Z : gZ} {d mc ms : Nat} {Acc : Option Value → (Nat → Nat) → gT → gM → Prop} {AccX : Nat → (Nat → Nat) → gT → gM → Prop} {ad : Nat → Nat} {T : gT} {M : gM} {ce so c9 s9 K KS : Nat}  {a0 : Nat} {a1 : Nat} {j2 : Int64} {i4 : Int32} {o : (Int64 × gT × gM) ⊕ (Int64 × Int32 × gT × gM)} (hF : gFix Z cX10_sum RX10 "sum" (some .long) d mc ms Acc AccX) (hn : Z.2.2.2.2.2.1 = 6) (hd : 13 ≤ d) (hk1 : ce + c9 + K ≤ mc) (hk2 : so + s9 + KS ≤ ms)  (h : f_X10_sum_B14 T M a0 a1 j2 i4 = some (o, c9, s9)) (hE : ∀ (e9 : Int64 × gT × gM) (ad1 : Nat → Nat) (ce1 so1 : Nat), o = .inl e9 → gExt T e9.2.1 → (∀ a : Nat, a < T.length → ad1 a = ad a) → ce1 + K ≤ mc → so1 + KS ≤ ms → gG Z ad1 e9.2.1 e9.2.2 ce1 so1 131 [(2, .long e9.1)] []) (hN : ∀ (n9 : Int64 × Int32 × gT × gM) (ad1 : Nat → Nat) (ce1 so1 : Nat), o = .inr n9 → gExt T n9.2.2.1 → (∀ a : Nat, a < T.length → ad1 a = ad a) → ce1 + K ≤ mc → so1 + KS ≤ ms → gG Z ad1 n9.2.2.1 n9.2.2.2 ce1 so1 14 [(0, .ref a0), (1, .ref a1), (2, .long n9.1), (4, .int n9.2.1)] []) : gG Z ad T M ce so 14 [(0, .ref a0), (1, .ref a1), (2, .long j2), (4, .int i4)] [] := by
  unfold f_X10_sum_B14 at h
  obtain ⟨_, h27, h⟩ := gbnd h
  obtain ⟨l27, q_27⟩ := gkd_sp h27
  obtain ⟨_, h28, h⟩ := gbnd h
  obtain ⟨l28, q_28⟩ := gkd_sp h28
  refine g_iload hF 3 rfl dX10_sum_14 ?_
  refine g_aload_n hF 0 rfl rfl dX10_sum_16 ?_
  obtain ⟨b31, h31, h⟩ := gbnd h
  obtain ⟨g31, l31, q_b31⟩ := ldr_sp h31
  refine g_get_r hF g31 fl_RX10_15 q_27 dX10_sum_17 ?_
  refine g_alenA hF q_b31 (by decide) dX10_sum_20 ?_
  refine g_icmp_ge (tgt := 131) hF dX10_sum_21 (by decide) (fun c32 => ?_) (fun c32 => ?_)
  · replace h := gif_t c32 h
    cases h
    exact gG_sub [2] rfl (hE _ _ _ _ rfl gExt.rf (fun _ _ => rfl) (by omega) (by omega))
  · replace h := gif_f c32 h
    refine g_iconst (v := (0 : Int32)) hF rfl dX10_sum_24 ?_
    refine g_istore (ls' := [(5, .int (0 : Int32)), (0, .ref a0), (1, .ref a1), (2, .long j2), (4, .int i4)]) hF (by rw [hn]; decide) rfl dX10_sum_25 ?_
    obtain ⟨x33, h33, h⟩ := gbnd h
    obtain ⟨c33, s33, h, ec33, es33⟩ := cadd_sp h
    refine gG_sub [1, 2, 3, 4, 0] rfl (t_X10_sum_L27 (K := c33 + K) (KS := s33 + KS) hF hn hd gFU (trip h33) (by omega) (by omega) (fun e33 adE33 ceE33 soE33 qE33 xE33 yE33 kE33 kS33 => ?_))
    subst qE33
    have X33 := gExt.tr gExt.rf xE33
    have W33 := gad_call yE33 gExt.rf (fun _ _ => rfl)
    have q_34 := xE33 _ _ q_27
    have q_35 := xE33 _ _ q_28
    refine g_iconst (v := (0 : Int32)) hF rfl dX10_sum_56 ?_
    refine g_istore (ls' := [(5, .int (0 : Int32)), (0, .ref a0), (1, .ref a1), (2, .long x33.1.1), (4, .int i4)]) hF (by rw [hn]; decide) rfl dX10_sum_57 ?_
    obtain ⟨x36, h36, h⟩ := gbnd h
    obtain ⟨c36, s36, h, ec36, es36⟩ := cadd_sp h
    refine gG_sub [1, 2, 3, 4, 0] rfl (t_X10_sum_L59 (K := c36 + K) (KS := s36 + KS) hF hn hd gFU (trip h36) (by omega) (by omega) (fun e36 adE36 ceE36 soE36 qE36 xE36 yE36 kE36 kS36 => ?_))
    subst qE36
    have X36 := gExt.tr X33 xE36
    have W36 := gad_call yE36 X33 W33
    have q_37 := xE36 _ _ q_34
    have q_38 := xE36 _ _ q_35
    refine g_iinc (n := 1) (v := (i4 + (1 : Int32))) (ls' := [(4, .int (i4 + (1 : Int32))), (0, .ref a0), (1, .ref a1), (2, .long x36.1.1)]) hF 3 rfl rfl (by rw [hn]; decide) rfl dX10_sum_125 ?_
    refine g_goto (tgt := 14) hF dX10_sum_128 (by decide) ?_
    cases h
    exact gG_sub [1, 2, 3, 0] rfl (hN _ _ _ _ rfl X36 W36 (by omega) (by omega))
theorem t_X10_sum_L14 {Z : gZ} {d mc ms : Nat} {Acc : Option Value → (Nat → Nat) → gT → gM → Prop} {AccX : Nat → (Nat → Nat) → gT → gM → Prop} {K KS : Nat} {a0 : Nat} {a1 : Nat} (hF : gFix Z cX10_sum RX10 "sum" (some .long) d mc ms Acc AccX) (hn : Z.2.2.2.2.2.1 = 6) (hd : 13 ≤ d) : ∀ (n9 : Nat) {ad : Nat → Nat} {x0 : Int64 × Int32 × gT × gM} {e0 : Int64 × gT × gM} {ce so c9 s9 : Nat}, gloopc (fun x : Int64 × Int32 × gT × gM => f_X10_sum_B14 x.2.2.1 x.2.2.2 a0 a1 x.1 x.2.1) n9 x0 = some (e0, c9, s9) → ce + c9 + K ≤ mc → so + s9 + KS ≤ ms → ∀ (hE : ∀ (e9 : Int64 × gT × gM) (ad1 : Nat → Nat) (ce1 so1 : Nat), e0 = e9 → gExt x0.2.2.1 e9.2.1 → (∀ a : Nat, a < x0.2.2.1.length → ad1 a = ad a) → ce1 + K ≤ mc → so1 + KS ≤ ms → gG Z ad1 e9.2.1 e9.2.2 ce1 so1 131 [(2, .long e9.1)] []), gG Z ad x0.2.2.1 x0.2.2.2 ce so 14 [(0, .ref a0), (1, .ref a1), (2, .long x0.1), (4, .int x0.2.1)] []
  | 0 => fun h => nomatch h
  | n9 + 1 => fun h hk1 hk2 hE => by
    rcases gloopc_sp h with hB | ⟨a9, c1, s1, c2, s2, hB, h2, e1, e2⟩
    · exact t_X10_sum_B14 (K := K) (KS := KS) hF hn hd hk1 hk2 hB (fun e9 ad1 ce1 so1 q9 => hE e9 ad1 ce1 so1 (Sum.inl.inj q9)) (fun n8 ad1 ce1 so1 q9 => nomatch q9)
    · exact t_X10_sum_B14 (K := c2 + K) (KS := s2 + KS) hF hn hd (by omega) (by omega) hB (fun e9 ad1 ce1 so1 q9 => nomatch q9) (fun n8 ad1 ce1 so1 q9 x9 y9 k1 k2 => by rw [← Sum.inr.inj q9] at x9 ⊢; exact t_X10_sum_L14 (K := K) (KS := KS) hF hn hd n9 h2 (by omega) (by omega) (fun e9 ad2 ce2 so2 q8 x2 y2 => hE e9 ad2 ce2 so2 q8 (gExt.tr x9 x2) (gad_call y2 x9 y9)))
theorem t_X10_sum {Z : gZ} {d mc ms : Nat} {Acc : Option Value → (Nat → Nat) → gT → gM → Prop} {AccX : Nat → (Nat → Nat) → gT → gM → Prop} {ad : Nat → Nat} {T : gT} {M : gM} {ce so c9 s9 : Nat} {m_a0 : Nat} {a0 : Nat} {o : Int64 × gT × gM} (hF : gFix Z cX10_sum RX10 "sum" (some .long) d mc ms Acc AccX) (hn : Z.2.2.2.2.2.1 = 6) (hd : 13 ≤ d) (hk1 : ce + c9 ≤ mc) (hk2 : so + s9 ≤ ms) (q0 : T[a0]? = some (16, m_a0)) (h : f_X10_sum T M a0 = some (o, c9, s9)) (hR : ∀ ad1 : Nat → Nat, gExt T o.2.1 → (∀ a : Nat, a < T.length → ad1 a = ad a) → Acc (some (.long o.1)) ad1 o.2.1 o.2.2) : gG Z ad T M ce so 0 [(0, .ref a0)] [] := by
  unfold f_X10_sum at h
  refine g_aload_n hF 0 rfl rfl dX10_sum_0 ?_
  obtain ⟨x39, h39, h⟩ := gbnd h
  obtain ⟨c39, s39, h, ec39, es39⟩ := cadd_sp h
  refine g_callV hF my_X10_bindings kw_1455 kw_612 kw_613 gC_16.1 (by decide) q0 (c_X10_bindings (d := d - 1) (by omega) q0 (trip h39)) (by omega) (by omega) (by omega) rfl rfl (Nat.le_of_ble_eq_true rfl) dX10_sum_1 (g_madeS (gOld_r (gT_lt q0) gOld_0) gOld_0 (fun ad39 e39 y39 => ?_))
  have X39 := gExt.tr gExt.rf e39
  have W39 := gad_call y39 gExt.rf (fun _ _ => rfl)
  have q_40 := e39 _ _ q0
  obtain ⟨_, h41, h⟩ := gbnd h
  obtain ⟨l41, q_41⟩ := gkd_sp h41
  refine g_astore_n (ls' := [(1, .ref x39.1.1), (0, .ref a0)]) hF rfl (by rw [hn]; decide) rfl dX10_sum_4 ?_
  refine g_aload_n hF 1 rfl rfl dX10_sum_5 ?_
  refine g_get_i hF fl_RX10_7 q_40 dX10_sum_6 ?_
  refine g_i2l hF dX10_sum_9 ?_
  refine g_lstore_n (ls' := [(2, .long (((gi x39.1.2.2 a0 1)).toInt64)), (1, .ref x39.1.1), (0, .ref a0)]) hF rfl (by rw [hn]; decide) rfl dX10_sum_10 ?_
  refine g_iconst (v := (0 : Int32)) hF rfl dX10_sum_11 ?_
  refine g_istore (ls' := [(4, .int (0 : Int32)), (2, .long (((gi x39.1.2.2 a0 1)).toInt64)), (1, .ref x39.1.1), (0, .ref a0)]) hF (by rw [hn]; decide) rfl dX10_sum_12 ?_
  obtain ⟨x42, h42, h⟩ := gbnd h
  obtain ⟨c42, s42, h, ec42, es42⟩ := cadd_sp h
  refine gG_sub [3, 2, 1, 0] rfl (t_X10_sum_L14 (K := c42) (KS := s42) hF hn hd gFU (trip h42) (by omega) (by omega) (fun e42 adE42 ceE42 soE42 qE42 xE42 yE42 kE42 kS42 => ?_))
  subst qE42
  have X42 := gExt.tr X39 xE42
  have W42 := gad_call yE42 X39 W39
  have q_43 := xE42 _ _ q_41
  have q_44 := xE42 _ _ q_40
  refine g_lload_n hF 0 rfl rfl dX10_sum_131 ?_
  cases h
  exact g_ret_l hF rfl dX10_sum_132 (hR adE42 X42 W42) (by omega) (by omega)
theorem c_X10_sum {d : Nat} {T : gT} {M : gM} {c9 s9 : Nat} {m_a0 : Nat} {a0 : Nat} {o : Int64 × gT × gM} (hd : 13 ≤ d) (q0 : T[a0]? = some (16, m_a0)) (h : f_X10_sum T M a0 = some (o, c9, s9)) : gRet d yX10_sum cX10_sum 6 (some .long) c9 s9 [.ref a0] T M (gMade T (some (.long o.1)) o.2.1 o.2.2) := by
  refine gRet_of (own := RX10) (by decide) rfl (Nat.le_of_ble_eq_true rfl) (fun Z ad0 hn h0 hF => ?_)
  exact t_X10_sum (ce := 0) (so := 0) hF hn hd (by omega) (by omega) q0 h (fun ad1 x1 y1 => ⟨rfl, rfl, rfl, x1, y1⟩)
theorem t_X11_init {Z : gZ} {d mc ms : Nat} {Acc : Option Value → (Nat → Nat) → gT → gM → Prop} {AccX : Nat → (Nat → Nat) → gT → gM → Prop} {ad : Nat → Nat} {T : gT} {M : gM} {ce so : Nat} {m_a0 : Nat} {a0 : Nat} {o : Unit} (hF : gFix Z cX11_init RX11 "<init>" none d mc ms Acc AccX) (hn : Z.2.2.2.2.2.1 = 1) (hd : 1 ≤ d) (hk1 : ce ≤ mc) (hk2 : so ≤ ms) (q0 : T[a0]? = some (17, m_a0)) (h : f_X11_init T M a0 = some o) (hR : Acc (none) ad T M) : gG Z ad T M ce so 0 [(0, .ref a0)] [] := by
  unfold f_X11_init at h
  refine g_aload_n hF 0 rfl rfl dX11_init_0 ?_
  refine g_obj hF kw_1380 kw_102 kw_103 (by omega) (Nat.le_of_ble_eq_true rfl) dX11_init_1 ?_
  obtain rfl := Option.some.inj h
  exact g_ret_v hF rfl dX11_init_4 hR (by omega) (by omega)
theorem c_X11_init {d : Nat} {T : gT} {M : gM} {m_a0 : Nat} {a0 : Nat} {o : Unit} (hd : 1 ≤ d) (q0 : T[a0]? = some (17, m_a0)) (h : f_X11_init T M a0 = some o) : gRet d yX11_init cX11_init 1 none 0 0 [.ref a0] T M (gSame T (none) M) := by
  refine gRet_of (own := RX11) (by decide) rfl (Nat.le_of_ble_eq_true rfl) (fun Z ad0 hn h0 hF => ?_)
  exact t_X11_init (ce := 0) (so := 0) hF hn hd (Nat.le_refl _) (Nat.le_refl _) q0 h ⟨rfl, rfl, rfl, rfl⟩
theorem t_X12_below {Z : gZ} {d mc ms : Nat} {Acc : Option Value → (Nat → Nat) → gT → gM → Prop} {AccX : Nat → (Nat → Nat) → gT → gM → Prop} {ad : Nat → Nat} {T : gT} {M : gM} {ce so : Nat} {m_a0 : Nat} {a0 : Nat} {i1 : Int32} {o : Int32 × gM} (hF : gFix Z cX12_below RX12 "below" (some .int) d mc ms Acc AccX) (hn : Z.2.2.2.2.2.1 = 2) (hd : 1 ≤ d) (hk1 : ce ≤ mc) (hk2 : so ≤ ms) (q0 : T[a0]? = some (18, m_a0)) (h : f_X12_below T M a0 i1 = some o) (hR : Acc (some (.int o.1)) ad T o.2) : gG Z ad T M ce so 0 [(0, .ref a0), (1, .int i1)] [] := by
  unfold f_X12_below at h
  refine g_aload_n hF 0 rfl rfl dX12_below_0 ?_
  refine g_ldc (v := (1103515245 : Int32)) hF kw_640 dX12_below_1 ?_
  refine g_aload_n hF 0 rfl rfl dX12_below_3 ?_
  refine g_get_i hF fl_RX12_7 q0 dX12_below_4 ?_
  refine g_imul hF dX12_below_7 ?_
  refine g_sipush (v := (12345 : Int32)) hF rfl dX12_below_8 ?_
  refine g_iadd hF dX12_below_11 ?_
  refine g_put_i hF rfl rfl fl_RX12_7 q0 dX12_below_12 ?_
  refine g_aload_n hF 0 rfl rfl dX12_below_15 ?_
  refine g_get_i hF fl_RX12_7 q0 dX12_below_16 ?_
  refine g_bipush (v := (16 : Int32)) hF rfl dX12_below_19 ?_
  refine g_iushr hF dX12_below_21 ?_
  refine g_iload_n hF 1 rfl rfl dX12_below_22 ?_
  obtain ⟨_, h1, h⟩ := gbnd h
  refine g_irem hF (chk_sp h1) dX12_below_23 ?_
  obtain rfl := Option.some.inj h
  exact g_ret_i hF rfl rfl dX12_below_24 hR (by omega) (by omega)
theorem c_X12_below {d : Nat} {T : gT} {M : gM} {m_a0 : Nat} {a0 : Nat} {i1 : Int32} {o : Int32 × gM} (hd : 1 ≤ d) (q0 : T[a0]? = some (18, m_a0)) (h : f_X12_below T M a0 i1 = some o) : gRet d yX12_below cX12_below 2 (some .int) 0 0 [.ref a0, .int i1] T M (gSame T (some (.int o.1)) o.2) := by
  refine gRet_of (own := RX12) (by decide) rfl (Nat.le_of_ble_eq_true rfl) (fun Z ad0 hn h0 hF => ?_)
  exact t_X12_below (ce := 0) (so := 0) hF hn hd (Nat.le_refl _) (Nat.le_refl _) q0 h ⟨rfl, rfl, rfl, rfl⟩
def gRecOk_X11_random (dr : Nat) (rec : gRecT_X11_random) : Prop := ∀ {d : Nat} {T : gT} {M : gM} {c9 s9 : Nat} {m_a0 : Nat} {a0 : Nat} {i1 : Int32} {o : Nat × gT × gM}, dr ≤ d → ∀ (q0 : T[a0]? = some (18, m_a0)), rec T M a0 i1 = some (o, c9, s9) → gRet d yX11_random cX11_random 3 (some (.object RX11)) c9 s9 [.ref a0, .int i1] T M (gMade T (some (.ref o.1)) o.2.1 o.2.2)
theorem t_X11_random_67 {Z : gZ} {d mc ms : Nat} {Acc : Option Value → (Nat → Nat) → gT → gM → Prop} {AccX : Nat → (Nat → Nat) → gT → gM → Prop} {ad : Nat → Nat} {T : gT} {M : gM} {ce so c9 s9 : Nat} {rec : gRecT_X11_random} {dr : Nat} {m_a0 m_a2 m_b0 : Nat} {a0 : Nat} {i1 : Int32} {a2 : Nat} {b0 : Nat} {k1 : Int32} {o : Nat × gT × gM} (hF : gFix Z cX11_random RX11 "random" (some (.object RX11)) d mc ms Acc AccX) (hn : Z.2.2.2.2.2.1 = 3) (hd : 2 ≤ d) (hrec : gRecOk_X11_random dr rec) (hdr : dr + 1 ≤ d) (hk1 : ce + c9 ≤ mc) (hk2 : so + s9 ≤ ms) (q0 : T[a0]? = some (18, m_a0)) (q2 : T[a2]? = some (17, m_a2)) (p0 : T[b0]? = some (17, m_b0)) (h : f_X11_random_67 rec T M a0 i1 a2 b0 k1 = some (o, c9, s9)) (hR : ∀ ad1 : Nat → Nat, gExt T o.2.1 → (∀ a : Nat, a < T.length → ad1 a = ad a) → Acc (some (.ref o.1)) ad1 o.2.1 o.2.2) : gG Z ad T M ce so 67 [(0, .ref a0), (1, .int i1), (2, .ref a2)] [.int k1, .ref b0] := by
  unfold f_X11_random_67 at h
  refine g_put_i hF rfl rfl fl_RX11_20 p0 dX11_random_67 ?_
  refine g_aload_n hF 2 rfl rfl dX11_random_70 ?_
  refine g_get_i hF fl_RX11_16 q2 dX11_random_71 ?_
  refine g_iconst (v := (1 : Int32)) hF rfl dX11_random_74 ?_
  refine g_icmp_le (tgt := 100) hF dX11_random_75 (by decide) (fun c1 => ?_) (fun c1 => ?_)
  · replace h := gif_t c1 h
    refine g_aload_n hF 2 rfl rfl dX11_random_100 ?_
    cases h
    exact g_ret_a hF rfl (Or.inl ⟨_, rfl⟩) dX11_random_101 (hR _ gExt.rf (fun _ _ => rfl)) (by omega) (by omega)
  · replace h := gif_f c1 h
    refine g_aload_n hF 2 rfl rfl dX11_random_78 ?_
    refine g_aload_n hF 0 rfl rfl dX11_random_79 ?_
    refine g_iload_n hF 1 rfl rfl dX11_random_80 ?_
    refine g_iconst (v := (1 : Int32)) hF rfl dX11_random_81 ?_
    refine g_isub hF dX11_random_82 ?_
    obtain ⟨x2, h2, h⟩ := gbnd h
    obtain ⟨c2, s2, h, ec2, es2⟩ := cadd_sp h
    refine g_callS hF my_X11_random kw_1395 kw_1373 (hrec (d := d - 1) (by omega) q0 (trip h2)) (by omega) (by omega) (by omega) rfl rfl (Nat.le_of_ble_eq_true rfl) dX11_random_83 (g_madeS (gOld_r (gT_lt q0) (gOld_i (gOld_r (gT_lt q2) gOld_0))) (gOld_r (gT_lt q2) gOld_0) (fun ad2 e2 y2 => ?_))
    have X2 := gExt.tr gExt.rf e2
    have W2 := gad_call y2 gExt.rf (fun _ _ => rfl)
    have q_3 := e2 _ _ q0
    have q_4 := e2 _ _ q2
    obtain ⟨_, h5, h⟩ := gbnd h
    obtain ⟨l5, q_5⟩ := gkd_sp h5
    refine g_put_r hF (fun _ => rfl) (fun _ => rfl) (gT_lt q_5) fl_RX11_27 q_4 dX11_random_86 ?_
    refine g_aload_n hF 2 rfl rfl dX11_random_89 ?_
    refine g_aload_n hF 0 rfl rfl dX11_random_90 ?_
    refine g_iload_n hF 1 rfl rfl dX11_random_91 ?_
    refine g_iconst (v := (1 : Int32)) hF rfl dX11_random_92 ?_
    refine g_isub hF dX11_random_93 ?_
    obtain ⟨x6, h6, h⟩ := gbnd h
    obtain ⟨c6, s6, h, ec6, es6⟩ := cadd_sp h
    refine g_callS hF my_X11_random kw_1395 kw_1373 (hrec (d := d - 1) (by omega) q_3 (trip h6)) (by omega) (by omega) (by omega) rfl rfl (Nat.le_of_ble_eq_true rfl) dX11_random_94 (g_madeS (gOld_r (gT_lt q_3) (gOld_i (gOld_r (gT_lt q_4) gOld_0))) (gOld_r (gT_lt q_4) gOld_0) (fun ad6 e6 y6 => ?_))
    have X6 := gExt.tr X2 e6
    have W6 := gad_call y6 X2 W2
    have q_7 := e6 _ _ q_3
    have q_8 := e6 _ _ q_4
    obtain ⟨_, h9, h⟩ := gbnd h
    obtain ⟨l9, q_9⟩ := gkd_sp h9
    refine g_put_r hF (fun _ => rfl) (fun _ => rfl) (gT_lt q_9) fl_RX11_31 q_8 dX11_random_97 ?_
    refine g_aload_n hF 2 rfl rfl dX11_random_100 ?_
    cases h
    exact g_ret_a hF rfl (Or.inl ⟨_, rfl⟩) dX11_random_101 (hR ad6 X6 W6) (by omega) (by omega)
theorem t_X11_random_56 {Z : gZ} {d mc ms : Nat} {Acc : Option Value → (Nat → Nat) → gT → gM → Prop} {AccX : Nat → (Nat → Nat) → gT → gM → Prop} {ad : Nat → Nat} {T : gT} {M : gM} {ce so c9 s9 : Nat} {rec : gRecT_X11_random} {dr : Nat} {m_a0 m_a2 m_b0 m_b1 : Nat} {a0 : Nat} {i1 : Int32} {a2 : Nat} {b0 : Nat} {b1 : Nat} {k2 : Int32} {o : Nat × gT × gM} (hF : gFix Z cX11_random RX11 "random" (some (.object RX11)) d mc ms Acc AccX) (hn : Z.2.2.2.2.2.1 = 3) (hd : 2 ≤ d) (hrec : gRecOk_X11_random dr rec) (hdr : dr + 1 ≤ d) (hk1 : ce + c9 ≤ mc) (hk2 : so + s9 ≤ ms) (q0 : T[a0]? = some (18, m_a0)) (q2 : T[a2]? = some (17, m_a2)) (p0 : T[b0]? = some (17, m_b0)) (p1 : T[b1]? = some (18, m_b1)) (h : f_X11_random_56 rec T M a0 i1 a2 b0 b1 k2 = some (o, c9, s9)) (hR : ∀ ad1 : Nat → Nat, gExt T o.2.1 → (∀ a : Nat, a < T.length → ad1 a = ad a) → Acc (some (.ref o.1)) ad1 o.2.1 o.2.2) : gG Z ad T M ce so 56 [(0, .ref a0), (1, .int i1), (2, .ref a2)] [.int k2, .ref b1, .ref b0] := by
  unfold f_X11_random_56 at h
  obtain ⟨x10, h10, h⟩ := gbnd h
  refine g_callV hF my_X12_below kw_1394 kw_637 kw_638 gC_18.1 (by decide) p1 (c_X12_below (d := d - 1) (by omega) p1 h10) (by omega) (by omega) (by omega) rfl rfl (Nat.le_of_ble_eq_true rfl) dX11_random_56 (g_sameS ?_)
  refine g_goto (tgt := 67) hF dX11_random_59 (by decide) ?_
  exact gG_sub [0, 1, 2] rfl (t_X11_random_67 hF hn hd hrec hdr (by omega) (by omega) q0 q2 p0 h (fun ad1 x1 y1 => hR ad1 (gExt.tr gExt.rf x1) (gad_call y1 gExt.rf (fun _ _ => rfl))))
