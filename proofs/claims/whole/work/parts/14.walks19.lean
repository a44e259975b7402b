theorem t_X9_keepBindings_B18 {Z : gZ} {d mc ms : Nat} {Acc : Option Value → (Nat → Nat) → gT → gM → Prop} {AccX : Nat → (Nat → Nat) → gT → gM → Prop} {ad : Nat → Nat} {T : gT} {M : gM} {m_a0 : Nat} {a0 : Nat} {i1 : Int32} {i2 : Int32} {o : (gM) ⊕ (Int32 × gM)} (hF : gFix Z cX9_keepBindings RX9 "keepBindings" none d mc ms Acc AccX) (hn : Z.2.2.2.2.2.1 = 3) (hd : 7 ≤ d) (q0 : T[a0]? = some (9, m_a0)) (h : f_X9_keepBindings_B18 T M a0 i1 i2 = some o) (hE : ∀ e9, o = .inl e9 → gG Z ad T e9 0 0 50 [(0, .ref a0), (1, .int i1)] []) (hN : ∀ n9, o = .inr n9 → gG Z ad T n9.2 0 0 18 [(0, .ref a0), (1, .int i1), (2, .int n9.1)] []) : gG Z ad T M 0 0 18 [(0, .ref a0), (1, .int i1), (2, .int i2)] [] := by
  unfold f_X9_keepBindings_B18 at h
  refine g_iload_n hF 2 rfl rfl dX9_keepBindings_18 ?_
  refine g_aload_n hF 0 rfl rfl dX9_keepBindings_19 ?_
  obtain ⟨b1, h1, h⟩ := gbnd h
  obtain ⟨g1, l1, q_b1⟩ := ldr_sp h1
  refine g_get_r hF g1 fl_RX9_17 q0 dX9_keepBindings_20 ?_
  refine g_iconst (v := (2 : Int32)) hF rfl dX9_keepBindings_23 ?_
  obtain ⟨v2, h2, h⟩ := gbnd h
  obtain ⟨i2h, e2v⟩ := ald_sp q_b1 h2
  refine g_iald hF q_b1 i2h dX9_keepBindings_24 ?_
  rw [← e2v]
  refine g_icmp_ge (tgt := 50) hF dX9_keepBindings_25 (by decide) (fun c3 => ?_) (fun c3 => ?_)
  · replace h := gif_t c3 h
    exact gG_sub [0, 1] rfl (hE _ (Option.some.inj h).symm)
  · replace h := gif_f c3 h
    refine g_aload_n hF 0 rfl rfl dX9_keepBindings_28 ?_
    obtain ⟨b4, h4, h⟩ := gbnd h
    obtain ⟨g4, l4, q_b4⟩ := ldr_sp h4
    refine g_get_r hF g4 fl_RX9_53 q0 dX9_keepBindings_29 ?_
    refine g_iload_n hF 1 rfl rfl dX9_keepBindings_32 ?_
    obtain ⟨b5, h5, h⟩ := gbnd h
    obtain ⟨i5h, g5, l5, q_b5⟩ := aldr_sp q_b4 h5
    refine g_aald2 hF q_b4 i5h g5 dX9_keepBindings_33 ?_
    refine g_iload_n hF 2 rfl rfl dX9_keepBindings_34 ?_
    refine g_aload_n hF 0 rfl rfl dX9_keepBindings_35 ?_
    obtain ⟨b6, h6, h⟩ := gbnd h
    obtain ⟨g6, l6, q_b6⟩ := ldr_sp h6
    refine g_get_r hF g6 fl_RX9_50 q0 dX9_keepBindings_36 ?_
    refine g_iload_n hF 1 rfl rfl dX9_keepBindings_39 ?_
    obtain ⟨b7, h7, h⟩ := gbnd h
    obtain ⟨i7h, g7, l7, q_b7⟩ := aldr_sp q_b6 h7
    refine g_aald2 hF q_b6 i7h g7 dX9_keepBindings_40 ?_
    refine g_iload_n hF 2 rfl rfl dX9_keepBindings_41 ?_
    obtain ⟨v8, h8, h⟩ := gbnd h
    obtain ⟨i8h, e8v⟩ := ald_sp q_b7 h8
    refine g_iald hF q_b7 i8h dX9_keepBindings_42 ?_
    rw [← e8v]
    obtain ⟨M9, h9, h⟩ := gbnd h
    obtain ⟨i9h, e9v⟩ := ast_sp q_b5 h9
    refine g_iast hF q_b5 i9h dX9_keepBindings_43 ?_
    rw [← e9v]
    refine g_iinc (n := 1) (v := (i2 + (1 : Int32))) (ls' := [(2, .int (i2 + (1 : Int32))), (0, .ref a0), (1, .int i1)]) hF 2 rfl rfl (by rw [hn]; decide) rfl dX9_keepBindings_44 ?_
    refine g_goto (tgt := 18) hF dX9_keepBindings_47 (by decide) ?_
    exact gG_sub [1, 2, 0] rfl (hN _ (Option.some.inj h).symm)
theorem t_X9_keepBindings_L18 {Z : gZ} {d mc ms : Nat} {Acc : Option Value → (Nat → Nat) → gT → gM → Prop} {AccX : Nat → (Nat → Nat) → gT → gM → Prop} {ad : Nat → Nat} {T : gT} {M : gM} {m_a0 : Nat} {a0 : Nat} {i1 : Int32} {i2 : Int32} {o : gM} (hF : gFix Z cX9_keepBindings RX9 "keepBindings" none d mc ms Acc AccX) (hn : Z.2.2.2.2.2.1 = 3) (hd : 7 ≤ d) (q0 : T[a0]? = some (9, m_a0)) (h : gloop (fun x => f_X9_keepBindings_B18 T x.2 a0 i1 x.1) gFU (i2, M) = some o) (hE : gG Z ad T o 0 0 50 [(0, .ref a0), (1, .int i1)] []) : gG Z ad T M 0 0 18 [(0, .ref a0), (1, .int i1), (2, .int i2)] [] := by
  refine gloop_ind (P := fun x0 : Int32 × gM => gG Z ad T x0.2 0 0 18 [(0, .ref a0), (1, .int i1), (2, .int x0.1)] []) (e := o) (fun x0 y hy hl hr => ?_) gFU (i2, M) h
  exact t_X9_keepBindings_B18 hF hn hd q0 hy (fun e9 q9 => by rw [hl _ q9]; exact hE) (fun n9 q9 => hr n9 q9)
theorem t_X9_keepBindings_B6 {Z : gZ} {d mc ms : Nat} {Acc : Option Value → (Nat → Nat) → gT → gM → Prop} {AccX : Nat → (Nat → Nat) → gT → gM → Prop} {ad : Nat → Nat} {T : gT} {M : gM} {m_a0 : Nat} {a0 : Nat} {i1 : Int32} {o : (gM) ⊕ (Int32 × gM)} (hF : gFix Z cX9_keepBindings RX9 "keepBindings" none d mc ms Acc AccX) (hn : Z.2.2.2.2.2.1 = 3) (hd : 7 ≤ d) (q0 : T[a0]? = some (9, m_a0)) (h : f_X9_keepBindings_B6 T M a0 i1 = some o) (hE : ∀ e9, o = .inl e9 → gG Z ad T e9 0 0 56 [] []) (hN : ∀ n9, o = .inr n9 → gG Z ad T n9.2 0 0 6 [(0, .ref a0), (1, .int n9.1)] []) : gG Z ad T M 0 0 6 [(0, .ref a0), (1, .int i1)] [] := by
  unfold f_X9_keepBindings_B6 at h
  refine g_iload_n hF 1 rfl rfl dX9_keepBindings_6 ?_
  refine g_aload_n hF 0 rfl rfl dX9_keepBindings_7 ?_
  obtain ⟨b10, h10, h⟩ := gbnd h
  obtain ⟨g10, l10, q_b10⟩ := ldr_sp h10
  refine g_get_r hF g10 fl_RX9_17 q0 dX9_keepBindings_8 ?_
  refine g_iconst (v := (1 : Int32)) hF rfl dX9_keepBindings_11 ?_
  obtain ⟨v11, h11, h⟩ := gbnd h
  obtain ⟨i11h, e11v⟩ := ald_sp q_b10 h11
  refine g_iald hF q_b10 i11h dX9_keepBindings_12 ?_
  rw [← e11v]
  refine g_icmp_ge (tgt := 56) hF dX9_keepBindings_13 (by decide) (fun c12 => ?_) (fun c12 => ?_)
  · replace h := gif_t c12 h
    exact gG_sub [] rfl (hE _ (Option.some.inj h).symm)
  · replace h := gif_f c12 h
    refine g_iconst (v := (0 : Int32)) hF rfl dX9_keepBindings_16 ?_
    refine g_istore_n (ls' := [(2, .int (0 : Int32)), (0, .ref a0), (1, .int i1)]) hF rfl (by rw [hn]; decide) rfl dX9_keepBindings_17 ?_
    obtain ⟨x13, h13, h⟩ := gbnd h
    refine gG_sub [1, 2, 0] rfl (t_X9_keepBindings_L18 hF hn hd q0 h13 ?_)
    refine g_iinc (n := 1) (v := (i1 + (1 : Int32))) (ls' := [(1, .int (i1 + (1 : Int32))), (0, .ref a0)]) hF 1 rfl rfl (by rw [hn]; decide) rfl dX9_keepBindings_50 ?_
    refine g_goto (tgt := 6) hF dX9_keepBindings_53 (by decide) ?_
    exact gG_sub [1, 0] rfl (hN _ (Option.some.inj h).symm)
theorem t_X9_keepBindings_L6 {Z : gZ} {d mc ms : Nat} {Acc : Option Value → (Nat → Nat) → gT → gM → Prop} {AccX : Nat → (Nat → Nat) → gT → gM → Prop} {ad : Nat → Nat} {T : gT} {M : gM} {m_a0 : Nat} {a0 : Nat} {i1 : Int32} {o : gM} (hF : gFix Z cX9_keepBindings RX9 "keepBindings" none d mc ms Acc AccX) (hn : Z.2.2.2.2.2.1 = 3) (hd : 7 ≤ d) (q0 : T[a0]? = some (9, m_a0)) (h : gloop (fun x => f_X9_keepBindings_B6 T x.2 a0 x.1) gFU (i1, M) = some o) (hE : gG Z ad T o 0 0 56 [] []) : gG Z ad T M 0 0 6 [(0, .ref a0), (1, .int i1)] [] := by
  refine gloop_ind (P := fun x0 : Int32 × gM => gG Z ad T x0.2 0 0 6 [(0, .ref a0), (1, .int x0.1)] []) (e := o) (fun x0 y hy hl hr => ?_) gFU (i1, M) h
  exact t_X9_keepBindings_B6 hF hn hd q0 hy (fun e9 q9 => by rw [hl _ q9]; exact hE) (fun n9 q9 => hr n9 q9)
theorem t_X9_keepBindings {Z : gZ} {d mc ms : Nat} {Acc : Option Value → (Nat → Nat) → gT → gM → Prop} {AccX : Nat → (Nat → Nat) → gT → gM → Prop} {ad : Nat → Nat} {T : gT} {M : gM} {m_a0 : Nat} {a0 : Nat} {o : gM} (hF : gFix Z cX9_keepBindings RX9 "keepBindings" none d mc ms Acc AccX) (hn : Z.2.2.2.2.2.1 = 3) (hd : 7 ≤ d) (q0 : T[a0]? = some (9, m_a0)) (h : f_X9_keepBindings T M a0 = some o) (hR : Acc none ad T o) : gG Z ad T M 0 0 0 [(0, .ref a0)] [] := by
  unfold f_X9_keepBindings at h
  refine g_aload_n hF 0 rfl rfl dX9_keepBindings_0 ?_
  obtain ⟨x14, h14, h⟩ := gbnd h
  refine g_callV hF my_X9_layAll kw_1400 kw_1402 kw_98 gC_9.1 (by decide) q0 (c_X9_layAll (d := d - 1) (by omega) q0 h14) (by omega) (Nat.zero_le _) (Nat.zero_le _) rfl rfl (Nat.le_of_ble_eq_true rfl) dX9_keepBindings_1 (g_sameN ?_)
  refine g_iconst (v := (0 : Int32)) hF rfl dX9_keepBindings_4 ?_
  refine g_istore_n (ls' := [(1, .int (0 : Int32)), (0, .ref a0)]) hF rfl (by rw [hn]; decide) rfl dX9_keepBindings_5 ?_
  obtain ⟨x15, h15, h⟩ := gbnd h
  refine gG_sub [1, 0] rfl (t_X9_keepBindings_L6 hF hn hd q0 h15 ?_)
  cases h
  exact g_ret_v hF rfl dX9_keepBindings_56 hR (Nat.zero_le _) (Nat.zero_le _)
theorem c_X9_keepBindings {d : Nat} {T : gT} {M : gM} {m_a0 : Nat} {a0 : Nat} {r : gM} (hd : 7 ≤ d) (q0 : T[a0]? = some (9, m_a0)) (h : f_X9_keepBindings T M a0 = some (r)) : gRet d yX9_keepBindings cX9_keepBindings 3 none 0 0 [.ref a0] T M (gSame T none r) := by
  refine gRet_of (own := RX9) (by decide) rfl (Nat.le_of_ble_eq_true rfl) (fun Z ad0 hn h0 hF => ?_)
  exact t_X9_keepBindings hF hn hd q0 h ⟨rfl, rfl, rfl, rfl⟩
theorem t_X9_changedBut_72 {Z : gZ} {d mc ms : Nat} {Acc : Option Value → (Nat → Nat) → gT → gM → Prop} {AccX : Nat → (Nat → Nat) → gT → gM → Prop} {ad : Nat → Nat} {T : gT} {M : gM} {m_a0 : Nat} {a0 : Nat} {i1 : Int32} {i3 : Int32} {i4 : Int32} {k0 : Int32} {k1 : Int32} {o : (Int32) ⊕ (Int32 × Int32)} (hF : gFix Z cX9_changedBut RX9 "changedBut" (some .int) d mc ms Acc AccX) (hn : Z.2.2.2.2.2.1 = 5) (hd : 7 ≤ d) (q0 : T[a0]? = some (9, m_a0)) (h : f_X9_changedBut_72 T M a0 i1 i3 i4 k0 k1 = some o) (hE : ∀ e9, o = .inl e9 → gG Z ad T M 0 0 80 [(0, .ref a0), (1, .int i1), (2, .int e9), (3, .int i3)] []) (hN : ∀ n9, o = .inr n9 → gG Z ad T M 0 0 21 [(0, .ref a0), (1, .int i1), (2, .int n9.1), (3, .int i3), (4, .int n9.2)] []) : gG Z ad T M 0 0 72 [(0, .ref a0), (1, .int i1), (3, .int i3), (4, .int i4)] [.int k1, .int k0] := by
  unfold f_X9_changedBut_72 at h
  refine g_iadd hF dX9_changedBut_72 ?_
  refine g_istore_n (ls' := [(2, .int (k0 + k1)), (0, .ref a0), (1, .int i1), (3, .int i3), (4, .int i4)]) hF rfl (by rw [hn]; decide) rfl dX9_changedBut_73 ?_
  refine g_iinc (n := 1) (v := (i4 + (1 : Int32))) (ls' := [(4, .int (i4 + (1 : Int32))), (2, .int (k0 + k1)), (0, .ref a0), (1, .int i1), (3, .int i3)]) hF 4 rfl rfl (by rw [hn]; decide) rfl dX9_changedBut_74 ?_
  refine g_goto (tgt := 21) hF dX9_changedBut_77 (by decide) ?_
  exact gG_sub [2, 3, 1, 4, 0] rfl (hN _ (Option.some.inj h).symm)
theorem t_X9_changedBut_71 {Z : gZ} {d mc ms : Nat} {Acc : Option Value → (Nat → Nat) → gT → gM → Prop} {AccX : Nat → (Nat → Nat) → gT → gM → Prop} {ad : Nat → Nat} {T : gT} {M : gM} {m_a0 : Nat} {a0 : Nat} {i1 : Int32} {i3 : Int32} {i4 : Int32} {k0 : Int32} {o : (Int32) ⊕ (Int32 × Int32)} (hF : gFix Z cX9_changedBut RX9 "changedBut" (some .int) d mc ms Acc AccX) (hn : Z.2.2.2.2.2.1 = 5) (hd : 7 ≤ d) (q0 : T[a0]? = some (9, m_a0)) (h : f_X9_changedBut_71 T M a0 i1 i3 i4 k0 = some o) (hE : ∀ e9, o = .inl e9 → gG Z ad T M 0 0 80 [(0, .ref a0), (1, .int i1), (2, .int e9), (3, .int i3)] []) (hN : ∀ n9, o = .inr n9 → gG Z ad T M 0 0 21 [(0, .ref a0), (1, .int i1), (2, .int n9.1), (3, .int i3), (4, .int n9.2)] []) : gG Z ad T M 0 0 71 [(0, .ref a0), (1, .int i1), (3, .int i3), (4, .int i4)] [.int k0] := by
  unfold f_X9_changedBut_71 at h
  refine g_iconst (v := (0 : Int32)) hF rfl dX9_changedBut_71 ?_
  exact gG_sub [0, 1, 2, 3] rfl (t_X9_changedBut_72 hF hn hd q0 h hE hN)
theorem t_X9_changedBut_B21 {Z : gZ} {d mc ms : Nat} {Acc : Option Value → (Nat → Nat) → gT → gM → Prop} {AccX : Nat → (Nat → Nat) → gT → gM → Prop} {ad : Nat → Nat} {T : gT} {M : gM} {m_a0 : Nat} {a0 : Nat} {i1 : Int32} {i2 : Int32} {i3 : Int32} {i4 : Int32} {o : (Int32) ⊕ (Int32 × Int32)} (hF : gFix Z cX9_changedBut RX9 "changedBut" (some .int) d mc ms Acc AccX) (hn : Z.2.2.2.2.2.1 = 5) (hd : 7 ≤ d) (q0 : T[a0]? = some (9, m_a0)) (h : f_X9_changedBut_B21 T M a0 i1 i2 i3 i4 = some o) (hE : ∀ e9, o = .inl e9 → gG Z ad T M 0 0 80 [(0, .ref a0), (1, .int i1), (2, .int e9), (3, .int i3)] []) (hN : ∀ n9, o = .inr n9 → gG Z ad T M 0 0 21 [(0, .ref a0), (1, .int i1), (2, .int n9.1), (3, .int i3), (4, .int n9.2)] []) : gG Z ad T M 0 0 21 [(0, .ref a0), (1, .int i1), (2, .int i2), (3, .int i3), (4, .int i4)] [] := by
  unfold f_X9_changedBut_B21 at h
  refine g_iload hF 4 rfl dX9_changedBut_21 ?_
  refine g_aload_n hF 0 rfl rfl dX9_changedBut_23 ?_
  obtain ⟨b1, h1, h⟩ := gbnd h
  obtain ⟨g1, l1, q_b1⟩ := ldr_sp h1
  refine g_get_r hF g1 fl_RX9_17 q0 dX9_changedBut_24 ?_
  refine g_iconst (v := (2 : Int32)) hF rfl dX9_changedBut_27 ?_
  obtain ⟨v2, h2, h⟩ := gbnd h
  obtain ⟨i2h, e2v⟩ := ald_sp q_b1 h2
  refine g_iald hF q_b1 i2h dX9_changedBut_28 ?_
  rw [← e2v]
  refine g_icmp_ge (tgt := 80) hF dX9_changedBut_29 (by decide) (fun c3 => ?_) (fun c3 => ?_)
  · replace h := gif_t c3 h
    exact gG_sub [0, 1, 2, 3] rfl (hE _ (Option.some.inj h).symm)
  · replace h := gif_f c3 h
    refine g_iload_n hF 2 rfl rfl dX9_changedBut_32 ?_
    refine g_iload_n hF 3 rfl rfl dX9_changedBut_33 ?_
    refine g_iload_n hF 1 rfl rfl dX9_changedBut_34 ?_
    refine g_icmp_eq (tgt := 71) hF dX9_changedBut_35 (by decide) (fun c4 => ?_) (fun c4 => ?_)
    · replace h := gif_t c4 h
      exact gG_sub [0, 1, 3, 4] rfl (t_X9_changedBut_71 hF hn hd q0 h hE hN)
    · replace h := gif_f c4 h
      refine g_aload_n hF 0 rfl rfl dX9_changedBut_38 ?_
      refine g_iload_n hF 3 rfl rfl dX9_changedBut_39 ?_
      obtain ⟨x5, h5, h⟩ := gbnd h
      refine g_callV hF my_X9_isLoaded kw_1343 kw_1345 kw_90 gC_9.1 (by decide) q0 (c_X9_isLoaded (d := d - 1) (by omega) q0 h5) (by omega) (Nat.zero_le _) (Nat.zero_le _) rfl rfl (Nat.le_of_ble_eq_true rfl) dX9_changedBut_40 (g_sameS ?_)
      refine g_if_eq (tgt := 71) hF dX9_changedBut_43 (by decide) (fun c6 => ?_) (fun c6 => ?_)
      · replace h := gif_t c6 h
        exact gG_sub [0, 1, 3, 4] rfl (t_X9_changedBut_71 hF hn hd q0 h hE hN)
      · replace h := gif_f c6 h
        refine g_aload_n hF 0 rfl rfl dX9_changedBut_46 ?_
        obtain ⟨b7, h7, h⟩ := gbnd h
        obtain ⟨g7, l7, q_b7⟩ := ldr_sp h7
        refine g_get_r hF g7 fl_RX9_53 q0 dX9_changedBut_47 ?_
        refine g_iload_n hF 3 rfl rfl dX9_changedBut_50 ?_
        obtain ⟨b8, h8, h⟩ := gbnd h
        obtain ⟨i8h, g8, l8, q_b8⟩ := aldr_sp q_b7 h8
        refine g_aald2 hF q_b7 i8h g8 dX9_changedBut_51 ?_
        refine g_iload hF 4 rfl dX9_changedBut_52 ?_
        obtain ⟨v9, h9, h⟩ := gbnd h
        obtain ⟨i9h, e9v⟩ := ald_sp q_b8 h9
        refine g_iald hF q_b8 i9h dX9_changedBut_54 ?_
        rw [← e9v]
        refine g_aload_n hF 0 rfl rfl dX9_changedBut_55 ?_
        obtain ⟨b10, h10, h⟩ := gbnd h
        obtain ⟨g10, l10, q_b10⟩ := ldr_sp h10
        refine g_get_r hF g10 fl_RX9_50 q0 dX9_changedBut_56 ?_
        refine g_iload_n hF 3 rfl rfl dX9_changedBut_59 ?_
        obtain ⟨b11, h11, h⟩ := gbnd h
        obtain ⟨i11h, g11, l11, q_b11⟩ := aldr_sp q_b10 h11
        refine g_aald2 hF q_b10 i11h g11 dX9_changedBut_60 ?_
        refine g_iload hF 4 rfl dX9_changedBut_61 ?_
        obtain ⟨v12, h12, h⟩ := gbnd h
        obtain ⟨i12h, e12v⟩ := ald_sp q_b11 h12
        refine g_iald hF q_b11 i12h dX9_changedBut_63 ?_
        rw [← e12v]
        refine g_icmp_eq (tgt := 71) hF dX9_changedBut_64 (by decide) (fun c13 => ?_) (fun c13 => ?_)
        · replace h := gif_t c13 h
          exact gG_sub [0, 1, 3, 4] rfl (t_X9_changedBut_71 hF hn hd q0 h hE hN)
        · replace h := gif_f c13 h
          refine g_iconst (v := (1 : Int32)) hF rfl dX9_changedBut_67 ?_
          refine g_goto (tgt := 72) hF dX9_changedBut_68 (by decide) ?_
          exact gG_sub [0, 1, 3, 4] rfl (t_X9_changedBut_72 hF hn hd q0 h hE hN)
theorem t_X9_changedBut_L21 {Z : gZ} {d mc ms : Nat} {Acc : Option Value → (Nat → Nat) → gT → gM → Prop} {AccX : Nat → (Nat → Nat) → gT → gM → Prop} {ad : Nat → Nat} {T : gT} {M : gM} {m_a0 : Nat} {a0 : Nat} {i1 : Int32} {i2 : Int32} {i3 : Int32} {i4 : Int32} {o : Int32} (hF : gFix Z cX9_changedBut RX9 "changedBut" (some .int) d mc ms Acc AccX) (hn : Z.2.2.2.2.2.1 = 5) (hd : 7 ≤ d) (q0 : T[a0]? = some (9, m_a0)) (h : gloop (fun x => f_X9_changedBut_B21 T M a0 i1 x.1 i3 x.2) gFU (i2, i4) = some o) (hE : gG Z ad T M 0 0 80 [(0, .ref a0), (1, .int i1), (2, .int o), (3, .int i3)] []) : gG Z ad T M 0 0 21 [(0, .ref a0), (1, .int i1), (2, .int i2), (3, .int i3), (4, .int i4)] [] := by
  refine gloop_ind (P := fun x0 : Int32 × Int32 => gG Z ad T M 0 0 21 [(0, .ref a0), (1, .int i1), (2, .int x0.1), (3, .int i3), (4, .int x0.2)] []) (e := o) (fun x0 y hy hl hr => ?_) gFU (i2, i4) h
  exact t_X9_changedBut_B21 hF hn hd q0 hy (fun e9 q9 => by rw [hl _ q9]; exact hE) (fun n9 q9 => hr n9 q9)
theorem t_X9_changedBut_B8 {Z : gZ} {d mc ms : Nat} {Acc : Option Value → (Nat → Nat) → gT → gM → Prop} {AccX : Nat → (Nat → Nat) → gT → gM → Prop} {ad : Nat → Nat} {T : gT} {M : gM} {m_a0 : Nat} {a0 : Nat} {i1 : Int32} {i2 : Int32} {i3 : Int32} {o : (Int32) ⊕ (Int32 × Int32)} (hF : gFix Z cX9_changedBut RX9 "changedBut" (some .int) d mc ms Acc AccX) (hn : Z.2.2.2.2.2.1 = 5) (hd : 7 ≤ d) (q0 : T[a0]? = some (9, m_a0)) (h : f_X9_changedBut_B8 T M a0 i1 i2 i3 = some o) (hE : ∀ e9, o = .inl e9 → gG Z ad T M 0 0 86 [(2, .int e9)] []) (hN : ∀ n9, o = .inr n9 → gG Z ad T M 0 0 8 [(0, .ref a0), (1, .int i1), (2, .int n9.1), (3, .int n9.2)] []) : gG Z ad T M 0 0 8 [(0, .ref a0), (1, .int i1), (2, .int i2), (3, .int i3)] [] := by
  unfold f_X9_changedBut_B8 at h
  refine g_iload_n hF 3 rfl rfl dX9_changedBut_8 ?_
  refine g_aload_n hF 0 rfl rfl dX9_changedBut_9 ?_
  obtain ⟨b14, h14, h⟩ := gbnd h
  obtain ⟨g14, l14, q_b14⟩ := ldr_sp h14
  refine g_get_r hF g14 fl_RX9_17 q0 dX9_changedBut_10 ?_
  refine g_iconst (v := (1 : Int32)) hF rfl dX9_changedBut_13 ?_
  obtain ⟨v15, h15, h⟩ := gbnd h
  obtain ⟨i15h, e15v⟩ := ald_sp q_b14 h15
  refine g_iald hF q_b14 i15h dX9_changedBut_14 ?_
  rw [← e15v]
  refine g_icmp_ge (tgt := 86) hF dX9_changedBut_15 (by decide) (fun c16 => ?_) (fun c16 => ?_)
  · replace h := gif_t c16 h
    exact gG_sub [2] rfl (hE _ (Option.some.inj h).symm)
  · replace h := gif_f c16 h
    refine g_iconst (v := (0 : Int32)) hF rfl dX9_changedBut_18 ?_
    refine g_istore (ls' := [(4, .int (0 : Int32)), (0, .ref a0), (1, .int i1), (2, .int i2), (3, .int i3)]) hF (by rw [hn]; decide) rfl dX9_changedBut_19 ?_
    obtain ⟨x17, h17, h⟩ := gbnd h
    refine gG_sub [1, 2, 3, 4, 0] rfl (t_X9_changedBut_L21 hF hn hd q0 h17 ?_)
    refine g_iinc (n := 1) (v := (i3 + (1 : Int32))) (ls' := [(3, .int (i3 + (1 : Int32))), (0, .ref a0), (1, .int i1), (2, .int x17)]) hF 3 rfl rfl (by rw [hn]; decide) rfl dX9_changedBut_80 ?_
    refine g_goto (tgt := 8) hF dX9_changedBut_83 (by decide) ?_
    exact gG_sub [1, 2, 3, 0] rfl (hN _ (Option.some.inj h).symm)
theorem t_X9_changedBut_L8 {Z : gZ} {d mc ms : Nat} {Acc : Option Value → (Nat → Nat) → gT → gM → Prop} {AccX : Nat → (Nat → Nat) → gT → gM → Prop} {ad : Nat → Nat} {T : gT} {M : gM} {m_a0 : Nat} {a0 : Nat} {i1 : Int32} {i2 : Int32} {i3 : Int32} {o : Int32} (hF : gFix Z cX9_changedBut RX9 "changedBut" (some .int) d mc ms Acc AccX) (hn : Z.2.2.2.2.2.1 = 5) (hd : 7 ≤ d) (q0 : T[a0]? = some (9, m_a0)) (h : gloop (fun x => f_X9_changedBut_B8 T M a0 i1 x.1 x.2) gFU (i2, i3) = some o) (hE : gG Z ad T M 0 0 86 [(2, .int o)] []) : gG Z ad T M 0 0 8 [(0, .ref a0), (1, .int i1), (2, .int i2), (3, .int i3)] [] := by
  refine gloop_ind (P := fun x0 : Int32 × Int32 => gG Z ad T M 0 0 8 [(0, .ref a0), (1, .int i1), (2, .int x0.1), (3, .int x0.2)] []) (e := o) (fun x0 y hy hl hr => ?_) gFU (i2, i3) h
  exact t_X9_changedBut_B8 hF hn hd q0 hy (fun e9 q9 => by rw [hl _ q9]; exact hE) (fun n9 q9 => hr n9 q9)
theorem t_X9_changedBut {Z : gZ} {d mc ms : Nat} {Acc : Option Value → (Nat → Nat) → gT → gM → Prop} {AccX : Nat → (Nat → Nat) → gT → gM → Prop} {ad : Nat → Nat} {T : gT} {M : gM} {m_a0 : Nat} {a0 : Nat} {i1 : Int32} {o : Int32 × gM} (hF : gFix Z cX9_changedBut RX9 "changedBut" (some .int) d mc ms Acc AccX) (hn : Z.2.2.2.2.2.1 = 5) (hd : 7 ≤ d) (q0 : T[a0]? = some (9, m_a0)) (h : f_X9_changedBut T M a0 i1 = some o) (hR : Acc (some (.int o.1)) ad T o.2) : gG Z ad T M 0 0 0 [(0, .ref a0), (1, .int i1)] [] := by
  unfold f_X9_changedBut at h
  refine g_aload_n hF 0 rfl rfl dX9_changedBut_0 ?_
  obtain ⟨x18, h18, h⟩ := gbnd h
  refine g_callV hF my_X9_layAll kw_1400 kw_1402 kw_98 gC_9.1 (by decide) q0 (c_X9_layAll (d := d - 1) (by omega) q0 h18) (by omega) (Nat.zero_le _) (Nat.zero_le _) rfl rfl (Nat.le_of_ble_eq_true rfl) dX9_changedBut_1 (g_sameN ?_)
  refine g_iconst (v := (0 : Int32)) hF rfl dX9_changedBut_4 ?_
  refine g_istore_n (ls' := [(2, .int (0 : Int32)), (0, .ref a0), (1, .int i1)]) hF rfl (by rw [hn]; decide) rfl dX9_changedBut_5 ?_
  refine g_iconst (v := (0 : Int32)) hF rfl dX9_changedBut_6 ?_
  refine g_istore_n (ls' := [(3, .int (0 : Int32)), (2, .int (0 : Int32)), (0, .ref a0), (1, .int i1)]) hF rfl (by rw [hn]; decide) rfl dX9_changedBut_7 ?_
  obtain ⟨x19, h19, h⟩ := gbnd h
  refine gG_sub [2, 3, 1, 0] rfl (t_X9_changedBut_L8 hF hn hd q0 h19 ?_)
  refine g_iload_n hF 0 rfl rfl dX9_changedBut_86 ?_
  cases h
  exact g_ret_i hF rfl rfl dX9_changedBut_87 hR (Nat.zero_le _) (Nat.zero_le _)
theorem c_X9_changedBut {d : Nat} {T : gT} {M : gM} {m_a0 : Nat} {a0 : Nat} {i1 : Int32} {r : Int32 × gM} (hd : 7 ≤ d) (q0 : T[a0]? = some (9, m_a0)) (h : f_X9_changedBut T M a0 i1 = some (r)) : gRet d yX9_changedBut cX9_changedBut 5 (some .int) 0 0 [.ref a0, .int i1] T M (gSame T (some (.int r.1)) r.2) := by
  refine gRet_of (own := RX9) (by decide) rfl (Nat.le_of_ble_eq_true rfl) (fun Z ad0 hn h0 hF => ?_)
  exact t_X9_changedBut hF hn hd q0 h ⟨rfl, rfl, rfl, rfl⟩
theorem t_X9_follow_B31 {Z : gZ} {d mc ms : Nat} {Acc : Option Value → (Nat → Nat) → gT → gM → Prop} {AccX : Nat → (Nat → Nat) → gT → gM → Prop} {ad : Nat → Nat} {T : gT} {M : gM} {m_a0 : Nat} {a0 : Nat} {i3 : Int32} {i4 : Int32} {o : (Int32 × gM) ⊕ (Int32 × Int32 × gM)} (hF : gFix Z cX9_follow RX9 "follow" (some .int) d mc ms Acc AccX) (hn : Z.2.2.2.2.2.1 = 7) (hd : 2 ≤ d) (q0 : T[a0]? = some (9, m_a0)) (h : f_X9_follow_B31 T M a0 i3 i4 = some o) (hR : ∀ r9, o = .inl r9 → Acc (some (.int r9.1)) ad T r9.2) (hN : ∀ n9, o = .inr n9 → gG Z ad T n9.2.2 0 0 31 [(0, .ref a0), (3, .int n9.1), (4, .int n9.2.1)] []) : gG Z ad T M 0 0 31 [(0, .ref a0), (3, .int i3), (4, .int i4)] [] := by
  unfold f_X9_follow_B31 at h
  refine g_aload_n hF 0 rfl rfl dX9_follow_31 ?_
  obtain ⟨b1, h1, h⟩ := gbnd h
  obtain ⟨g1, l1, q_b1⟩ := ldr_sp h1
  refine g_get_r hF g1 fl_RX9_56 q0 dX9_follow_32 ?_
  refine g_iload_n hF 1 rfl rfl dX9_follow_35 ?_
  obtain ⟨v2, h2, h⟩ := gbnd h
  obtain ⟨i2h, e2v⟩ := ald_sp q_b1 h2
  refine g_iald hF q_b1 i2h dX9_follow_36 ?_
  rw [← e2v]
  refine g_iload hF 2 rfl dX9_follow_37 ?_
  refine g_ishr hF dX9_follow_39 ?_
  refine g_iconst (v := (1 : Int32)) hF rfl dX9_follow_40 ?_
  refine g_iand hF dX9_follow_41 ?_
  refine g_iconst (v := (1 : Int32)) hF rfl dX9_follow_42 ?_
  refine g_icmp_ne (tgt := 49) hF dX9_follow_43 (by decide) (fun c3 => ?_) (fun c3 => ?_)
  · replace h := gif_t c3 h
    refine g_aload_n hF 0 rfl rfl dX9_follow_49 ?_
    obtain ⟨b4, h4, h⟩ := gbnd h
    obtain ⟨g4, l4, q_b4⟩ := ldr_sp h4
    refine g_get_r hF g4 fl_RX9_56 q0 dX9_follow_50 ?_
    refine g_iload_n hF 1 rfl rfl dX9_follow_53 ?_
    refine g_dup2 hF rfl rfl dX9_follow_54 ?_
    obtain ⟨v5, h5, h⟩ := gbnd h
    obtain ⟨i5h, e5v⟩ := ald_sp q_b4 h5
    refine g_iald hF q_b4 i5h dX9_follow_55 ?_
    rw [← e5v]
    refine g_iconst (v := (1 : Int32)) hF rfl dX9_follow_56 ?_
    refine g_iload hF 2 rfl dX9_follow_57 ?_
    refine g_ishl hF dX9_follow_59 ?_
    refine g_ior hF dX9_follow_60 ?_
    obtain ⟨M6, h6, h⟩ := gbnd h
    obtain ⟨i6h, e6v⟩ := ast_sp q_b4 h6
    refine g_iast hF q_b4 i6h dX9_follow_61 ?_
    rw [← e6v]
    refine g_aload_n hF 0 rfl rfl dX9_follow_62 ?_
    obtain ⟨b7, h7, h⟩ := gbnd h
    obtain ⟨g7, l7, q_b7⟩ := ldr_sp h7
    refine g_get_r hF g7 fl_RX9_50 q0 dX9_follow_63 ?_
    refine g_iload_n hF 1 rfl rfl dX9_follow_66 ?_
    obtain ⟨b8, h8, h⟩ := gbnd h
    obtain ⟨i8h, g8, l8, q_b8⟩ := aldr_sp q_b7 h8
    refine g_aald2 hF q_b7 i8h g8 dX9_follow_67 ?_
    refine g_iload hF 2 rfl dX9_follow_68 ?_
    obtain ⟨v9, h9, h⟩ := gbnd h
    obtain ⟨i9h, e9v⟩ := ald_sp q_b8 h9
    refine g_iald hF q_b8 i9h dX9_follow_70 ?_
    rw [← e9v]
    refine g_istore (ls' := [(5, .int v9), (0, .ref a0), (3, .int i3), (4, .int i4)]) hF (by rw [hn]; decide) rfl dX9_follow_71 ?_
    refine g_iload hF 0 rfl dX9_follow_73 ?_
    refine g_iconst (v := (-1 : Int32)) hF rfl dX9_follow_75 ?_
    refine g_icmp_ne (tgt := 81) hF dX9_follow_76 (by decide) (fun c10 => ?_) (fun c10 => ?_)
    · replace h := gif_t c10 h
      refine g_aload_n hF 1 rfl rfl dX9_follow_81 ?_
      refine g_dup hF rfl dX9_follow_82 ?_
      refine g_get_i hF fl_RX9_274 q0 dX9_follow_83 ?_
      refine g_iconst (v := (1 : Int32)) hF rfl dX9_follow_86 ?_
      refine g_iadd hF dX9_follow_87 ?_
      refine g_put_i hF rfl rfl fl_RX9_274 q0 dX9_follow_88 ?_
      refine g_aload_n hF 1 rfl rfl dX9_follow_91 ?_
      obtain ⟨b11, h11, h⟩ := gbnd h
      obtain ⟨g11, l11, q_b11⟩ := ldr_sp h11
      refine g_get_r hF g11 fl_RX9_17 q0 dX9_follow_92 ?_
      refine g_iload hF 0 rfl dX9_follow_95 ?_
      obtain ⟨x12, h12, h⟩ := gbnd h
      refine g_callS hF my_X9_at kw_1244 kw_1245 (c_X9_at (d := d - 1) (by omega)  h12) (by omega) (Nat.zero_le _) (Nat.zero_le _) rfl rfl (Nat.le_of_ble_eq_true rfl) dX9_follow_97 (g_sameS ?_)
      refine g_bipush (v := (12 : Int32)) hF rfl dX9_follow_100 ?_
      refine g_iadd hF dX9_follow_102 ?_
      refine g_iload hF 3 rfl dX9_follow_103 ?_
      refine g_iadd hF dX9_follow_105 ?_
      obtain ⟨v13, h13, h⟩ := gbnd h
      obtain ⟨i13h, e13v⟩ := ald_sp q_b11 h13
      refine g_iald hF q_b11 i13h dX9_follow_106 ?_
      rw [← e13v]
      refine g_istore (ls' := [(6, .int v13), (5, .int v9), (0, .ref a0), (3, .int i3), (4, .int i4)]) hF (by rw [hn]; decide) rfl dX9_follow_107 ?_
      refine g_iload hF 0 rfl dX9_follow_109 ?_
      refine g_if_lt (tgt := 117) hF dX9_follow_111 (by decide) (fun c14 => ?_) (fun c14 => ?_)
      · replace h := gif_t c14 h
        refine g_iload hF 1 rfl dX9_follow_117 ?_
        refine g_istore_n (ls' := [(3, .int v9), (6, .int v13), (5, .int v9), (0, .ref a0), (4, .int i4)]) hF rfl (by rw [hn]; decide) rfl dX9_follow_119 ?_
        refine g_bipush (v := (-2 : Int32)) hF rfl dX9_follow_120 ?_
        refine g_iload hF 1 rfl dX9_follow_122 ?_
        refine g_isub hF dX9_follow_124 ?_
        refine g_istore (ls' := [(4, .int ((-2 : Int32) - v13)), (3, .int v9), (6, .int v13), (5, .int v9), (0, .ref a0)]) hF (by rw [hn]; decide) rfl dX9_follow_125 ?_
        refine g_goto (tgt := 31) hF dX9_follow_127 (by decide) ?_
        exact gG_sub [4, 1, 0] rfl (hN _ (Option.some.inj h).symm)
      · replace h := gif_f c14 h
        refine g_iload hF 0 rfl dX9_follow_114 ?_
        cases h
        exact g_ret_i hF rfl rfl dX9_follow_116 (hR _ rfl) (Nat.zero_le _) (Nat.zero_le _)
    · replace h := gif_n c10 h
      refine g_iconst (v := (-1 : Int32)) hF rfl dX9_follow_79 ?_
      cases h
      exact g_ret_i hF rfl rfl dX9_follow_80 (hR _ rfl) (Nat.zero_le _) (Nat.zero_le _)
  · replace h := gif_n c3 h
    refine g_bipush (v := (-2 : Int32)) hF rfl dX9_follow_46 ?_
    cases h
    exact g_ret_i hF rfl rfl dX9_follow_48 (hR _ rfl) (Nat.zero_le _) (Nat.zero_le _)
theorem t_X9_follow_L31 {Z : gZ} {d mc ms : Nat} {Acc : Option Value → (Nat → Nat) → gT → gM → Prop} {AccX : Nat → (Nat → Nat) → gT → gM → Prop} {ad : Nat → Nat} {T : gT} {M : gM} {m_a0 : Nat} {a0 : Nat} {i3 : Int32} {i4 : Int32} {o : Int32 × gM} (hF : gFix Z cX9_follow RX9 "follow" (some .int) d mc ms Acc AccX) (hn : Z.2.2.2.2.2.1 = 7) (hd : 2 ≤ d) (q0 : T[a0]? = some (9, m_a0)) (h : gloop (fun x => f_X9_follow_B31 T x.2.2 a0 x.1 x.2.1) gFU (i3, i4, M) = some o) (hR : Acc (some (.int o.1)) ad T o.2) : gG Z ad T M 0 0 31 [(0, .ref a0), (3, .int i3), (4, .int i4)] [] := by
  refine gloop_ind (P := fun x0 : Int32 × Int32 × gM => gG Z ad T x0.2.2 0 0 31 [(0, .ref a0), (3, .int x0.1), (4, .int x0.2.1)] []) (e := o) (fun x0 y hy hl hr => ?_) gFU (i3, i4, M) h
  exact t_X9_follow_B31 hF hn hd q0 hy (fun r9 q9 => by rw [hl _ q9]; exact hR) (fun n9 q9 => hr n9 q9)
theorem t_X9_follow_B7 {Z : gZ} {d mc ms : Nat} {Acc : Option Value → (Nat → Nat) → gT → gM → Prop} {AccX : Nat → (Nat → Nat) → gT → gM → Prop} {ad : Nat → Nat} {T : gT} {M : gM} {m_a0 : Nat} {a0 : Nat} {i1 : Int32} {i2 : Int32} {i3 : Int32} {o : (gM) ⊕ (Int32 × gM)} (hF : gFix Z cX9_follow RX9 "follow" (some .int) d mc ms Acc AccX) (hn : Z.2.2.2.2.2.1 = 7) (hd : 2 ≤ d) (q0 : T[a0]? = some (9, m_a0)) (h : f_X9_follow_B7 T M a0 i1 i2 i3 = some o) (hE : ∀ e9, o = .inl e9 → gG Z ad T e9 0 0 26 [(0, .ref a0), (1, .int i1), (2, .int i2)] []) (hN : ∀ n9, o = .inr n9 → gG Z ad T n9.2 0 0 7 [(0, .ref a0), (1, .int i1), (2, .int i2), (3, .int n9.1)] []) : gG Z ad T M 0 0 7 [(0, .ref a0), (1, .int i1), (2, .int i2), (3, .int i3)] [] := by
  unfold f_X9_follow_B7 at h
  refine g_iload_n hF 3 rfl rfl dX9_follow_7 ?_
  refine g_bipush (v := (8 : Int32)) hF rfl dX9_follow_8 ?_
  refine g_icmp_ge (tgt := 26) hF dX9_follow_10 (by decide) (fun c15 => ?_) (fun c15 => ?_)
  · replace h := gif_t c15 h
    exact gG_sub [0, 1, 2] rfl (hE _ (Option.some.inj h).symm)
  · replace h := gif_f c15 h
    refine g_aload_n hF 0 rfl rfl dX9_follow_13 ?_
    obtain ⟨b16, h16, h⟩ := gbnd h
    obtain ⟨g16, l16, q_b16⟩ := ldr_sp h16
    refine g_get_r hF g16 fl_RX9_56 q0 dX9_follow_14 ?_
    refine g_iload_n hF 3 rfl rfl dX9_follow_17 ?_
    refine g_iconst (v := (0 : Int32)) hF rfl dX9_follow_18 ?_
    obtain ⟨M17, h17, h⟩ := gbnd h
    obtain ⟨i17h, e17v⟩ := ast_sp q_b16 h17
    refine g_iast hF q_b16 i17h dX9_follow_19 ?_
    rw [← e17v]
    refine g_iinc (n := 1) (v := (i3 + (1 : Int32))) (ls' := [(3, .int (i3 + (1 : Int32))), (0, .ref a0), (1, .int i1), (2, .int i2)]) hF 3 rfl rfl (by rw [hn]; decide) rfl dX9_follow_20 ?_
    refine g_goto (tgt := 7) hF dX9_follow_23 (by decide) ?_
    exact gG_sub [1, 2, 3, 0] rfl (hN _ (Option.some.inj h).symm)
theorem t_X9_follow_L7 {Z : gZ} {d mc ms : Nat} {Acc : Option Value → (Nat → Nat) → gT → gM → Prop} {AccX : Nat → (Nat → Nat) → gT → gM → Prop} {ad : Nat → Nat} {T : gT} {M : gM} {m_a0 : Nat} {a0 : Nat} {i1 : Int32} {i2 : Int32} {i3 : Int32} {o : gM} (hF : gFix Z cX9_follow RX9 "follow" (some .int) d mc ms Acc AccX) (hn : Z.2.2.2.2.2.1 = 7) (hd : 2 ≤ d) (q0 : T[a0]? = some (9, m_a0)) (h : gloop (fun x => f_X9_follow_B7 T x.2 a0 i1 i2 x.1) gFU (i3, M) = some o) (hE : gG Z ad T o 0 0 26 [(0, .ref a0), (1, .int i1), (2, .int i2)] []) : gG Z ad T M 0 0 7 [(0, .ref a0), (1, .int i1), (2, .int i2), (3, .int i3)] [] := by
  refine gloop_ind (P := fun x0 : Int32 × gM => gG Z ad T x0.2 0 0 7 [(0, .ref a0), (1, .int i1), (2, .int i2), (3, .int x0.1)] []) (e := o) (fun x0 y hy hl hr => ?_) gFU (i3, M) h
  exact t_X9_follow_B7 hF hn hd q0 hy (fun e9 q9 => by rw [hl _ q9]; exact hE) (fun n9 q9 => hr n9 q9)
theorem t_X9_follow {Z : gZ} {d mc ms : Nat} {Acc : Option Value → (Nat → Nat) → gT → gM → Prop} {AccX : Nat → (Nat → Nat) → gT → gM → Prop} {ad : Nat → Nat} {T : gT} {M : gM} {m_a0 : Nat} {a0 : Nat} {i1 : Int32} {i2 : Int32} {o : Int32 × gM} (hF : gFix Z cX9_follow RX9 "follow" (some .int) d mc ms Acc AccX) (hn : Z.2.2.2.2.2.1 = 7) (hd : 2 ≤ d) (q0 : T[a0]? = some (9, m_a0)) (h : f_X9_follow T M a0 i1 i2 = some o) (hR : Acc (some (.int o.1)) ad T o.2) : gG Z ad T M 0 0 0 [(0, .ref a0), (1, .int i1), (2, .int i2)] [] := by
  unfold f_X9_follow at h
  refine g_aload_n hF 0 rfl rfl dX9_follow_0 ?_
  refine g_iconst (v := (0 : Int32)) hF rfl dX9_follow_1 ?_
  refine g_put_i hF rfl rfl fl_RX9_274 q0 dX9_follow_2 ?_
  refine g_iconst (v := (0 : Int32)) hF rfl dX9_follow_5 ?_
  refine g_istore_n (ls' := [(3, .int (0 : Int32)), (0, .ref a0), (1, .int i1), (2, .int i2)]) hF rfl (by rw [hn]; decide) rfl dX9_follow_6 ?_
  obtain ⟨x18, h18, h⟩ := gbnd h
  refine gG_sub [1, 2, 3, 0] rfl (t_X9_follow_L7 hF hn hd q0 h18 ?_)
  refine g_iload_n hF 1 rfl rfl dX9_follow_26 ?_
  refine g_istore_n (ls' := [(3, .int i1), (0, .ref a0), (1, .int i1), (2, .int i2)]) hF rfl (by rw [hn]; decide) rfl dX9_follow_27 ?_
  refine g_iload_n hF 3 rfl rfl dX9_follow_28 ?_
  refine g_istore (ls' := [(4, .int i2), (3, .int i1), (0, .ref a0), (1, .int i1), (2, .int i2)]) hF (by rw [hn]; decide) rfl dX9_follow_29 ?_
  obtain ⟨x19, h19, h⟩ := gbnd h
  cases h
  exact gG_sub [2, 1, 0] rfl (t_X9_follow_L31 hF hn hd q0 h19 hR)
theorem c_X9_follow {d : Nat} {T : gT} {M : gM} {m_a0 : Nat} {a0 : Nat} {i1 : Int32} {i2 : Int32} {r : Int32 × gM} (hd : 2 ≤ d) (q0 : T[a0]? = some (9, m_a0)) (h : f_X9_follow T M a0 i1 i2 = some (r)) : gRet d yX9_follow cX9_follow 7 (some .int) 0 0 [.ref a0, .int i1, .int i2] T M (gSame T (some (.int r.1)) r.2) := by
  refine gRet_of (own := RX9) (by decide) rfl (Nat.le_of_ble_eq_true rfl) (fun Z ad0 hn h0 hF => ?_)
  exact t_X9_follow hF hn hd q0 h ⟨rfl, rfl, rfl, rfl⟩
theorem t_X9_noLibrary {Z : gZ} {d mc ms : Nat} {Acc : Option Value → (Nat → Nat) → gT → gM → Prop} {AccX : Nat → (Nat → Nat) → gT → gM → Prop} {ad : Nat → Nat} {T : gT} {M : gM} {m_a0 : Nat} {a0 : Nat} {i1 : Int32} {o : Int32 × gM} (hF : gFix Z cX9_noLibrary RX9 "noLibrary" (some .boolean) d mc ms Acc AccX) (hn : Z.2.2.2.2.2.1 = 2) (hd : 2 ≤ d) (q0 : T[a0]? = some (9, m_a0)) (h : f_X9_noLibrary T M a0 i1 = some o) (hR : Acc (some (.int o.1)) ad T o.2) : gG Z ad T M 0 0 0 [(0, .ref a0), (1, .int i1)] [] := by
  unfold f_X9_noLibrary at h
  refine g_aload_n hF 0 rfl rfl dX9_noLibrary_0 ?_
  refine g_iload_n hF 1 rfl rfl dX9_noLibrary_1 ?_
  refine g_iconst (v := (0 : Int32)) hF rfl dX9_noLibrary_2 ?_
  refine g_aload_n hF 0 rfl rfl dX9_noLibrary_3 ?_
  obtain ⟨b1, h1, h⟩ := gbnd h
  obtain ⟨g1, l1, q_b1⟩ := ldr_sp h1
  refine g_get_r hF g1 fl_RX9_17 q0 dX9_noLibrary_4 ?_
  refine g_iconst (v := (1 : Int32)) hF rfl dX9_noLibrary_7 ?_
  obtain ⟨v2, h2, h⟩ := gbnd h
  obtain ⟨i2h, e2v⟩ := ald_sp q_b1 h2
  refine g_iald hF q_b1 i2h dX9_noLibrary_8 ?_
  rw [← e2v]
  refine g_iconst (v := (1 : Int32)) hF rfl dX9_noLibrary_9 ?_
  refine g_isub hF dX9_noLibrary_10 ?_
  obtain ⟨x3, h3, h⟩ := gbnd h
  refine g_callS hF my_X9_in kw_1183 kw_1184 (c_X9_in (d := d - 1) (by omega)  h3) (by omega) (Nat.zero_le _) (Nat.zero_le _) rfl rfl (Nat.le_of_ble_eq_true rfl) dX9_noLibrary_11 (g_sameS ?_)
  refine g_if_ne (tgt := 21) hF dX9_noLibrary_14 (by decide) (fun c4 => ?_) (fun c4 => ?_)
  · replace h := gif_t c4 h
    refine g_iconst (v := (0 : Int32)) hF rfl dX9_noLibrary_21 ?_
    refine g_iconst (v := (1 : Int32)) hF rfl dX9_noLibrary_22 ?_
    obtain ⟨x5, h5, h⟩ := gbnd h
    refine g_callV hF my_X9_fails kw_1186 kw_1188 kw_64 gC_9.1 (by decide) q0 (c_X9_fails (d := d - 1) (by omega) q0 h5) (by omega) (Nat.zero_le _) (Nat.zero_le _) rfl rfl (Nat.le_of_ble_eq_true rfl) dX9_noLibrary_23 (g_sameS ?_)
    obtain ⟨_, h6, h⟩ := gbnd h
    cases h
    exact g_ret_i hF rfl (gbool (chk_sp h6)) dX9_noLibrary_26 hR (Nat.zero_le _) (Nat.zero_le _)
  · replace h := gif_n c4 h
    refine g_iconst (v := (1 : Int32)) hF rfl dX9_noLibrary_17 ?_
    refine g_goto (tgt := 22) hF dX9_noLibrary_18 (by decide) ?_
    refine g_iconst (v := (1 : Int32)) hF rfl dX9_noLibrary_22 ?_
    obtain ⟨x7, h7, h⟩ := gbnd h
    refine g_callV hF my_X9_fails kw_1186 kw_1188 kw_64 gC_9.1 (by decide) q0 (c_X9_fails (d := d - 1) (by omega) q0 h7) (by omega) (Nat.zero_le _) (Nat.zero_le _) rfl rfl (Nat.le_of_ble_eq_true rfl) dX9_noLibrary_23 (g_sameS ?_)
    obtain ⟨_, h8, h⟩ := gbnd h
    cases h
    exact g_ret_i hF rfl (gbool (chk_sp h8)) dX9_noLibrary_26 hR (Nat.zero_le _) (Nat.zero_le _)
theorem c_X9_noLibrary {d : Nat} {T : gT} {M : gM} {m_a0 : Nat} {a0 : Nat} {i1 : Int32} {r : Int32 × gM} (hd : 2 ≤ d) (q0 : T[a0]? = some (9, m_a0)) (h : f_X9_noLibrary T M a0 i1 = some (r)) : gRet d yX9_noLibrary cX9_noLibrary 2 (some .boolean) 0 0 [.ref a0, .int i1] T M (gSame T (some (.int r.1)) r.2) := by
  refine gRet_of (own := RX9) (by decide) rfl (Nat.le_of_ble_eq_true rfl) (fun Z ad0 hn h0 hF => ?_)
  exact t_X9_noLibrary hF hn hd q0 h ⟨rfl, rfl, rfl, rfl⟩
theorem t_X9_noName {Z : gZ} {d mc ms : Nat} {Acc : Option Value → (Nat → Nat) → gT → gM → Prop} {AccX : Nat → (Nat → Nat) → gT → gM → Prop} {ad : Nat → Nat} {T : gT} {M : gM} {m_a0 : Nat} {a0 : Nat} {i1 : Int32} {o : Int32 × gM} (hF : gFix Z cX9_noName RX9 "noName" (some .boolean) d mc ms Acc AccX) (hn : Z.2.2.2.2.2.1 = 2) (hd : 2 ≤ d) (q0 : T[a0]? = some (9, m_a0)) (h : f_X9_noName T M a0 i1 = some o) (hR : Acc (some (.int o.1)) ad T o.2) : gG Z ad T M 0 0 0 [(0, .ref a0), (1, .int i1)] [] := by
  unfold f_X9_noName at h
  refine g_aload_n hF 0 rfl rfl dX9_noName_0 ?_
  refine g_iload_n hF 1 rfl rfl dX9_noName_1 ?_
  refine g_iconst (v := (0 : Int32)) hF rfl dX9_noName_2 ?_
  refine g_aload_n hF 0 rfl rfl dX9_noName_3 ?_
  obtain ⟨b1, h1, h⟩ := gbnd h
  obtain ⟨g1, l1, q_b1⟩ := ldr_sp h1
  refine g_get_r hF g1 fl_RX9_17 q0 dX9_noName_4 ?_
  refine g_iconst (v := (2 : Int32)) hF rfl dX9_noName_7 ?_
  obtain ⟨v2, h2, h⟩ := gbnd h
  obtain ⟨i2h, e2v⟩ := ald_sp q_b1 h2
  refine g_iald hF q_b1 i2h dX9_noName_8 ?_
  rw [← e2v]
  refine g_iconst (v := (1 : Int32)) hF rfl dX9_noName_9 ?_
  refine g_isub hF dX9_noName_10 ?_
  obtain ⟨x3, h3, h⟩ := gbnd h
  refine g_callS hF my_X9_in kw_1183 kw_1184 (c_X9_in (d := d - 1) (by omega)  h3) (by omega) (Nat.zero_le _) (Nat.zero_le _) rfl rfl (Nat.le_of_ble_eq_true rfl) dX9_noName_11 (g_sameS ?_)
  refine g_if_ne (tgt := 21) hF dX9_noName_14 (by decide) (fun c4 => ?_) (fun c4 => ?_)
  · replace h := gif_t c4 h
    refine g_iconst (v := (0 : Int32)) hF rfl dX9_noName_21 ?_
    refine g_iconst (v := (1 : Int32)) hF rfl dX9_noName_22 ?_
    obtain ⟨x5, h5, h⟩ := gbnd h
    refine g_callV hF my_X9_fails kw_1186 kw_1188 kw_64 gC_9.1 (by decide) q0 (c_X9_fails (d := d - 1) (by omega) q0 h5) (by omega) (Nat.zero_le _) (Nat.zero_le _) rfl rfl (Nat.le_of_ble_eq_true rfl) dX9_noName_23 (g_sameS ?_)
    obtain ⟨_, h6, h⟩ := gbnd h
    cases h
    exact g_ret_i hF rfl (gbool (chk_sp h6)) dX9_noName_26 hR (Nat.zero_le _) (Nat.zero_le _)
  · replace h := gif_n c4 h
    refine g_iconst (v := (1 : Int32)) hF rfl dX9_noName_17 ?_
    refine g_goto (tgt := 22) hF dX9_noName_18 (by decide) ?_
    refine g_iconst (v := (1 : Int32)) hF rfl dX9_noName_22 ?_
    obtain ⟨x7, h7, h⟩ := gbnd h
    refine g_callV hF my_X9_fails kw_1186 kw_1188 kw_64 gC_9.1 (by decide) q0 (c_X9_fails (d := d - 1) (by omega) q0 h7) (by omega) (Nat.zero_le _) (Nat.zero_le _) rfl rfl (Nat.le_of_ble_eq_true rfl) dX9_noName_23 (g_sameS ?_)
    obtain ⟨_, h8, h⟩ := gbnd h
    cases h
    exact g_ret_i hF rfl (gbool (chk_sp h8)) dX9_noName_26 hR (Nat.zero_le _) (Nat.zero_le _)
theorem c_X9_noName {d : Nat} {T : gT} {M : gM} {m_a0 : Nat} {a0 : Nat} {i1 : Int32} {r : Int32 × gM} (hd : 2 ≤ d) (q0 : T[a0]? = some (9, m_a0)) (h : f_X9_noName T M a0 i1 = some (r)) : gRet d yX9_noName cX9_noName 2 (some .boolean) 0 0 [.ref a0, .int i1] T M (gSame T (some (.int r.1)) r.2) := by
  refine gRet_of (own := RX9) (by decide) rfl (Nat.le_of_ble_eq_true rfl) (fun Z ad0 hn h0 hF => ?_)
  exact t_X9_noName hF hn hd q0 h ⟨rfl, rfl, rfl, rfl⟩
theorem t_X9_isMissing {Z : gZ} {d mc ms : Nat} {Acc : Option Value → (Nat → Nat) → gT → gM → Prop} {AccX : Nat → (Nat → Nat) → gT → gM → Prop} {ad : Nat → Nat} {T : gT} {M : gM} {m_a0 : Nat} {a0 : Nat} {i1 : Int32} {i2 : Int32} {o : Int32 × gM} (hF : gFix Z cX9_isMissing RX9 "isMissing" (some .boolean) d mc ms Acc AccX) (hn : Z.2.2.2.2.2.1 = 3) (hd : 7 ≤ d) (q0 : T[a0]? = some (9, m_a0)) (h : f_X9_isMissing T M a0 i1 i2 = some o) (hR : Acc (some (.int o.1)) ad T o.2) : gG Z ad T M 0 0 0 [(0, .ref a0), (1, .int i1), (2, .int i2)] [] := by
  unfold f_X9_isMissing at h
  refine g_aload_n hF 0 rfl rfl dX9_isMissing_0 ?_
  refine g_iload_n hF 1 rfl rfl dX9_isMissing_1 ?_
  obtain ⟨x1, h1, h⟩ := gbnd h
  refine g_callV hF my_X9_noLibrary kw_1331 kw_1333 kw_87 gC_9.1 (by decide) q0 (c_X9_noLibrary (d := d - 1) (by omega) q0 h1) (by omega) (Nat.zero_le _) (Nat.zero_le _) rfl rfl (Nat.le_of_ble_eq_true rfl) dX9_isMissing_2 (g_sameS ?_)
  refine g_if_ne (tgt := 16) hF dX9_isMissing_5 (by decide) (fun c2 => ?_) (fun c2 => ?_)
  · replace h := gif_t c2 h
    refine g_iconst (v := (1 : Int32)) hF rfl dX9_isMissing_16 ?_
    cases h
    exact g_ret_i hF rfl rfl dX9_isMissing_17 hR (Nat.zero_le _) (Nat.zero_le _)
  · replace h := gif_n c2 h
    refine g_aload_n hF 0 rfl rfl dX9_isMissing_8 ?_
    refine g_iload_n hF 2 rfl rfl dX9_isMissing_9 ?_
    obtain ⟨x3, h3, h⟩ := gbnd h
    refine g_callV hF my_X9_noName kw_1372 kw_1374 kw_94 gC_9.1 (by decide) q0 (c_X9_noName (d := d - 1) (by omega) q0 h3) (by omega) (Nat.zero_le _) (Nat.zero_le _) rfl rfl (Nat.le_of_ble_eq_true rfl) dX9_isMissing_10 (g_sameS ?_)
    refine g_if_eq (tgt := 18) hF dX9_isMissing_13 (by decide) (fun c4 => ?_) (fun c4 => ?_)
    · replace h := gif_t c4 h
      refine g_aload_n hF 0 rfl rfl dX9_isMissing_18 ?_
      obtain ⟨x5, h5, h⟩ := gbnd h
      refine g_callV hF my_X9_layAll kw_1400 kw_1402 kw_98 gC_9.1 (by decide) q0 (c_X9_layAll (d := d - 1) (by omega) q0 h5) (by omega) (Nat.zero_le _) (Nat.zero_le _) rfl rfl (Nat.le_of_ble_eq_true rfl) dX9_isMissing_19 (g_sameN ?_)
      refine g_iconst (v := (0 : Int32)) hF rfl dX9_isMissing_22 ?_
      cases h
      exact g_ret_i hF rfl rfl dX9_isMissing_23 hR (Nat.zero_le _) (Nat.zero_le _)
    · replace h := gif_f c4 h
      refine g_iconst (v := (1 : Int32)) hF rfl dX9_isMissing_16 ?_
      cases h
      exact g_ret_i hF rfl rfl dX9_isMissing_17 hR (Nat.zero_le _) (Nat.zero_le _)
theorem c_X9_isMissing {d : Nat} {T : gT} {M : gM} {m_a0 : Nat} {a0 : Nat} {i1 : Int32} {i2 : Int32} {r : Int32 × gM} (hd : 7 ≤ d) (q0 : T[a0]? = some (9, m_a0)) (h : f_X9_isMissing T M a0 i1 i2 = some (r)) : gRet d yX9_isMissing cX9_isMissing 3 (some .boolean) 0 0 [.ref a0, .int i1, .int i2] T M (gSame T (some (.int r.1)) r.2) := by
  refine gRet_of (own := RX9) (by decide) rfl (Nat.le_of_ble_eq_true rfl) (fun Z ad0 hn h0 hF => ?_)
  exact t_X9_isMissing hF hn hd q0 h ⟨rfl, rfl, rfl, rfl⟩
theorem t_X9_libraries {Z : gZ} {d mc ms : Nat} {Acc : Option Value → (Nat → Nat) → gT → gM → Prop} {AccX : Nat → (Nat → Nat) → gT → gM → Prop} {ad : Nat → Nat} {T : gT} {M : gM} {m_a0 : Nat} {a0 : Nat} {o : Int32 × gM} (hF : gFix Z cX9_libraries RX9 "libraries" (some .int) d mc ms Acc AccX) (hn : Z.2.2.2.2.2.1 = 1) (hd : 1 ≤ d) (q0 : T[a0]? = some (9, m_a0)) (h : f_X9_libraries T M a0 = some o) (hR : Acc (some (.int o.1)) ad T o.2) : gG Z ad T M 0 0 0 [(0, .ref a0)] [] := by
  unfold f_X9_libraries at h
  refine g_aload_n hF 0 rfl rfl dX9_libraries_0 ?_
  refine g_iconst (v := (0 : Int32)) hF rfl dX9_libraries_1 ?_
  refine g_put_i hF rfl rfl fl_RX9_59 q0 dX9_libraries_2 ?_
  refine g_aload_n hF 0 rfl rfl dX9_libraries_5 ?_
  obtain ⟨b1, h1, h⟩ := gbnd h
  obtain ⟨g1, l1, q_b1⟩ := ldr_sp h1
  refine g_get_r hF g1 fl_RX9_17 q0 dX9_libraries_6 ?_
  refine g_iconst (v := (1 : Int32)) hF rfl dX9_libraries_9 ?_
  obtain ⟨v2, h2, h⟩ := gbnd h
  obtain ⟨i2h, e2v⟩ := ald_sp q_b1 h2
  refine g_iald hF q_b1 i2h dX9_libraries_10 ?_
  rw [← e2v]
  cases h
  exact g_ret_i hF rfl rfl dX9_libraries_11 hR (Nat.zero_le _) (Nat.zero_le _)
theorem c_X9_libraries {d : Nat} {T : gT} {M : gM} {m_a0 : Nat} {a0 : Nat} {r : Int32 × gM} (hd : 1 ≤ d) (q0 : T[a0]? = some (9, m_a0)) (h : f_X9_libraries T M a0 = some (r)) : gRet d yX9_libraries cX9_libraries 1 (some .int) 0 0 [.ref a0] T M (gSame T (some (.int r.1)) r.2) := by
  refine gRet_of (own := RX9) (by decide) rfl (Nat.le_of_ble_eq_true rfl) (fun Z ad0 hn h0 hF => ?_)
  exact t_X9_libraries hF hn hd q0 h ⟨rfl, rfl, rfl, rfl⟩
theorem t_X9_names {Z : gZ} {d mc ms : Nat} {Acc : Option Value → (Nat → Nat) → gT → gM → Prop} {AccX : Nat → (Nat → Nat) → gT → gM → Prop} {ad : Nat → Nat} {T : gT} {M : gM} {m_a0 : Nat} {a0 : Nat} {o : Int32 × gM} (hF : gFix Z cX9_names RX9 "names" (some .int) d mc ms Acc AccX) (hn : Z.2.2.2.2.2.1 = 1) (hd : 1 ≤ d) (q0 : T[a0]? = some (9, m_a0)) (h : f_X9_names T M a0 = some o) (hR : Acc (some (.int o.1)) ad T o.2) : gG Z ad T M 0 0 0 [(0, .ref a0)] [] := by
  unfold f_X9_names at h
  refine g_aload_n hF 0 rfl rfl dX9_names_0 ?_
  refine g_iconst (v := (0 : Int32)) hF rfl dX9_names_1 ?_
  refine g_put_i hF rfl rfl fl_RX9_59 q0 dX9_names_2 ?_
  refine g_aload_n hF 0 rfl rfl dX9_names_5 ?_
  obtain ⟨b1, h1, h⟩ := gbnd h
  obtain ⟨g1, l1, q_b1⟩ := ldr_sp h1
  refine g_get_r hF g1 fl_RX9_17 q0 dX9_names_6 ?_
  refine g_iconst (v := (2 : Int32)) hF rfl dX9_names_9 ?_
  obtain ⟨v2, h2, h⟩ := gbnd h
  obtain ⟨i2h, e2v⟩ := ald_sp q_b1 h2
  refine g_iald hF q_b1 i2h dX9_names_10 ?_
  rw [← e2v]
  cases h
  exact g_ret_i hF rfl rfl dX9_names_11 hR (Nat.zero_le _) (Nat.zero_le _)
theorem c_X9_names {d : Nat} {T : gT} {M : gM} {m_a0 : Nat} {a0 : Nat} {r : Int32 × gM} (hd : 1 ≤ d) (q0 : T[a0]? = some (9, m_a0)) (h : f_X9_names T M a0 = some (r)) : gRet d yX9_names cX9_names 1 (some .int) 0 0 [.ref a0] T M (gSame T (some (.int r.1)) r.2) := by
  refine gRet_of (own := RX9) (by decide) rfl (Nat.le_of_ble_eq_true rfl) (fun Z ad0 hn h0 hF => ?_)
  exact t_X9_names hF hn hd q0 h ⟨rfl, rfl, rfl, rfl⟩
theorem t_X9_share {Z : gZ} {d mc ms : Nat} {Acc : Option Value → (Nat → Nat) → gT → gM → Prop} {AccX : Nat → (Nat → Nat) → gT → gM → Prop} {ad : Nat → Nat} {T : gT} {M : gM} {m_a0 : Nat} {a0 : Nat} {o : Int32 × gM} (hF : gFix Z cX9_share RX9 "share" (some .int) d mc ms Acc AccX) (hn : Z.2.2.2.2.2.1 = 1) (hd : 1 ≤ d) (q0 : T[a0]? = some (9, m_a0)) (h : f_X9_share T M a0 = some o) (hR : Acc (some (.int o.1)) ad T o.2) : gG Z ad T M 0 0 0 [(0, .ref a0)] [] := by
  unfold f_X9_share at h
  refine g_aload_n hF 0 rfl rfl dX9_share_0 ?_
  refine g_iconst (v := (0 : Int32)) hF rfl dX9_share_1 ?_
  refine g_put_i hF rfl rfl fl_RX9_59 q0 dX9_share_2 ?_
  refine g_aload_n hF 0 rfl rfl dX9_share_5 ?_
  obtain ⟨b1, h1, h⟩ := gbnd h
  obtain ⟨g1, l1, q_b1⟩ := ldr_sp h1
  refine g_get_r hF g1 fl_RX9_17 q0 dX9_share_6 ?_
  refine g_iconst (v := (0 : Int32)) hF rfl dX9_share_9 ?_
  obtain ⟨v2, h2, h⟩ := gbnd h
  obtain ⟨i2h, e2v⟩ := ald_sp q_b1 h2
  refine g_iald hF q_b1 i2h dX9_share_10 ?_
  rw [← e2v]
  cases h
  exact g_ret_i hF rfl rfl dX9_share_11 hR (Nat.zero_le _) (Nat.zero_le _)
theorem c_X9_share {d : Nat} {T : gT} {M : gM} {m_a0 : Nat} {a0 : Nat} {r : Int32 × gM} (hd : 1 ≤ d) (q0 : T[a0]? = some (9, m_a0)) (h : f_X9_share T M a0 = some (r)) : gRet d yX9_share cX9_share 1 (some .int) 0 0 [.ref a0] T M (gSame T (some (.int r.1)) r.2) := by
  refine gRet_of (own := RX9) (by decide) rfl (Nat.le_of_ble_eq_true rfl) (fun Z ad0 hn h0 hF => ?_)
  exact t_X9_share hF hn hd q0 h ⟨rfl, rfl, rfl, rfl⟩
