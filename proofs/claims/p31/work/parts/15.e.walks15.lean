theorem t_L_law_620 {Z : gZ} {d mc ms : Nat} {ad : Nat → Nat} {T : gT} {M : gM} {ce so c9 s9 K KS : Nat} {n : Nat} {f : Nat → Int32} {nm : String} {m_a3 m_a5 m_a6 m_a7 m_a10 : Nat} {i2 : Int32} {a3 : Nat} {a5 : Nat} {a6 : Nat} {a7 : Nat} {i8 : Int32} {i9 : Int32} {a10 : Nat} {i12 : Int32} {i15 : Int32} {o19 : Option Nat} {i22 : Int32} {k0 : Int32} {o : (Int32 × Int32 × gT × gM) ⊕ (Int32 × Int32 × Int32 × gT × gM)} (hFL : gFixL Z cL_law RL nm (some .boolean) d mc ms (fun v _ _ _ => v = some (.int 1)) (fun _ _ _ _ => False) n f) (hn : Z.2.2.2.2.2.1 = 31) (hd : 60 ≤ d) (hk1 : ce + c9 + K ≤ mc) (hk2 : so + s9 + KS ≤ ms) (q3 : T[a3]? = some (8, m_a3)) (q5 : T[a5]? = some (18, m_a5)) (q6 : T[a6]? = some (16, m_a6)) (q7 : T[a7]? = some (22, m_a7)) (q10 : T[a10]? = some (16, m_a10)) (q19 : gOk T o19 9) (h : f_L_law_620 n f T M i2 a3 a5 a6 a7 i8 i9 a10 i12 i15 o19 i22 k0 = some (o, c9, s9)) (hE : ∀ (e9 : Int32 × Int32 × gT × gM) (ad1 : Nat → Nat) (ce1 so1 : Nat), o = .inl e9 → gExt T e9.2.2.1 → (∀ a : Nat, a < T.length → ad1 a = ad a) → ce1 + K ≤ mc → so1 + KS ≤ ms → gG Z ad1 e9.2.2.1 e9.2.2.2 ce1 so1 1195 [(0, .ref (gSB + 3000)), (1, .int e9.1), (2, .int i2), (3, .ref a3), (7, .ref a7), (8, .int e9.2.1)] []) (hN : ∀ (n9 : Int32 × Int32 × Int32 × gT × gM) (ad1 : Nat → Nat) (ce1 so1 : Nat), o = .inr n9 → gExt T n9.2.2.2.1 → (∀ a : Nat, a < T.length → ad1 a = ad a) → ce1 + K ≤ mc → so1 + KS ≤ ms → gG Z ad1 n9.2.2.2.1 n9.2.2.2.2 ce1 so1 192 [(0, .ref (gSB + 3000)), (1, .int n9.1), (2, .int i2), (3, .ref a3), (5, .ref a5), (6, .ref a6), (7, .ref a7), (8, .int n9.2.1), (9, .int n9.2.2.1)] []) : gG Z ad T M ce so 620 [(0, .ref (gSB + 3000)), (2, .int i2), (3, .ref a3), (5, .ref a5), (6, .ref a6), (7, .ref a7), (8, .int i8), (9, .int i9), (10, .ref a10), (12, .int i12), (15, .int i15), (19, gvo o19), (22, .int i22)] [.int k0] := by
  have hF := hFL.fix
  unfold f_L_law_620 at h
  refine g_istore (ls' := [(13, .int k0), (0, .ref (gSB + 3000)), (2, .int i2), (3, .ref a3), (5, .ref a5), (6, .ref a6), (7, .ref a7), (8, .int i8), (9, .int i9), (10, .ref a10), (12, .int i12), (15, .int i15), (19, gvo o19), (22, .int i22)]) hF (by rw [hn]; decide) rfl dL_law_620 ?_
  exact gG_sub [1, 2, 3, 4, 5, 6, 7, 8, 9, 10, 0, 11, 12, 13] rfl (t_L_law_622 hFL hn hd (by omega) (by omega) q3 q5 q6 q7 q10 q19 h (fun v9 ad1 ce1 so1 q9 x1 y1 => hE v9 ad1 ce1 so1 q9 (gExt.tr gExt.rf x1) (gad_call y1 gExt.rf (fun _ _ => rfl))) (fun v9 ad1 ce1 so1 q9 x1 y1 => hN v9 ad1 ce1 so1 q9 (gExt.tr gExt.rf x1) (gad_call y1 gExt.rf (fun _ _ => rfl))))
theorem t_L_law_598 {Z : gZ} {d mc ms : Nat} {ad : Nat → Nat} {T : gT} {M : gM} {ce so c9 s9 K KS : Nat} {n : Nat} {f : Nat → Int32} {nm : String} {m_a3 m_a5 m_a6 m_a7 m_a10 : Nat} {i2 : Int32} {a3 : Nat} {a5 : Nat} {a6 : Nat} {a7 : Nat} {i8 : Int32} {i9 : Int32} {a10 : Nat} {i13 : Int32} {i15 : Int32} {i17 : Int32} {o19 : Option Nat} {i22 : Int32} {k0 : Int32} {o : (Int32 × Int32 × gT × gM) ⊕ (Int32 × Int32 × Int32 × gT × gM)} (hFL : gFixL Z cL_law RL nm (some .boolean) d mc ms (fun v _ _ _ => v = some (.int 1)) (fun _ _ _ _ => False) n f) (hn : Z.2.2.2.2.2.1 = 31) (hd : 60 ≤ d) (hk1 : ce + c9 + K ≤ mc) (hk2 : so + s9 + KS ≤ ms) (q3 : T[a3]? = some (8, m_a3)) (q5 : T[a5]? = some (18, m_a5)) (q6 : T[a6]? = some (16, m_a6)) (q7 : T[a7]? = some (22, m_a7)) (q10 : T[a10]? = some (16, m_a10)) (q19 : gOk T o19 9) (h : f_L_law_598 n f T M i2 a3 a5 a6 a7 i8 i9 a10 i13 i15 i17 o19 i22 k0 = some (o, c9, s9)) (hE : ∀ (e9 : Int32 × Int32 × gT × gM) (ad1 : Nat → Nat) (ce1 so1 : Nat), o = .inl e9 → gExt T e9.2.2.1 → (∀ a : Nat, a < T.length → ad1 a = ad a) → ce1 + K ≤ mc → so1 + KS ≤ ms → gG Z ad1 e9.2.2.1 e9.2.2.2 ce1 so1 1195 [(0, .ref (gSB + 3000)), (1, .int e9.1), (2, .int i2), (3, .ref a3), (7, .ref a7), (8, .int e9.2.1)] []) (hN : ∀ (n9 : Int32 × Int32 × Int32 × gT × gM) (ad1 : Nat → Nat) (ce1 so1 : Nat), o = .inr n9 → gExt T n9.2.2.2.1 → (∀ a : Nat, a < T.length → ad1 a = ad a) → ce1 + K ≤ mc → so1 + KS ≤ ms → gG Z ad1 n9.2.2.2.1 n9.2.2.2.2 ce1 so1 192 [(0, .ref (gSB + 3000)), (1, .int n9.1), (2, .int i2), (3, .ref a3), (5, .ref a5), (6, .ref a6), (7, .ref a7), (8, .int n9.2.1), (9, .int n9.2.2.1)] []) : gG Z ad T M ce so 598 [(0, .ref (gSB + 3000)), (2, .int i2), (3, .ref a3), (5, .ref a5), (6, .ref a6), (7, .ref a7), (8, .int i8), (9, .int i9), (10, .ref a10), (13, .int i13), (15, .int i15), (17, .int i17), (19, gvo o19), (22, .int i22)] [.int k0] := by
  have hF := hFL.fix
  unfold f_L_law_598 at h
  refine g_istore (ls' := [(12, .int k0), (0, .ref (gSB + 3000)), (2, .int i2), (3, .ref a3), (5, .ref a5), (6, .ref a6), (7, .ref a7), (8, .int i8), (9, .int i9), (10, .ref a10), (13, .int i13), (15, .int i15), (17, .int i17), (19, gvo o19), (22, .int i22)]) hF (by rw [hn]; decide) rfl dL_law_598 ?_
  refine g_iload hF 12 rfl dL_law_600 ?_
  refine g_if_eq (tgt := 622) hF dL_law_602 (by decide) (fun c135 => ?_) (fun c135 => ?_)
  · replace h := gif_t c135 h
    exact gG_sub [1, 2, 3, 4, 5, 6, 7, 8, 9, 0, 10, 11, 13, 14] rfl (t_L_law_622 hFL hn hd (by omega) (by omega) q3 q5 q6 q7 q10 q19 h (fun v9 ad1 ce1 so1 q9 x1 y1 => hE v9 ad1 ce1 so1 q9 (gExt.tr gExt.rf x1) (gad_call y1 gExt.rf (fun _ _ => rfl))) (fun v9 ad1 ce1 so1 q9 x1 y1 => hN v9 ad1 ce1 so1 q9 (gExt.tr gExt.rf x1) (gad_call y1 gExt.rf (fun _ _ => rfl))))
  · replace h := gif_f c135 h
    refine g_iload hF 0 rfl dL_law_605 ?_
    refine g_if_eq (tgt := 618) hF dL_law_607 (by decide) (fun c136 => ?_) (fun c136 => ?_)
    · replace h := gif_t c136 h
      refine g_ldc (v := (-2000000098 : Int32)) hF kw_942 dL_law_618 ?_
      exact gG_sub [1, 2, 3, 4, 5, 6, 7, 8, 9, 0, 11, 13, 14] rfl (t_L_law_620 hFL hn hd (by omega) (by omega) q3 q5 q6 q7 q10 q19 h (fun v9 ad1 ce1 so1 q9 x1 y1 => hE v9 ad1 ce1 so1 q9 (gExt.tr gExt.rf x1) (gad_call y1 gExt.rf (fun _ _ => rfl))) (fun v9 ad1 ce1 so1 q9 x1 y1 => hN v9 ad1 ce1 so1 q9 (gExt.tr gExt.rf x1) (gad_call y1 gExt.rf (fun _ _ => rfl))))
    · replace h := gif_f c136 h
      refine g_oload hF 13 rfl dL_law_610 ?_
      obtain ⟨b137, h137, h⟩ := gbnd h
      obtain ⟨g137, l137, q_b137⟩ := gsm_sp h137
      refine gG_st (st' := [.ref b137]) (by first | (rw [g137]; rfl) | rw [g137]) ?_
      refine g_get_i hF fl_RL_166 q_b137 dL_law_612 ?_
      refine g_goto (tgt := 620) hF dL_law_615 (by decide) ?_
      exact gG_sub [1, 2, 3, 4, 5, 6, 7, 8, 9, 0, 11, 13, 14] rfl (t_L_law_620 hFL hn hd (by omega) (by omega) q3 q5 q6 q7 q10 q19 h (fun v9 ad1 ce1 so1 q9 x1 y1 => hE v9 ad1 ce1 so1 q9 (gExt.tr gExt.rf x1) (gad_call y1 gExt.rf (fun _ _ => rfl))) (fun v9 ad1 ce1 so1 q9 x1 y1 => hN v9 ad1 ce1 so1 q9 (gExt.tr gExt.rf x1) (gad_call y1 gExt.rf (fun _ _ => rfl))))
theorem t_L_law_597 {Z : gZ} {d mc ms : Nat} {ad : Nat → Nat} {T : gT} {M : gM} {ce so c9 s9 K KS : Nat} {n : Nat} {f : Nat → Int32} {nm : String} {m_a3 m_a5 m_a6 m_a7 m_a10 : Nat} {i2 : Int32} {a3 : Nat} {a5 : Nat} {a6 : Nat} {a7 : Nat} {i8 : Int32} {i9 : Int32} {a10 : Nat} {i13 : Int32} {i15 : Int32} {i17 : Int32} {o19 : Option Nat} {i22 : Int32} {o : (Int32 × Int32 × gT × gM) ⊕ (Int32 × Int32 × Int32 × gT × gM)} (hFL : gFixL Z cL_law RL nm (some .boolean) d mc ms (fun v _ _ _ => v = some (.int 1)) (fun _ _ _ _ => False) n f) (hn : Z.2.2.2.2.2.1 = 31) (hd : 60 ≤ d) (hk1 : ce + c9 + K ≤ mc) (hk2 : so + s9 + KS ≤ ms) (q3 : T[a3]? = some (8, m_a3)) (q5 : T[a5]? = some (18, m_a5)) (q6 : T[a6]? = some (16, m_a6)) (q7 : T[a7]? = some (22, m_a7)) (q10 : T[a10]? = some (16, m_a10)) (q19 : gOk T o19 9) (h : f_L_law_597 n f T M i2 a3 a5 a6 a7 i8 i9 a10 i13 i15 i17 o19 i22 = some (o, c9, s9)) (hE : ∀ (e9 : Int32 × Int32 × gT × gM) (ad1 : Nat → Nat) (ce1 so1 : Nat), o = .inl e9 → gExt T e9.2.2.1 → (∀ a : Nat, a < T.length → ad1 a = ad a) → ce1 + K ≤ mc → so1 + KS ≤ ms → gG Z ad1 e9.2.2.1 e9.2.2.2 ce1 so1 1195 [(0, .ref (gSB + 3000)), (1, .int e9.1), (2, .int i2), (3, .ref a3), (7, .ref a7), (8, .int e9.2.1)] []) (hN : ∀ (n9 : Int32 × Int32 × Int32 × gT × gM) (ad1 : Nat → Nat) (ce1 so1 : Nat), o = .inr n9 → gExt T n9.2.2.2.1 → (∀ a : Nat, a < T.length → ad1 a = ad a) → ce1 + K ≤ mc → so1 + KS ≤ ms → gG Z ad1 n9.2.2.2.1 n9.2.2.2.2 ce1 so1 192 [(0, .ref (gSB + 3000)), (1, .int n9.1), (2, .int i2), (3, .ref a3), (5, .ref a5), (6, .ref a6), (7, .ref a7), (8, .int n9.2.1), (9, .int n9.2.2.1)] []) : gG Z ad T M ce so 597 [(0, .ref (gSB + 3000)), (2, .int i2), (3, .ref a3), (5, .ref a5), (6, .ref a6), (7, .ref a7), (8, .int i8), (9, .int i9), (10, .ref a10), (13, .int i13), (15, .int i15), (17, .int i17), (19, gvo o19), (22, .int i22)] [] := by
  have hF := hFL.fix
  unfold f_L_law_597 at h
  refine g_iconst (v := (0 : Int32)) hF rfl dL_law_597 ?_
  exact gG_sub [0, 1, 2, 3, 4, 5, 6, 7, 8, 9, 10, 11, 12, 13] rfl (t_L_law_598 hFL hn hd (by omega) (by omega) q3 q5 q6 q7 q10 q19 h (fun v9 ad1 ce1 so1 q9 x1 y1 => hE v9 ad1 ce1 so1 q9 (gExt.tr gExt.rf x1) (gad_call y1 gExt.rf (fun _ _ => rfl))) (fun v9 ad1 ce1 so1 q9 x1 y1 => hN v9 ad1 ce1 so1 q9 (gExt.tr gExt.rf x1) (gad_call y1 gExt.rf (fun _ _ => rfl))))
theorem t_L_law_575 {Z : gZ} {d mc ms : Nat} {ad : Nat → Nat} {T : gT} {M : gM} {ce so c9 s9 K KS : Nat} {n : Nat} {f : Nat → Int32} {nm : String} {m_a3 m_a5 m_a6 m_a7 m_a10 m_b0 : Nat} {i2 : Int32} {a3 : Nat} {a5 : Nat} {a6 : Nat} {a7 : Nat} {i8 : Int32} {i9 : Int32} {a10 : Nat} {i13 : Int32} {i15 : Int32} {i17 : Int32} {o19 : Option Nat} {b0 : Nat} {k1 : Int32} {o : (Int32 × Int32 × gT × gM) ⊕ (Int32 × Int32 × Int32 × gT × gM)} (hFL : gFixL Z cL_law RL nm (some .boolean) d mc ms (fun v _ _ _ => v = some (.int 1)) (fun _ _ _ _ => False) n f) (hn : Z.2.2.2.2.2.1 = 31) (hd : 60 ≤ d) (hk1 : ce + c9 + K ≤ mc) (hk2 : so + s9 + KS ≤ ms) (q3 : T[a3]? = some (8, m_a3)) (q5 : T[a5]? = some (18, m_a5)) (q6 : T[a6]? = some (16, m_a6)) (q7 : T[a7]? = some (22, m_a7)) (q10 : T[a10]? = some (16, m_a10)) (q19 : gOk T o19 9) (p0 : T[b0]? = some (18, m_b0)) (h : f_L_law_575 n f T M i2 a3 a5 a6 a7 i8 i9 a10 i13 i15 i17 o19 b0 k1 = some (o, c9, s9)) (hE : ∀ (e9 : Int32 × Int32 × gT × gM) (ad1 : Nat → Nat) (ce1 so1 : Nat), o = .inl e9 → gExt T e9.2.2.1 → (∀ a : Nat, a < T.length → ad1 a = ad a) → ce1 + K ≤ mc → so1 + KS ≤ ms → gG Z ad1 e9.2.2.1 e9.2.2.2 ce1 so1 1195 [(0, .ref (gSB + 3000)), (1, .int e9.1), (2, .int i2), (3, .ref a3), (7, .ref a7), (8, .int e9.2.1)] []) (hN : ∀ (n9 : Int32 × Int32 × Int32 × gT × gM) (ad1 : Nat → Nat) (ce1 so1 : Nat), o = .inr n9 → gExt T n9.2.2.2.1 → (∀ a : Nat, a < T.length → ad1 a = ad a) → ce1 + K ≤ mc → so1 + KS ≤ ms → gG Z ad1 n9.2.2.2.1 n9.2.2.2.2 ce1 so1 192 [(0, .ref (gSB + 3000)), (1, .int n9.1), (2, .int i2), (3, .ref a3), (5, .ref a5), (6, .ref a6), (7, .ref a7), (8, .int n9.2.1), (9, .int n9.2.2.1)] []) : gG Z ad T M ce so 575 [(0, .ref (gSB + 3000)), (2, .int i2), (3, .ref a3), (5, .ref a5), (6, .ref a6), (7, .ref a7), (8, .int i8), (9, .int i9), (10, .ref a10), (13, .int i13), (15, .int i15), (17, .int i17), (19, gvo o19)] [.int k1, .ref b0] := by
  have hF := hFL.fix
  unfold f_L_law_575 at h
  obtain ⟨x138, h138, h⟩ := gbnd h
  refine g_callV hF my_X12_below kw_636 kw_637 kw_638 gC_18.1 (by decide) p0 (c_X12_below (d := d - 1) (by omega) p0 h138) (by omega) (by omega) (by omega) rfl rfl (Nat.le_of_ble_eq_true rfl) dL_law_575 (g_sameS ?_)
  refine g_istore (ls' := [(22, .int x138.1), (0, .ref (gSB + 3000)), (2, .int i2), (3, .ref a3), (5, .ref a5), (6, .ref a6), (7, .ref a7), (8, .int i8), (9, .int i9), (10, .ref a10), (13, .int i13), (15, .int i15), (17, .int i17), (19, gvo o19)]) hF (by rw [hn]; decide) rfl dL_law_578 ?_
  refine g_iload hF 12 rfl dL_law_580 ?_
  refine g_if_eq (tgt := 597) hF dL_law_582 (by decide) (fun c139 => ?_) (fun c139 => ?_)
  · replace h := gif_t c139 h
    exact gG_sub [1, 2, 3, 4, 5, 6, 7, 8, 9, 10, 11, 12, 13, 0] rfl (t_L_law_597 hFL hn hd (by omega) (by omega) q3 q5 q6 q7 q10 q19 h (fun v9 ad1 ce1 so1 q9 x1 y1 => hE v9 ad1 ce1 so1 q9 (gExt.tr gExt.rf x1) (gad_call y1 gExt.rf (fun _ _ => rfl))) (fun v9 ad1 ce1 so1 q9 x1 y1 => hN v9 ad1 ce1 so1 q9 (gExt.tr gExt.rf x1) (gad_call y1 gExt.rf (fun _ _ => rfl))))
  · replace h := gif_f c139 h
    refine g_iload hF 0 rfl dL_law_585 ?_
    refine g_sipush (v := (1000 : Int32)) hF rfl dL_law_587 ?_
    refine g_icmp_ge (tgt := 597) hF dL_law_590 (by decide) (fun c140 => ?_) (fun c140 => ?_)
    · replace h := gif_t c140 h
      exact gG_sub [1, 2, 3, 4, 5, 6, 7, 8, 9, 10, 11, 12, 13, 0] rfl (t_L_law_597 hFL hn hd (by omega) (by omega) q3 q5 q6 q7 q10 q19 h (fun v9 ad1 ce1 so1 q9 x1 y1 => hE v9 ad1 ce1 so1 q9 (gExt.tr gExt.rf x1) (gad_call y1 gExt.rf (fun _ _ => rfl))) (fun v9 ad1 ce1 so1 q9 x1 y1 => hN v9 ad1 ce1 so1 q9 (gExt.tr gExt.rf x1) (gad_call y1 gExt.rf (fun _ _ => rfl))))
    · replace h := gif_f c140 h
      refine g_iconst (v := (1 : Int32)) hF rfl dL_law_593 ?_
      refine g_goto (tgt := 598) hF dL_law_594 (by decide) ?_
      exact gG_sub [1, 2, 3, 4, 5, 6, 7, 8, 9, 10, 11, 12, 13, 0] rfl (t_L_law_598 hFL hn hd (by omega) (by omega) q3 q5 q6 q7 q10 q19 h (fun v9 ad1 ce1 so1 q9 x1 y1 => hE v9 ad1 ce1 so1 q9 (gExt.tr gExt.rf x1) (gad_call y1 gExt.rf (fun _ _ => rfl))) (fun v9 ad1 ce1 so1 q9 x1 y1 => hN v9 ad1 ce1 so1 q9 (gExt.tr gExt.rf x1) (gad_call y1 gExt.rf (fun _ _ => rfl))))
theorem t_L_law_551 {Z : gZ} {d mc ms : Nat} {ad : Nat → Nat} {T : gT} {M : gM} {ce so c9 s9 K KS : Nat} {n : Nat} {f : Nat → Int32} {nm : String} {m_a3 m_a5 m_a6 m_a7 m_a10 : Nat} {i2 : Int32} {a3 : Nat} {a5 : Nat} {a6 : Nat} {a7 : Nat} {i8 : Int32} {i9 : Int32} {a10 : Nat} {i12 : Int32} {k0 : Int32} {o : (Int32 × Int32 × gT × gM) ⊕ (Int32 × Int32 × Int32 × gT × gM)} (hFL : gFixL Z cL_law RL nm (some .boolean) d mc ms (fun v _ _ _ => v = some (.int 1)) (fun _ _ _ _ => False) n f) (hn : Z.2.2.2.2.2.1 = 31) (hd : 60 ≤ d) (hk1 : ce + c9 + K ≤ mc) (hk2 : so + s9 + KS ≤ ms) (q3 : T[a3]? = some (8, m_a3)) (q5 : T[a5]? = some (18, m_a5)) (q6 : T[a6]? = some (16, m_a6)) (q7 : T[a7]? = some (22, m_a7)) (q10 : T[a10]? = some (16, m_a10)) (h : f_L_law_551 n f T M i2 a3 a5 a6 a7 i8 i9 a10 i12 k0 = some (o, c9, s9)) (hE : ∀ (e9 : Int32 × Int32 × gT × gM) (ad1 : Nat → Nat) (ce1 so1 : Nat), o = .inl e9 → gExt T e9.2.2.1 → (∀ a : Nat, a < T.length → ad1 a = ad a) → ce1 + K ≤ mc → so1 + KS ≤ ms → gG Z ad1 e9.2.2.1 e9.2.2.2 ce1 so1 1195 [(0, .ref (gSB + 3000)), (1, .int e9.1), (2, .int i2), (3, .ref a3), (7, .ref a7), (8, .int e9.2.1)] []) (hN : ∀ (n9 : Int32 × Int32 × Int32 × gT × gM) (ad1 : Nat → Nat) (ce1 so1 : Nat), o = .inr n9 → gExt T n9.2.2.2.1 → (∀ a : Nat, a < T.length → ad1 a = ad a) → ce1 + K ≤ mc → so1 + KS ≤ ms → gG Z ad1 n9.2.2.2.1 n9.2.2.2.2 ce1 so1 192 [(0, .ref (gSB + 3000)), (1, .int n9.1), (2, .int i2), (3, .ref a3), (5, .ref a5), (6, .ref a6), (7, .ref a7), (8, .int n9.2.1), (9, .int n9.2.2.1)] []) : gG Z ad T M ce so 551 [(0, .ref (gSB + 3000)), (2, .int i2), (3, .ref a3), (5, .ref a5), (6, .ref a6), (7, .ref a7), (8, .int i8), (9, .int i9), (10, .ref a10), (12, .int i12)] [.int k0] := by
  have hF := hFL.fix
  unfold f_L_law_551 at h
  refine g_istore_n (ls' := [(1, .int k0), (0, .ref (gSB + 3000)), (2, .int i2), (3, .ref a3), (5, .ref a5), (6, .ref a6), (7, .ref a7), (8, .int i8), (9, .int i9), (10, .ref a10), (12, .int i12)]) hF rfl (by rw [hn]; decide) rfl dL_law_551 ?_
  refine g_goto (tgt := 1129) hF dL_law_552 (by decide) ?_
  exact gG_sub [1, 0, 2, 3, 4, 5, 6, 7, 8, 9, 10] rfl (t_L_law_1129 hFL hn hd (by omega) (by omega) q3 q5 q6 q7 q10 h (fun v9 ad1 ce1 so1 q9 x1 y1 => hE v9 ad1 ce1 so1 q9 (gExt.tr gExt.rf x1) (gad_call y1 gExt.rf (fun _ _ => rfl))) (fun v9 ad1 ce1 so1 q9 x1 y1 => hN v9 ad1 ce1 so1 q9 (gExt.tr gExt.rf x1) (gad_call y1 gExt.rf (fun _ _ => rfl))))
theorem t_L_law_533 {Z : gZ} {d mc ms : Nat} {ad : Nat → Nat} {T : gT} {M : gM} {ce so c9 s9 K KS : Nat} {n : Nat} {f : Nat → Int32} {nm : String} {m_a3 m_a5 m_a6 m_a7 m_a10 : Nat} {i2 : Int32} {a3 : Nat} {a5 : Nat} {a6 : Nat} {a7 : Nat} {i8 : Int32} {i9 : Int32} {a10 : Nat} {i12 : Int32} {i13 : Int32} {i15 : Int32} {i21 : Int32} {o : (Int32 × Int32 × gT × gM) ⊕ (Int32 × Int32 × Int32 × gT × gM)} (hFL : gFixL Z cL_law RL nm (some .boolean) d mc ms (fun v _ _ _ => v = some (.int 1)) (fun _ _ _ _ => False) n f) (hn : Z.2.2.2.2.2.1 = 31) (hd : 60 ≤ d) (hk1 : ce + c9 + K ≤ mc) (hk2 : so + s9 + KS ≤ ms) (q3 : T[a3]? = some (8, m_a3)) (q5 : T[a5]? = some (18, m_a5)) (q6 : T[a6]? = some (16, m_a6)) (q7 : T[a7]? = some (22, m_a7)) (q10 : T[a10]? = some (16, m_a10)) (h : f_L_law_533 n f T M i2 a3 a5 a6 a7 i8 i9 a10 i12 i13 i15 i21 = some (o, c9, s9)) (hE : ∀ (e9 : Int32 × Int32 × gT × gM) (ad1 : Nat → Nat) (ce1 so1 : Nat), o = .inl e9 → gExt T e9.2.2.1 → (∀ a : Nat, a < T.length → ad1 a = ad a) → ce1 + K ≤ mc → so1 + KS ≤ ms → gG Z ad1 e9.2.2.1 e9.2.2.2 ce1 so1 1195 [(0, .ref (gSB + 3000)), (1, .int e9.1), (2, .int i2), (3, .ref a3), (7, .ref a7), (8, .int e9.2.1)] []) (hN : ∀ (n9 : Int32 × Int32 × Int32 × gT × gM) (ad1 : Nat → Nat) (ce1 so1 : Nat), o = .inr n9 → gExt T n9.2.2.2.1 → (∀ a : Nat, a < T.length → ad1 a = ad a) → ce1 + K ≤ mc → so1 + KS ≤ ms → gG Z ad1 n9.2.2.2.1 n9.2.2.2.2 ce1 so1 192 [(0, .ref (gSB + 3000)), (1, .int n9.1), (2, .int i2), (3, .ref a3), (5, .ref a5), (6, .ref a6), (7, .ref a7), (8, .int n9.2.1), (9, .int n9.2.2.1)] []) : gG Z ad T M ce so 533 [(0, .ref (gSB + 3000)), (2, .int i2), (3, .ref a3), (5, .ref a5), (6, .ref a6), (7, .ref a7), (8, .int i8), (9, .int i9), (10, .ref a10), (12, .int i12), (13, .int i13), (15, .int i15), (21, .int i21)] [] := by
  have hF := hFL.fix
  unfold f_L_law_533 at h
  refine g_aload_n hF 2 rfl rfl dL_law_533 ?_
  refine g_iload hF 11 rfl dL_law_534 ?_
  refine g_iload hF 12 rfl dL_law_536 ?_
  obtain ⟨x141, h141, h⟩ := gbnd h
  obtain ⟨c141, s141, h, ec141, es141⟩ := cadd_sp h
  refine g_callSW hF (n := 3) kw_1086 kw_64 rfl (by decide +kernel) (by decide +kernel) (by decide) kw_1084 kw_1085 (c_L_setKeeps (d := d - 1) (by omega) q3 h141) (by omega) (by omega) (by omega) rfl rfl (Nat.le_of_ble_eq_true rfl) dL_law_538 (g_sameS ?_)
  refine g_iload hF 10 rfl dL_law_541 ?_
  refine g_icmp_ne (tgt := 550) hF dL_law_543 (by decide) (fun c142 => ?_) (fun c142 => ?_)
  · replace h := gif_t c142 h
    refine g_iconst (v := (0 : Int32)) hF rfl dL_law_550 ?_
    exact gG_sub [0, 1, 2, 3, 4, 5, 6, 7, 8, 9] rfl (t_L_law_551 hFL hn hd (by omega) (by omega) q3 q5 q6 q7 q10 h (fun v9 ad1 ce1 so1 q9 x1 y1 => hE v9 ad1 ce1 so1 q9 (gExt.tr gExt.rf x1) (gad_call y1 gExt.rf (fun _ _ => rfl))) (fun v9 ad1 ce1 so1 q9 x1 y1 => hN v9 ad1 ce1 so1 q9 (gExt.tr gExt.rf x1) (gad_call y1 gExt.rf (fun _ _ => rfl))))
  · replace h := gif_n c142 h
    refine g_iconst (v := (1 : Int32)) hF rfl dL_law_546 ?_
    refine g_goto (tgt := 551) hF dL_law_547 (by decide) ?_
    exact gG_sub [0, 1, 2, 3, 4, 5, 6, 7, 8, 9] rfl (t_L_law_551 hFL hn hd (by omega) (by omega) q3 q5 q6 q7 q10 h (fun v9 ad1 ce1 so1 q9 x1 y1 => hE v9 ad1 ce1 so1 q9 (gExt.tr gExt.rf x1) (gad_call y1 gExt.rf (fun _ _ => rfl))) (fun v9 ad1 ce1 so1 q9 x1 y1 => hN v9 ad1 ce1 so1 q9 (gExt.tr gExt.rf x1) (gad_call y1 gExt.rf (fun _ _ => rfl))))
theorem t_L_law_505 {Z : gZ} {d mc ms : Nat} {ad : Nat → Nat} {T : gT} {M : gM} {ce so c9 s9 K KS : Nat} {n : Nat} {f : Nat → Int32} {nm : String} {m_a3 m_a5 m_a6 m_a7 m_a10 m_a11 : Nat} {i2 : Int32} {a3 : Nat} {a5 : Nat} {a6 : Nat} {a7 : Nat} {i8 : Int32} {i9 : Int32} {a10 : Nat} {a11 : Nat} {i13 : Int32} {i15 : Int32} {i17 : Int32} {o19 : Option Nat} {k0 : Int32} {o : (Int32 × Int32 × gT × gM) ⊕ (Int32 × Int32 × Int32 × gT × gM)} (hFL : gFixL Z cL_law RL nm (some .boolean) d mc ms (fun v _ _ _ => v = some (.int 1)) (fun _ _ _ _ => False) n f) (hn : Z.2.2.2.2.2.1 = 31) (hd : 60 ≤ d) (hk1 : ce + c9 + K ≤ mc) (hk2 : so + s9 + KS ≤ ms) (q3 : T[a3]? = some (8, m_a3)) (q5 : T[a5]? = some (18, m_a5)) (q6 : T[a6]? = some (16, m_a6)) (q7 : T[a7]? = some (22, m_a7)) (q10 : T[a10]? = some (16, m_a10)) (q11 : T[a11]? = some (15, m_a11)) (q19 : gOk T o19 9) (h : f_L_law_505 n f T M i2 a3 a5 a6 a7 i8 i9 a10 a11 i13 i15 i17 o19 k0 = some (o, c9, s9)) (hE : ∀ (e9 : Int32 × Int32 × gT × gM) (ad1 : Nat → Nat) (ce1 so1 : Nat), o = .inl e9 → gExt T e9.2.2.1 → (∀ a : Nat, a < T.length → ad1 a = ad a) → ce1 + K ≤ mc → so1 + KS ≤ ms → gG Z ad1 e9.2.2.1 e9.2.2.2 ce1 so1 1195 [(0, .ref (gSB + 3000)), (1, .int e9.1), (2, .int i2), (3, .ref a3), (7, .ref a7), (8, .int e9.2.1)] []) (hN : ∀ (n9 : Int32 × Int32 × Int32 × gT × gM) (ad1 : Nat → Nat) (ce1 so1 : Nat), o = .inr n9 → gExt T n9.2.2.2.1 → (∀ a : Nat, a < T.length → ad1 a = ad a) → ce1 + K ≤ mc → so1 + KS ≤ ms → gG Z ad1 n9.2.2.2.1 n9.2.2.2.2 ce1 so1 192 [(0, .ref (gSB + 3000)), (1, .int n9.1), (2, .int i2), (3, .ref a3), (5, .ref a5), (6, .ref a6), (7, .ref a7), (8, .int n9.2.1), (9, .int n9.2.2.1)] []) : gG Z ad T M ce so 505 [(0, .ref (gSB + 3000)), (2, .int i2), (3, .ref a3), (5, .ref a5), (6, .ref a6), (7, .ref a7), (8, .int i8), (9, .int i9), (10, .ref a10), (11, .ref a11), (13, .int i13), (15, .int i15), (17, .int i17), (19, gvo o19)] [.int k0] := by
  have hF := hFL.fix
  unfold f_L_law_505 at h
  refine g_istore (ls' := [(21, .int k0), (0, .ref (gSB + 3000)), (2, .int i2), (3, .ref a3), (5, .ref a5), (6, .ref a6), (7, .ref a7), (8, .int i8), (9, .int i9), (10, .ref a10), (11, .ref a11), (13, .int i13), (15, .int i15), (17, .int i17), (19, gvo o19)]) hF (by rw [hn]; decide) rfl dL_law_505 ?_
  refine g_iload hF 13 rfl dL_law_507 ?_
  refine g_istore (ls' := [(12, .int i17), (21, .int k0), (0, .ref (gSB + 3000)), (2, .int i2), (3, .ref a3), (5, .ref a5), (6, .ref a6), (7, .ref a7), (8, .int i8), (9, .int i9), (10, .ref a10), (11, .ref a11), (13, .int i13), (15, .int i15), (17, .int i17), (19, gvo o19)]) hF (by rw [hn]; decide) rfl dL_law_509 ?_
  refine g_iload hF 14 rfl dL_law_511 ?_
  refine g_if_eq (tgt := 533) hF dL_law_513 (by decide) (fun c143 => ?_) (fun c143 => ?_)
  · replace h := gif_t c143 h
    exact gG_sub [2, 3, 4, 5, 6, 7, 8, 9, 10, 0, 12, 13, 1] rfl (t_L_law_533 hFL hn hd (by omega) (by omega) q3 q5 q6 q7 q10 h (fun v9 ad1 ce1 so1 q9 x1 y1 => hE v9 ad1 ce1 so1 q9 (gExt.tr gExt.rf x1) (gad_call y1 gExt.rf (fun _ _ => rfl))) (fun v9 ad1 ce1 so1 q9 x1 y1 => hN v9 ad1 ce1 so1 q9 (gExt.tr gExt.rf x1) (gad_call y1 gExt.rf (fun _ _ => rfl))))
  · replace h := gif_f c143 h
    refine g_oload hF 15 rfl dL_law_516 ?_
    refine g_iload hF 1 rfl dL_law_518 ?_
    obtain ⟨b144, h144, h⟩ := gbnd h
    obtain ⟨g144, l144, q_b144⟩ := gsm_sp h144
    refine gG_st (st' := [.int k0, .ref b144]) (by first | (rw [g144]; rfl) | rw [g144]) ?_
    obtain ⟨_, h145, h⟩ := gbnd h
    refine g_put_i hF (gbool (chk_sp h145)) (gboolf (chk_sp h145)) fl_RL_169 q_b144 dL_law_520 ?_
    refine g_aload hF 6 rfl dL_law_523 ?_
    refine g_aload hF 11 rfl dL_law_525 ?_
    refine g_iconst (v := (-1 : Int32)) hF rfl dL_law_527 ?_
    obtain ⟨x146, h146, h⟩ := gbnd h
    obtain ⟨c146, s146, h, ec146, es146⟩ := cadd_sp h
    refine g_callV hF my_X10_changed kw_622 kw_623 kw_624 gC_16.1 (by decide) q6 (c_X10_changed (d := d - 1) (by omega) q6 q11 (trip h146)) (by omega) (by omega) (by omega) rfl rfl (Nat.le_of_ble_eq_true rfl) dL_law_528 (g_madeS (gOld_i (gOld_i (gOld_s (Nat.le_add_right _ _) (gOld_i (gOld_r (gT_lt q3) (gOld_r (gT_lt q5) (gOld_r (gT_lt q6) (gOld_r (gT_lt q7) (gOld_i (gOld_i (gOld_r (gT_lt q10) (gOld_r (gT_lt q11) (gOld_i (gOld_i (gOld_i (gOld_o q19 rfl gOld_0)))))))))))))))) gOld_0 (fun ad146 e146 y146 => ?_))
    have X146 := gExt.tr gExt.rf e146
    have W146 := gad_call y146 gExt.rf (fun _ _ => rfl)
    have q_147 := e146 _ _ q3
    have q_148 := e146 _ _ q5
    have q_149 := e146 _ _ q6
    have q_150 := e146 _ _ q7
    have q_151 := e146 _ _ q10
    have q_152 := e146 _ _ q11
    have q_153 := q19.ext e146
    refine g_istore (ls' := [(13, .int x146.1.1), (12, .int i17), (21, .int k0), (0, .ref (gSB + 3000)), (2, .int i2), (3, .ref a3), (5, .ref a5), (6, .ref a6), (7, .ref a7), (8, .int i8), (9, .int i9), (10, .ref a10), (11, .ref a11), (15, .int i15), (17, .int i17), (19, gvo o19)]) hF (by rw [hn]; decide) rfl dL_law_531 ?_
    exact gG_sub [3, 4, 5, 6, 7, 8, 9, 10, 11, 1, 0, 13, 2] rfl (t_L_law_533 hFL hn hd (by omega) (by omega) q_147 q_148 q_149 q_150 q_151 h (fun v9 ad1 ce1 so1 q9 x1 y1 => hE v9 ad1 ce1 so1 q9 (gExt.tr X146 x1) (gad_call y1 X146 W146)) (fun v9 ad1 ce1 so1 q9 x1 y1 => hN v9 ad1 ce1 so1 q9 (gExt.tr X146 x1) (gad_call y1 X146 W146)))
theorem t_L_law_487 {Z : gZ} {d mc ms : Nat} {ad : Nat → Nat} {T : gT} {M : gM} {ce so c9 s9 K KS : Nat} {n : Nat} {f : Nat → Int32} {nm : String} {m_a3 m_a5 m_a6 m_a7 m_a10 : Nat} {i2 : Int32} {a3 : Nat} {a5 : Nat} {a6 : Nat} {a7 : Nat} {i8 : Int32} {i9 : Int32} {a10 : Nat} {i12 : Int32} {k0 : Int32} {o : (Int32 × Int32 × gT × gM) ⊕ (Int32 × Int32 × Int32 × gT × gM)} (hFL : gFixL Z cL_law RL nm (some .boolean) d mc ms (fun v _ _ _ => v = some (.int 1)) (fun _ _ _ _ => False) n f) (hn : Z.2.2.2.2.2.1 = 31) (hd : 60 ≤ d) (hk1 : ce + c9 + K ≤ mc) (hk2 : so + s9 + KS ≤ ms) (q3 : T[a3]? = some (8, m_a3)) (q5 : T[a5]? = some (18, m_a5)) (q6 : T[a6]? = some (16, m_a6)) (q7 : T[a7]? = some (22, m_a7)) (q10 : T[a10]? = some (16, m_a10)) (h : f_L_law_487 n f T M i2 a3 a5 a6 a7 i8 i9 a10 i12 k0 = some (o, c9, s9)) (hE : ∀ (e9 : Int32 × Int32 × gT × gM) (ad1 : Nat → Nat) (ce1 so1 : Nat), o = .inl e9 → gExt T e9.2.2.1 → (∀ a : Nat, a < T.length → ad1 a = ad a) → ce1 + K ≤ mc → so1 + KS ≤ ms → gG Z ad1 e9.2.2.1 e9.2.2.2 ce1 so1 1195 [(0, .ref (gSB + 3000)), (1, .int e9.1), (2, .int i2), (3, .ref a3), (7, .ref a7), (8, .int e9.2.1)] []) (hN : ∀ (n9 : Int32 × Int32 × Int32 × gT × gM) (ad1 : Nat → Nat) (ce1 so1 : Nat), o = .inr n9 → gExt T n9.2.2.2.1 → (∀ a : Nat, a < T.length → ad1 a = ad a) → ce1 + K ≤ mc → so1 + KS ≤ ms → gG Z ad1 n9.2.2.2.1 n9.2.2.2.2 ce1 so1 192 [(0, .ref (gSB + 3000)), (1, .int n9.1), (2, .int i2), (3, .ref a3), (5, .ref a5), (6, .ref a6), (7, .ref a7), (8, .int n9.2.1), (9, .int n9.2.2.1)] []) : gG Z ad T M ce so 487 [(0, .ref (gSB + 3000)), (2, .int i2), (3, .ref a3), (5, .ref a5), (6, .ref a6), (7, .ref a7), (8, .int i8), (9, .int i9), (10, .ref a10), (12, .int i12)] [.int k0] := by
  have hF := hFL.fix
  unfold f_L_law_487 at h
  refine g_istore_n (ls' := [(1, .int k0), (0, .ref (gSB + 3000)), (2, .int i2), (3, .ref a3), (5, .ref a5), (6, .ref a6), (7, .ref a7), (8, .int i8), (9, .int i9), (10, .ref a10), (12, .int i12)]) hF rfl (by rw [hn]; decide) rfl dL_law_487 ?_
  refine g_goto (tgt := 1129) hF dL_law_488 (by decide) ?_
  exact gG_sub [1, 0, 2, 3, 4, 5, 6, 7, 8, 9, 10] rfl (t_L_law_1129 hFL hn hd (by omega) (by omega) q3 q5 q6 q7 q10 h (fun v9 ad1 ce1 so1 q9 x1 y1 => hE v9 ad1 ce1 so1 q9 (gExt.tr gExt.rf x1) (gad_call y1 gExt.rf (fun _ _ => rfl))) (fun v9 ad1 ce1 so1 q9 x1 y1 => hN v9 ad1 ce1 so1 q9 (gExt.tr gExt.rf x1) (gad_call y1 gExt.rf (fun _ _ => rfl))))
theorem t_L_law_479 {Z : gZ} {d mc ms : Nat} {ad : Nat → Nat} {T : gT} {M : gM} {ce so c9 s9 K KS : Nat} {n : Nat} {f : Nat → Int32} {nm : String} {m_a3 m_a5 m_a6 m_a7 m_a10 : Nat} {i2 : Int32} {a3 : Nat} {a5 : Nat} {a6 : Nat} {a7 : Nat} {i8 : Int32} {i9 : Int32} {a10 : Nat} {i12 : Int32} {k0 : Int32} {k1 : Int32} {o : (Int32 × Int32 × gT × gM) ⊕ (Int32 × Int32 × Int32 × gT × gM)} (hFL : gFixL Z cL_law RL nm (some .boolean) d mc ms (fun v _ _ _ => v = some (.int 1)) (fun _ _ _ _ => False) n f) (hn : Z.2.2.2.2.2.1 = 31) (hd : 60 ≤ d) (hk1 : ce + c9 + K ≤ mc) (hk2 : so + s9 + KS ≤ ms) (q3 : T[a3]? = some (8, m_a3)) (q5 : T[a5]? = some (18, m_a5)) (q6 : T[a6]? = some (16, m_a6)) (q7 : T[a7]? = some (22, m_a7)) (q10 : T[a10]? = some (16, m_a10)) (h : f_L_law_479 n f T M i2 a3 a5 a6 a7 i8 i9 a10 i12 k0 k1 = some (o, c9, s9)) (hE : ∀ (e9 : Int32 × Int32 × gT × gM) (ad1 : Nat → Nat) (ce1 so1 : Nat), o = .inl e9 → gExt T e9.2.2.1 → (∀ a : Nat, a < T.length → ad1 a = ad a) → ce1 + K ≤ mc → so1 + KS ≤ ms → gG Z ad1 e9.2.2.1 e9.2.2.2 ce1 so1 1195 [(0, .ref (gSB + 3000)), (1, .int e9.1), (2, .int i2), (3, .ref a3), (7, .ref a7), (8, .int e9.2.1)] []) (hN : ∀ (n9 : Int32 × Int32 × Int32 × gT × gM) (ad1 : Nat → Nat) (ce1 so1 : Nat), o = .inr n9 → gExt T n9.2.2.2.1 → (∀ a : Nat, a < T.length → ad1 a = ad a) → ce1 + K ≤ mc → so1 + KS ≤ ms → gG Z ad1 n9.2.2.2.1 n9.2.2.2.2 ce1 so1 192 [(0, .ref (gSB + 3000)), (1, .int n9.1), (2, .int i2), (3, .ref a3), (5, .ref a5), (6, .ref a6), (7, .ref a7), (8, .int n9.2.1), (9, .int n9.2.2.1)] []) : gG Z ad T M ce so 479 [(0, .ref (gSB + 3000)), (2, .int i2), (3, .ref a3), (5, .ref a5), (6, .ref a6), (7, .ref a7), (8, .int i8), (9, .int i9), (10, .ref a10), (12, .int i12)] [.int k1, .int k0] := by
  have hF := hFL.fix
  unfold f_L_law_479 at h
  refine g_icmp_ne (tgt := 486) hF dL_law_479 (by decide) (fun c154 => ?_) (fun c154 => ?_)
  · replace h := gif_t c154 h
    refine g_iconst (v := (0 : Int32)) hF rfl dL_law_486 ?_
    exact gG_sub [0, 1, 2, 3, 4, 5, 6, 7, 8, 9] rfl (t_L_law_487 hFL hn hd (by omega) (by omega) q3 q5 q6 q7 q10 h (fun v9 ad1 ce1 so1 q9 x1 y1 => hE v9 ad1 ce1 so1 q9 (gExt.tr gExt.rf x1) (gad_call y1 gExt.rf (fun _ _ => rfl))) (fun v9 ad1 ce1 so1 q9 x1 y1 => hN v9 ad1 ce1 so1 q9 (gExt.tr gExt.rf x1) (gad_call y1 gExt.rf (fun _ _ => rfl))))
  · replace h := gif_n c154 h
    refine g_iconst (v := (1 : Int32)) hF rfl dL_law_482 ?_
    refine g_goto (tgt := 487) hF dL_law_483 (by decide) ?_
    exact gG_sub [0, 1, 2, 3, 4, 5, 6, 7, 8, 9] rfl (t_L_law_487 hFL hn hd (by omega) (by omega) q3 q5 q6 q7 q10 h (fun v9 ad1 ce1 so1 q9 x1 y1 => hE v9 ad1 ce1 so1 q9 (gExt.tr gExt.rf x1) (gad_call y1 gExt.rf (fun _ _ => rfl))) (fun v9 ad1 ce1 so1 q9 x1 y1 => hN v9 ad1 ce1 so1 q9 (gExt.tr gExt.rf x1) (gad_call y1 gExt.rf (fun _ _ => rfl))))
theorem t_L_law_455 {Z : gZ} {d mc ms : Nat} {ad : Nat → Nat} {T : gT} {M : gM} {ce so c9 s9 K KS : Nat} {n : Nat} {f : Nat → Int32} {nm : String} {m_a3 m_a5 m_a6 m_a7 m_a10 m_a11 : Nat} {i2 : Int32} {a3 : Nat} {a5 : Nat} {a6 : Nat} {a7 : Nat} {i8 : Int32} {i9 : Int32} {a10 : Nat} {a11 : Nat} {i12 : Int32} {i20 : Int32} {o : (Int32 × Int32 × gT × gM) ⊕ (Int32 × Int32 × Int32 × gT × gM)} (hFL : gFixL Z cL_law RL nm (some .boolean) d mc ms (fun v _ _ _ => v = some (.int 1)) (fun _ _ _ _ => False) n f) (hn : Z.2.2.2.2.2.1 = 31) (hd : 60 ≤ d) (hk1 : ce + c9 + K ≤ mc) (hk2 : so + s9 + KS ≤ ms) (q3 : T[a3]? = some (8, m_a3)) (q5 : T[a5]? = some (18, m_a5)) (q6 : T[a6]? = some (16, m_a6)) (q7 : T[a7]? = some (22, m_a7)) (q10 : T[a10]? = some (16, m_a10)) (q11 : T[a11]? = some (15, m_a11)) (h : f_L_law_455 n f T M i2 a3 a5 a6 a7 i8 i9 a10 a11 i12 i20 = some (o, c9, s9)) (hE : ∀ (e9 : Int32 × Int32 × gT × gM) (ad1 : Nat → Nat) (ce1 so1 : Nat), o = .inl e9 → gExt T e9.2.2.1 → (∀ a : Nat, a < T.length → ad1 a = ad a) → ce1 + K ≤ mc → so1 + KS ≤ ms → gG Z ad1 e9.2.2.1 e9.2.2.2 ce1 so1 1195 [(0, .ref (gSB + 3000)), (1, .int e9.1), (2, .int i2), (3, .ref a3), (7, .ref a7), (8, .int e9.2.1)] []) (hN : ∀ (n9 : Int32 × Int32 × Int32 × gT × gM) (ad1 : Nat → Nat) (ce1 so1 : Nat), o = .inr n9 → gExt T n9.2.2.2.1 → (∀ a : Nat, a < T.length → ad1 a = ad a) → ce1 + K ≤ mc → so1 + KS ≤ ms → gG Z ad1 n9.2.2.2.1 n9.2.2.2.2 ce1 so1 192 [(0, .ref (gSB + 3000)), (1, .int n9.1), (2, .int i2), (3, .ref a3), (5, .ref a5), (6, .ref a6), (7, .ref a7), (8, .int n9.2.1), (9, .int n9.2.2.1)] []) : gG Z ad T M ce so 455 [(0, .ref (gSB + 3000)), (2, .int i2), (3, .ref a3), (5, .ref a5), (6, .ref a6), (7, .ref a7), (8, .int i8), (9, .int i9), (10, .ref a10), (11, .ref a11), (12, .int i12), (20, .int i20)] [] := by
  have hF := hFL.fix
  unfold f_L_law_455 at h
  refine g_aload_n hF 2 rfl rfl dL_law_455 ?_
  refine g_iload hF 11 rfl dL_law_456 ?_
  obtain ⟨x155, h155, h⟩ := gbnd h
  obtain ⟨c155, s155, h, ec155, es155⟩ := cadd_sp h
  refine g_callSW hF (n := 2) kw_1093 kw_64 rfl (by decide +kernel) (by decide +kernel) (by decide) kw_1091 kw_1092 (c_L_setShare (d := d - 1) (by omega) q3 h155) (by omega) (by omega) (by omega) rfl rfl (Nat.le_of_ble_eq_true rfl) dL_law_458 (g_sameS ?_)
  refine g_iload hF 10 rfl dL_law_461 ?_
  refine g_if_eq (tgt := 477) hF dL_law_463 (by decide) (fun c156 => ?_) (fun c156 => ?_)
  · replace h := gif_t c156 h
    refine g_ldc (v := (-2000000098 : Int32)) hF kw_942 dL_law_477 ?_
    exact gG_sub [0, 1, 2, 3, 4, 5, 6, 7, 8, 10] rfl (t_L_law_479 hFL hn hd (by omega) (by omega) q3 q5 q6 q7 q10 h (fun v9 ad1 ce1 so1 q9 x1 y1 => hE v9 ad1 ce1 so1 q9 (gExt.tr gExt.rf x1) (gad_call y1 gExt.rf (fun _ _ => rfl))) (fun v9 ad1 ce1 so1 q9 x1 y1 => hN v9 ad1 ce1 so1 q9 (gExt.tr gExt.rf x1) (gad_call y1 gExt.rf (fun _ _ => rfl))))
  · replace h := gif_f c156 h
    refine g_aload hF 4 rfl dL_law_466 ?_
    refine g_aload hF 9 rfl dL_law_468 ?_
    refine g_iconst (v := (-1 : Int32)) hF rfl dL_law_470 ?_
    obtain ⟨x157, h157, h⟩ := gbnd h
    obtain ⟨c157, s157, h, ec157, es157⟩ := cadd_sp h
    refine g_callV hF my_X10_changed kw_622 kw_623 kw_624 gC_16.1 (by decide) q6 (c_X10_changed (d := d - 1) (by omega) q6 q11 (trip h157)) (by omega) (by omega) (by omega) rfl rfl (Nat.le_of_ble_eq_true rfl) dL_law_471 (g_madeS (gOld_s (Nat.le_add_right _ _) (gOld_i (gOld_r (gT_lt q3) (gOld_r (gT_lt q5) (gOld_r (gT_lt q6) (gOld_r (gT_lt q7) (gOld_i (gOld_i (gOld_r (gT_lt q10) (gOld_r (gT_lt q11) (gOld_i (gOld_i gOld_0)))))))))))) (gOld_i gOld_0) (fun ad157 e157 y157 => ?_))
    have X157 := gExt.tr gExt.rf e157
    have W157 := gad_call y157 gExt.rf (fun _ _ => rfl)
    have q_158 := e157 _ _ q3
    have q_159 := e157 _ _ q5
    have q_160 := e157 _ _ q6
    have q_161 := e157 _ _ q7
    have q_162 := e157 _ _ q10
    have q_163 := e157 _ _ q11
    refine g_goto (tgt := 479) hF dL_law_474 (by decide) ?_
    exact gG_sub [0, 1, 2, 3, 4, 5, 6, 7, 8, 10] rfl (t_L_law_479 hFL hn hd (by omega) (by omega) q_158 q_159 q_160 q_161 q_162 h (fun v9 ad1 ce1 so1 q9 x1 y1 => hE v9 ad1 ce1 so1 q9 (gExt.tr X157 x1) (gad_call y1 X157 W157)) (fun v9 ad1 ce1 so1 q9 x1 y1 => hN v9 ad1 ce1 so1 q9 (gExt.tr X157 x1) (gad_call y1 X157 W157)))
theorem t_L_law_441 {Z : gZ} {d mc ms : Nat} {ad : Nat → Nat} {T : gT} {M : gM} {ce so c9 s9 K KS : Nat} {n : Nat} {f : Nat → Int32} {nm : String} {m_a3 m_a5 m_a6 m_a7 m_a10 m_a11 : Nat} {i2 : Int32} {a3 : Nat} {a5 : Nat} {a6 : Nat} {a7 : Nat} {i8 : Int32} {i9 : Int32} {a10 : Nat} {a11 : Nat} {i20 : Int32} {k0 : Int32} {o : (Int32 × Int32 × gT × gM) ⊕ (Int32 × Int32 × Int32 × gT × gM)} (hFL : gFixL Z cL_law RL nm (some .boolean) d mc ms (fun v _ _ _ => v = some (.int 1)) (fun _ _ _ _ => False) n f) (hn : Z.2.2.2.2.2.1 = 31) (hd : 60 ≤ d) (hk1 : ce + c9 + K ≤ mc) (hk2 : so + s9 + KS ≤ ms) (q3 : T[a3]? = some (8, m_a3)) (q5 : T[a5]? = some (18, m_a5)) (q6 : T[a6]? = some (16, m_a6)) (q7 : T[a7]? = some (22, m_a7)) (q10 : T[a10]? = some (16, m_a10)) (q11 : T[a11]? = some (15, m_a11)) (h : f_L_law_441 n f T M i2 a3 a5 a6 a7 i8 i9 a10 a11 i20 k0 = some (o, c9, s9)) (hE : ∀ (e9 : Int32 × Int32 × gT × gM) (ad1 : Nat → Nat) (ce1 so1 : Nat), o = .inl e9 → gExt T e9.2.2.1 → (∀ a : Nat, a < T.length → ad1 a = ad a) → ce1 + K ≤ mc → so1 + KS ≤ ms → gG Z ad1 e9.2.2.1 e9.2.2.2 ce1 so1 1195 [(0, .ref (gSB + 3000)), (1, .int e9.1), (2, .int i2), (3, .ref a3), (7, .ref a7), (8, .int e9.2.1)] []) (hN : ∀ (n9 : Int32 × Int32 × Int32 × gT × gM) (ad1 : Nat → Nat) (ce1 so1 : Nat), o = .inr n9 → gExt T n9.2.2.2.1 → (∀ a : Nat, a < T.length → ad1 a = ad a) → ce1 + K ≤ mc → so1 + KS ≤ ms → gG Z ad1 n9.2.2.2.1 n9.2.2.2.2 ce1 so1 192 [(0, .ref (gSB + 3000)), (1, .int n9.1), (2, .int i2), (3, .ref a3), (5, .ref a5), (6, .ref a6), (7, .ref a7), (8, .int n9.2.1), (9, .int n9.2.2.1)] []) : gG Z ad T M ce so 441 [(0, .ref (gSB + 3000)), (2, .int i2), (3, .ref a3), (5, .ref a5), (6, .ref a6), (7, .ref a7), (8, .int i8), (9, .int i9), (10, .ref a10), (11, .ref a11), (20, .int i20)] [.int k0] := by
  have hF := hFL.fix
  unfold f_L_law_441 at h
  refine g_istore (ls' := [(12, .int k0), (0, .ref (gSB + 3000)), (2, .int i2), (3, .ref a3), (5, .ref a5), (6, .ref a6), (7, .ref a7), (8, .int i8), (9, .int i9), (10, .ref a10), (11, .ref a11), (20, .int i20)]) hF (by rw [hn]; decide) rfl dL_law_441 ?_
  refine g_iload hF 0 rfl dL_law_443 ?_
  refine g_if_eq (tgt := 455) hF dL_law_445 (by decide) (fun c164 => ?_) (fun c164 => ?_)
  · replace h := gif_t c164 h
    exact gG_sub [1, 2, 3, 4, 5, 6, 7, 8, 9, 10, 0, 11] rfl (t_L_law_455 hFL hn hd (by omega) (by omega) q3 q5 q6 q7 q10 q11 h (fun v9 ad1 ce1 so1 q9 x1 y1 => hE v9 ad1 ce1 so1 q9 (gExt.tr gExt.rf x1) (gad_call y1 gExt.rf (fun _ _ => rfl))) (fun v9 ad1 ce1 so1 q9 x1 y1 => hN v9 ad1 ce1 so1 q9 (gExt.tr gExt.rf x1) (gad_call y1 gExt.rf (fun _ _ => rfl))))
  · replace h := gif_f c164 h
    refine g_aload hF 5 rfl dL_law_448 ?_
    refine g_iload hF 11 rfl dL_law_450 ?_
    refine g_put_i hF rfl rfl fl_RL_209 q6 dL_law_452 ?_
    exact gG_sub [1, 2, 3, 4, 5, 6, 7, 8, 9, 10, 0, 11] rfl (t_L_law_455 hFL hn hd (by omega) (by omega) q3 q5 q6 q7 q10 q11 h (fun v9 ad1 ce1 so1 q9 x1 y1 => hE v9 ad1 ce1 so1 q9 (gExt.tr gExt.rf x1) (gad_call y1 gExt.rf (fun _ _ => rfl))) (fun v9 ad1 ce1 so1 q9 x1 y1 => hN v9 ad1 ce1 so1 q9 (gExt.tr gExt.rf x1) (gad_call y1 gExt.rf (fun _ _ => rfl))))
theorem t_L_law_424 {Z : gZ} {d mc ms : Nat} {ad : Nat → Nat} {T : gT} {M : gM} {ce so c9 s9 K KS : Nat} {n : Nat} {f : Nat → Int32} {nm : String} {m_a3 m_a5 m_a6 m_a7 m_a10 m_a11 m_b0 : Nat} {i2 : Int32} {a3 : Nat} {a5 : Nat} {a6 : Nat} {a7 : Nat} {i8 : Int32} {i9 : Int32} {a10 : Nat} {a11 : Nat} {b0 : Nat} {k1 : Int32} {o : (Int32 × Int32 × gT × gM) ⊕ (Int32 × Int32 × Int32 × gT × gM)} (hFL : gFixL Z cL_law RL nm (some .boolean) d mc ms (fun v _ _ _ => v = some (.int 1)) (fun _ _ _ _ => False) n f) (hn : Z.2.2.2.2.2.1 = 31) (hd : 60 ≤ d) (hk1 : ce + c9 + K ≤ mc) (hk2 : so + s9 + KS ≤ ms) (q3 : T[a3]? = some (8, m_a3)) (q5 : T[a5]? = some (18, m_a5)) (q6 : T[a6]? = some (16, m_a6)) (q7 : T[a7]? = some (22, m_a7)) (q10 : T[a10]? = some (16, m_a10)) (q11 : T[a11]? = some (15, m_a11)) (p0 : T[b0]? = some (18, m_b0)) (h : f_L_law_424 n f T M i2 a3 a5 a6 a7 i8 i9 a10 a11 b0 k1 = some (o, c9, s9)) (hE : ∀ (e9 : Int32 × Int32 × gT × gM) (ad1 : Nat → Nat) (ce1 so1 : Nat), o = .inl e9 → gExt T e9.2.2.1 → (∀ a : Nat, a < T.length → ad1 a = ad a) → ce1 + K ≤ mc → so1 + KS ≤ ms → gG Z ad1 e9.2.2.1 e9.2.2.2 ce1 so1 1195 [(0, .ref (gSB + 3000)), (1, .int e9.1), (2, .int i2), (3, .ref a3), (7, .ref a7), (8, .int e9.2.1)] []) (hN : ∀ (n9 : Int32 × Int32 × Int32 × gT × gM) (ad1 : Nat → Nat) (ce1 so1 : Nat), o = .inr n9 → gExt T n9.2.2.2.1 → (∀ a : Nat, a < T.length → ad1 a = ad a) → ce1 + K ≤ mc → so1 + KS ≤ ms → gG Z ad1 n9.2.2.2.1 n9.2.2.2.2 ce1 so1 192 [(0, .ref (gSB + 3000)), (1, .int n9.1), (2, .int i2), (3, .ref a3), (5, .ref a5), (6, .ref a6), (7, .ref a7), (8, .int n9.2.1), (9, .int n9.2.2.1)] []) : gG Z ad T M ce so 424 [(0, .ref (gSB + 3000)), (2, .int i2), (3, .ref a3), (5, .ref a5), (6, .ref a6), (7, .ref a7), (8, .int i8), (9, .int i9), (10, .ref a10), (11, .ref a11)] [.int k1, .ref b0] := by
  have hF := hFL.fix
  unfold f_L_law_424 at h
  obtain ⟨x165, h165, h⟩ := gbnd h
  refine g_callV hF my_X12_below kw_636 kw_637 kw_638 gC_18.1 (by decide) p0 (c_X12_below (d := d - 1) (by omega) p0 h165) (by omega) (by omega) (by omega) rfl rfl (Nat.le_of_ble_eq_true rfl) dL_law_424 (g_sameS ?_)
  refine g_istore (ls' := [(20, .int x165.1), (0, .ref (gSB + 3000)), (2, .int i2), (3, .ref a3), (5, .ref a5), (6, .ref a6), (7, .ref a7), (8, .int i8), (9, .int i9), (10, .ref a10), (11, .ref a11)]) hF (by rw [hn]; decide) rfl dL_law_427 ?_
  refine g_iload hF 0 rfl dL_law_429 ?_
  refine g_bipush (v := (101 : Int32)) hF rfl dL_law_431 ?_
  refine g_icmp_ge (tgt := 440) hF dL_law_433 (by decide) (fun c166 => ?_) (fun c166 => ?_)
  · replace h := gif_t c166 h
    refine g_iconst (v := (0 : Int32)) hF rfl dL_law_440 ?_
    exact gG_sub [1, 2, 3, 4, 5, 6, 7, 8, 9, 10, 0] rfl (t_L_law_441 hFL hn hd (by omega) (by omega) q3 q5 q6 q7 q10 q11 h (fun v9 ad1 ce1 so1 q9 x1 y1 => hE v9 ad1 ce1 so1 q9 (gExt.tr gExt.rf x1) (gad_call y1 gExt.rf (fun _ _ => rfl))) (fun v9 ad1 ce1 so1 q9 x1 y1 => hN v9 ad1 ce1 so1 q9 (gExt.tr gExt.rf x1) (gad_call y1 gExt.rf (fun _ _ => rfl))))
  · replace h := gif_f c166 h
    refine g_iconst (v := (1 : Int32)) hF rfl dL_law_436 ?_
    refine g_goto (tgt := 441) hF dL_law_437 (by decide) ?_
    exact gG_sub [1, 2, 3, 4, 5, 6, 7, 8, 9, 10, 0] rfl (t_L_law_441 hFL hn hd (by omega) (by omega) q3 q5 q6 q7 q10 q11 h (fun v9 ad1 ce1 so1 q9 x1 y1 => hE v9 ad1 ce1 so1 q9 (gExt.tr gExt.rf x1) (gad_call y1 gExt.rf (fun _ _ => rfl))) (fun v9 ad1 ce1 so1 q9 x1 y1 => hN v9 ad1 ce1 so1 q9 (gExt.tr gExt.rf x1) (gad_call y1 gExt.rf (fun _ _ => rfl))))
theorem t_L_law_351 {Z : gZ} {d mc ms : Nat} {ad : Nat → Nat} {T : gT} {M : gM} {ce so c9 s9 K KS : Nat} {n : Nat} {f : Nat → Int32} {nm : String} {m_a3 m_a5 m_a6 m_a7 m_a10 m_a11 : Nat} {i2 : Int32} {a3 : Nat} {a5 : Nat} {a6 : Nat} {a7 : Nat} {i8 : Int32} {i9 : Int32} {a10 : Nat} {a11 : Nat} {i13 : Int32} {i15 : Int32} {i16 : Int32} {i17 : Int32} {i18 : Int32} {u0 : Option Nat} {o : (Int32 × Int32 × gT × gM) ⊕ (Int32 × Int32 × Int32 × gT × gM)} (hFL : gFixL Z cL_law RL nm (some .boolean) d mc ms (fun v _ _ _ => v = some (.int 1)) (fun _ _ _ _ => False) n f) (hn : Z.2.2.2.2.2.1 = 31) (hd : 60 ≤ d) (hk1 : ce + c9 + K ≤ mc) (hk2 : so + s9 + KS ≤ ms) (q3 : T[a3]? = some (8, m_a3)) (q5 : T[a5]? = some (18, m_a5)) (q6 : T[a6]? = some (16, m_a6)) (q7 : T[a7]? = some (22, m_a7)) (q10 : T[a10]? = some (16, m_a10)) (q11 : T[a11]? = some (15, m_a11)) (p0 : gOk T u0 9) (h : f_L_law_351 n f T M i2 a3 a5 a6 a7 i8 i9 a10 a11 i13 i15 i16 i17 i18 u0 = some (o, c9, s9)) (hE : ∀ (e9 : Int32 × Int32 × gT × gM) (ad1 : Nat → Nat) (ce1 so1 : Nat), o = .inl e9 → gExt T e9.2.2.1 → (∀ a : Nat, a < T.length → ad1 a = ad a) → ce1 + K ≤ mc → so1 + KS ≤ ms → gG Z ad1 e9.2.2.1 e9.2.2.2 ce1 so1 1195 [(0, .ref (gSB + 3000)), (1, .int e9.1), (2, .int i2), (3, .ref a3), (7, .ref a7), (8, .int e9.2.1)] []) (hN : ∀ (n9 : Int32 × Int32 × Int32 × gT × gM) (ad1 : Nat → Nat) (ce1 so1 : Nat), o = .inr n9 → gExt T n9.2.2.2.1 → (∀ a : Nat, a < T.length → ad1 a = ad a) → ce1 + K ≤ mc → so1 + KS ≤ ms → gG Z ad1 n9.2.2.2.1 n9.2.2.2.2 ce1 so1 192 [(0, .ref (gSB + 3000)), (1, .int n9.1), (2, .int i2), (3, .ref a3), (5, .ref a5), (6, .ref a6), (7, .ref a7), (8, .int n9.2.1), (9, .int n9.2.2.1)] []) : gG Z ad T M ce so 351 [(0, .ref (gSB + 3000)), (2, .int i2), (3, .ref a3), (5, .ref a5), (6, .ref a6), (7, .ref a7), (8, .int i8), (9, .int i9), (10, .ref a10), (11, .ref a11), (13, .int i13), (15, .int i15), (16, .int i16), (17, .int i17), (18, .int i18)] [gvo u0] := by
  have hF := hFL.fix
  unfold f_L_law_351 at h
  refine g_ostore (ls' := [(19, gvo u0), (0, .ref (gSB + 3000)), (2, .int i2), (3, .ref a3), (5, .ref a5), (6, .ref a6), (7, .ref a7), (8, .int i8), (9, .int i9), (10, .ref a10), (11, .ref a11), (13, .int i13), (15, .int i15), (16, .int i16), (17, .int i17), (18, .int i18)]) hF (by rw [hn]; decide) rfl dL_law_351 ?_
  refine g_aload hF 4 rfl dL_law_353 ?_
  refine g_bipush (v := (9 : Int32)) hF rfl dL_law_355 ?_
  obtain ⟨x167, h167, h⟩ := gbnd h
  refine g_callV hF my_X12_below kw_636 kw_637 kw_638 gC_18.1 (by decide) q5 (c_X12_below (d := d - 1) (by omega) q5 h167) (by omega) (by omega) (by omega) rfl rfl (Nat.le_of_ble_eq_true rfl) dL_law_357 (g_sameS ?_)
  by_cases c168_0 : x167.1 = (0 : Int32)
  · replace h := gif_t c168_0 h
    refine g_tabIn (tgt := 404) (off := 44) hF dL_law_360 (by rw [c168_0]; decide) (by rw [c168_0]; decide) (by rw [c168_0]; decide +kernel) (by decide) ?_
    refine g_aload hF 4 rfl dL_law_404 ?_
    refine g_aload hF 4 rfl dL_law_406 ?_
    refine g_bipush (v := (9 : Int32)) hF rfl dL_law_408 ?_
    obtain ⟨x169, h169, h⟩ := gbnd h
    refine g_callV hF my_X12_below kw_636 kw_637 kw_638 gC_18.1 (by decide) q5 (c_X12_below (d := d - 1) (by omega) q5 h169) (by omega) (by omega) (by omega) rfl rfl (Nat.le_of_ble_eq_true rfl) dL_law_410 (g_sameS ?_)
    refine g_if_ne (tgt := 422) hF dL_law_413 (by decide) (fun c170 => ?_) (fun c170 => ?_)
    · replace h := gif_t c170 h
      refine g_bipush (v := (101 : Int32)) hF rfl dL_law_422 ?_
      exact gG_sub [1, 2, 3, 4, 5, 6, 7, 8, 9, 10] rfl (t_L_law_424 hFL hn hd (by omega) (by omega) q3 q5 q6 q7 q10 q11 q5 h (fun v9 ad1 ce1 so1 q9 x1 y1 => hE v9 ad1 ce1 so1 q9 (gExt.tr gExt.rf x1) (gad_call y1 gExt.rf (fun _ _ => rfl))) (fun v9 ad1 ce1 so1 q9 x1 y1 => hN v9 ad1 ce1 so1 q9 (gExt.tr gExt.rf x1) (gad_call y1 gExt.rf (fun _ _ => rfl))))
    · replace h := gif_n c170 h
      refine g_sipush (v := (200 : Int32)) hF rfl dL_law_416 ?_
      refine g_goto (tgt := 424) hF dL_law_419 (by decide) ?_
      exact gG_sub [1, 2, 3, 4, 5, 6, 7, 8, 9, 10] rfl (t_L_law_424 hFL hn hd (by omega) (by omega) q3 q5 q6 q7 q10 q11 q5 h (fun v9 ad1 ce1 so1 q9 x1 y1 => hE v9 ad1 ce1 so1 q9 (gExt.tr gExt.rf x1) (gad_call y1 gExt.rf (fun _ _ => rfl))) (fun v9 ad1 ce1 so1 q9 x1 y1 => hN v9 ad1 ce1 so1 q9 (gExt.tr gExt.rf x1) (gad_call y1 gExt.rf (fun _ _ => rfl))))
  · replace h := gif_f c168_0 h
    by_cases c168_1 : x167.1 = (1 : Int32)
    · replace h := gif_t c168_1 h
      refine g_tabIn (tgt := 491) (off := 131) hF dL_law_360 (by rw [c168_1]; decide) (by rw [c168_1]; decide) (by rw [c168_1]; decide +kernel) (by decide) ?_
      refine g_aload hF 4 rfl dL_law_491 ?_
      refine g_iconst (v := (2 : Int32)) hF rfl dL_law_493 ?_
      obtain ⟨x171, h171, h⟩ := gbnd h
      refine g_callV hF my_X12_below kw_636 kw_637 kw_638 gC_18.1 (by decide) q5 (c_X12_below (d := d - 1) (by omega) q5 h171) (by omega) (by omega) (by omega) rfl rfl (Nat.le_of_ble_eq_true rfl) dL_law_494 (g_sameS ?_)
      refine g_if_ne (tgt := 504) hF dL_law_497 (by decide) (fun c172 => ?_) (fun c172 => ?_)
      · replace h := gif_t c172 h
        refine g_iconst (v := (0 : Int32)) hF rfl dL_law_504 ?_
        exact gG_sub [1, 2, 3, 4, 5, 6, 7, 8, 9, 10, 11, 12, 14, 0] rfl (t_L_law_505 hFL hn hd (by omega) (by omega) q3 q5 q6 q7 q10 q11 p0 h (fun v9 ad1 ce1 so1 q9 x1 y1 => hE v9 ad1 ce1 so1 q9 (gExt.tr gExt.rf x1) (gad_call y1 gExt.rf (fun _ _ => rfl))) (fun v9 ad1 ce1 so1 q9 x1 y1 => hN v9 ad1 ce1 so1 q9 (gExt.tr gExt.rf x1) (gad_call y1 gExt.rf (fun _ _ => rfl))))
      · replace h := gif_n c172 h
        refine g_iconst (v := (1 : Int32)) hF rfl dL_law_500 ?_
        refine g_goto (tgt := 505) hF dL_law_501 (by decide) ?_
        exact gG_sub [1, 2, 3, 4, 5, 6, 7, 8, 9, 10, 11, 12, 14, 0] rfl (t_L_law_505 hFL hn hd (by omega) (by omega) q3 q5 q6 q7 q10 q11 p0 h (fun v9 ad1 ce1 so1 q9 x1 y1 => hE v9 ad1 ce1 so1 q9 (gExt.tr gExt.rf x1) (gad_call y1 gExt.rf (fun _ _ => rfl))) (fun v9 ad1 ce1 so1 q9 x1 y1 => hN v9 ad1 ce1 so1 q9 (gExt.tr gExt.rf x1) (gad_call y1 gExt.rf (fun _ _ => rfl))))
    · replace h := gif_f c168_1 h
      by_cases c168_2 : x167.1 = (2 : Int32)
      · replace h := gif_t c168_2 h
        refine g_tabIn (tgt := 555) (off := 195) hF dL_law_360 (by rw [c168_2]; decide) (by rw [c168_2]; decide) (by rw [c168_2]; decide +kernel) (by decide) ?_
        refine g_aload hF 4 rfl dL_law_555 ?_
        refine g_aload hF 4 rfl dL_law_557 ?_
        refine g_bipush (v := (9 : Int32)) hF rfl dL_law_559 ?_
        obtain ⟨x173, h173, h⟩ := gbnd h
        refine g_callV hF my_X12_below kw_636 kw_637 kw_638 gC_18.1 (by decide) q5 (c_X12_below (d := d - 1) (by omega) q5 h173) (by omega) (by omega) (by omega) rfl rfl (Nat.le_of_ble_eq_true rfl) dL_law_561 (g_sameS ?_)
        refine g_if_ne (tgt := 573) hF dL_law_564 (by decide) (fun c174 => ?_) (fun c174 => ?_)
        · replace h := gif_t c174 h
          refine g_bipush (v := (12 : Int32)) hF rfl dL_law_573 ?_
          exact gG_sub [1, 2, 3, 4, 5, 6, 7, 8, 9, 11, 12, 14, 0] rfl (t_L_law_575 hFL hn hd (by omega) (by omega) q3 q5 q6 q7 q10 p0 q5 h (fun v9 ad1 ce1 so1 q9 x1 y1 => hE v9 ad1 ce1 so1 q9 (gExt.tr gExt.rf x1) (gad_call y1 gExt.rf (fun _ _ => rfl))) (fun v9 ad1 ce1 so1 q9 x1 y1 => hN v9 ad1 ce1 so1 q9 (gExt.tr gExt.rf x1) (gad_call y1 gExt.rf (fun _ _ => rfl))))
        · replace h := gif_n c174 h
          refine g_sipush (v := (1003 : Int32)) hF rfl dL_law_567 ?_
          refine g_goto (tgt := 575) hF dL_law_570 (by decide) ?_
          exact gG_sub [1, 2, 3, 4, 5, 6, 7, 8, 9, 11, 12, 14, 0] rfl (t_L_law_575 hFL hn hd (by omega) (by omega) q3 q5 q6 q7 q10 p0 q5 h (fun v9 ad1 ce1 so1 q9 x1 y1 => hE v9 ad1 ce1 so1 q9 (gExt.tr gExt.rf x1) (gad_call y1 gExt.rf (fun _ _ => rfl))) (fun v9 ad1 ce1 so1 q9 x1 y1 => hN v9 ad1 ce1 so1 q9 (gExt.tr gExt.rf x1) (gad_call y1 gExt.rf (fun _ _ => rfl))))
      · replace h := gif_f c168_2 h
        by_cases c168_3 : x167.1 = (3 : Int32)
        · replace h := gif_t c168_3 h
          refine g_tabIn (tgt := 656) (off := 296) hF dL_law_360 (by rw [c168_3]; decide) (by rw [c168_3]; decide) (by rw [c168_3]; decide +kernel) (by decide) ?_
          refine g_iload hF 15 rfl dL_law_656 ?_
          refine g_if_eq (tgt := 677) hF dL_law_658 (by decide) (fun c175 => ?_) (fun c175 => ?_)
          · replace h := gif_t c175 h
            exact gG_sub [1, 2, 3, 4, 5, 6, 7, 8, 9, 11, 12, 13, 15, 0] rfl (t_L_law_677 hFL hn hd (by omega) (by omega) q3 q5 q6 q7 q10 p0 h (fun v9 ad1 ce1 so1 q9 x1 y1 => hE v9 ad1 ce1 so1 q9 (gExt.tr gExt.rf x1) (gad_call y1 gExt.rf (fun _ _ => rfl))) (fun v9 ad1 ce1 so1 q9 x1 y1 => hN v9 ad1 ce1 so1 q9 (gExt.tr gExt.rf x1) (gad_call y1 gExt.rf (fun _ _ => rfl))))
          · replace h := gif_f c175 h
            refine g_oload hF 0 rfl dL_law_661 ?_
            obtain ⟨b176, h176, h⟩ := gbnd h
            obtain ⟨g176, l176, q_b176⟩ := gsm_sp h176
            refine gG_st (st' := [.ref b176]) (by first | (rw [g176]; rfl) | rw [g176]) ?_
            obtain ⟨b177, h177, h⟩ := gbnd h
            obtain ⟨g177, l177, q_b177⟩ := ldr_sp h177
            refine g_get_r hF g177 fl_RL_172 q_b176 dL_law_663 ?_
            refine g_iload hF 13 rfl dL_law_666 ?_
            obtain ⟨v178, h178, h⟩ := gbnd h
            obtain ⟨i178h, e178v⟩ := ald_sp q_b177 h178
            refine g_iald hF q_b177 i178h dL_law_668 ?_
            rw [← e178v]
            refine g_iconst (v := (-1 : Int32)) hF rfl dL_law_669 ?_
            refine g_icmp_eq (tgt := 677) hF dL_law_670 (by decide) (fun c179 => ?_) (fun c179 => ?_)
            · replace h := gif_t c179 h
              exact gG_sub [1, 2, 3, 4, 5, 6, 7, 8, 9, 11, 12, 13, 15, 0] rfl (t_L_law_677 hFL hn hd (by omega) (by omega) q3 q5 q6 q7 q10 p0 h (fun v9 ad1 ce1 so1 q9 x1 y1 => hE v9 ad1 ce1 so1 q9 (gExt.tr gExt.rf x1) (gad_call y1 gExt.rf (fun _ _ => rfl))) (fun v9 ad1 ce1 so1 q9 x1 y1 => hN v9 ad1 ce1 so1 q9 (gExt.tr gExt.rf x1) (gad_call y1 gExt.rf (fun _ _ => rfl))))
            · replace h := gif_f c179 h
              refine g_iconst (v := (1 : Int32)) hF rfl dL_law_673 ?_
              refine g_goto (tgt := 678) hF dL_law_674 (by decide) ?_
              exact gG_sub [1, 2, 3, 4, 5, 6, 7, 8, 9, 11, 12, 13, 15, 0] rfl (t_L_law_678 hFL hn hd (by omega) (by omega) q3 q5 q6 q7 q10 p0 h (fun v9 ad1 ce1 so1 q9 x1 y1 => hE v9 ad1 ce1 so1 q9 (gExt.tr gExt.rf x1) (gad_call y1 gExt.rf (fun _ _ => rfl))) (fun v9 ad1 ce1 so1 q9 x1 y1 => hN v9 ad1 ce1 so1 q9 (gExt.tr gExt.rf x1) (gad_call y1 gExt.rf (fun _ _ => rfl))))
        · replace h := gif_f c168_3 h
          by_cases c168_4 : x167.1 = (4 : Int32)
          · replace h := gif_t c168_4 h
            refine g_tabIn (tgt := 734) (off := 374) hF dL_law_360 (by rw [c168_4]; decide) (by rw [c168_4]; decide) (by rw [c168_4]; decide +kernel) (by decide) ?_
            refine g_aload hF 4 rfl dL_law_734 ?_
            refine g_aload hF 5 rfl dL_law_736 ?_
            refine g_get_i hF fl_RL_141 q6 dL_law_738 ?_
            refine g_iconst (v := (1 : Int32)) hF rfl dL_law_741 ?_
            refine g_iadd hF dL_law_742 ?_
            obtain ⟨x180, h180, h⟩ := gbnd h
            refine g_callV hF my_X12_below kw_636 kw_637 kw_638 gC_18.1 (by decide) q5 (c_X12_below (d := d - 1) (by omega) q5 h180) (by omega) (by omega) (by omega) rfl rfl (Nat.le_of_ble_eq_true rfl) dL_law_743 (g_sameS ?_)
            refine g_istore (ls' := [(23, .int x180.1), (19, gvo u0), (0, .ref (gSB + 3000)), (2, .int i2), (3, .ref a3), (5, .ref a5), (6, .ref a6), (7, .ref a7), (8, .int i8), (9, .int i9), (10, .ref a10), (11, .ref a11), (13, .int i13), (15, .int i15), (16, .int i16), (17, .int i17), (18, .int i18)]) hF (by rw [hn]; decide) rfl dL_law_746 ?_
            refine g_aload hF 5 rfl dL_law_748 ?_
            refine g_iconst (v := (2 : Int32)) hF rfl dL_law_750 ?_
            obtain ⟨x181, h181, h⟩ := gbnd h
            refine g_callV hF my_X12_below kw_636 kw_637 kw_638 gC_18.1 (by decide) q5 (c_X12_below (d := d - 1) (by omega) q5 h181) (by omega) (by omega) (by omega) rfl rfl (Nat.le_of_ble_eq_true rfl) dL_law_751 (g_sameS ?_)
            refine g_if_ne (tgt := 761) hF dL_law_754 (by decide) (fun c182 => ?_) (fun c182 => ?_)
            · replace h := gif_t c182 h
              refine g_iconst (v := (0 : Int32)) hF rfl dL_law_761 ?_
              exact gG_sub [2, 3, 4, 5, 6, 7, 8, 9, 10, 12, 13, 14, 16, 1, 0] rfl (t_L_law_762 hFL hn hd (by omega) (by omega) q3 q5 q6 q7 q10 p0 h (fun v9 ad1 ce1 so1 q9 x1 y1 => hE v9 ad1 ce1 so1 q9 (gExt.tr gExt.rf x1) (gad_call y1 gExt.rf (fun _ _ => rfl))) (fun v9 ad1 ce1 so1 q9 x1 y1 => hN v9 ad1 ce1 so1 q9 (gExt.tr gExt.rf x1) (gad_call y1 gExt.rf (fun _ _ => rfl))))
            · replace h := gif_n c182 h
              refine g_iconst (v := (1 : Int32)) hF rfl dL_law_757 ?_
              refine g_goto (tgt := 762) hF dL_law_758 (by decide) ?_
              exact gG_sub [2, 3, 4, 5, 6, 7, 8, 9, 10, 12, 13, 14, 16, 1, 0] rfl (t_L_law_762 hFL hn hd (by omega) (by omega) q3 q5 q6 q7 q10 p0 h (fun v9 ad1 ce1 so1 q9 x1 y1 => hE v9 ad1 ce1 so1 q9 (gExt.tr gExt.rf x1) (gad_call y1 gExt.rf (fun _ _ => rfl))) (fun v9 ad1 ce1 so1 q9 x1 y1 => hN v9 ad1 ce1 so1 q9 (gExt.tr gExt.rf x1) (gad_call y1 gExt.rf (fun _ _ => rfl))))
          · replace h := gif_f c168_4 h
            by_cases c168_5 : x167.1 = (5 : Int32)
            · replace h := gif_t c168_5 h
              refine g_tabIn (tgt := 734) (off := 374) hF dL_law_360 (by rw [c168_5]; decide) (by rw [c168_5]; decide) (by rw [c168_5]; decide +kernel) (by decide) ?_
              refine g_aload hF 4 rfl dL_law_734 ?_
              refine g_aload hF 5 rfl dL_law_736 ?_
              refine g_get_i hF fl_RL_141 q6 dL_law_738 ?_
              refine g_iconst (v := (1 : Int32)) hF rfl dL_law_741 ?_
              refine g_iadd hF dL_law_742 ?_
              obtain ⟨x183, h183, h⟩ := gbnd h
              refine g_callV hF my_X12_below kw_636 kw_637 kw_638 gC_18.1 (by decide) q5 (c_X12_below (d := d - 1) (by omega) q5 h183) (by omega) (by omega) (by omega) rfl rfl (Nat.le_of_ble_eq_true rfl) dL_law_743 (g_sameS ?_)
              refine g_istore (ls' := [(23, .int x183.1), (19, gvo u0), (0, .ref (gSB + 3000)), (2, .int i2), (3, .ref a3), (5, .ref a5), (6, .ref a6), (7, .ref a7), (8, .int i8), (9, .int i9), (10, .ref a10), (11, .ref a11), (13, .int i13), (15, .int i15), (16, .int i16), (17, .int i17), (18, .int i18)]) hF (by rw [hn]; decide) rfl dL_law_746 ?_
              refine g_aload hF 5 rfl dL_law_748 ?_
              refine g_iconst (v := (2 : Int32)) hF rfl dL_law_750 ?_
              obtain ⟨x184, h184, h⟩ := gbnd h
              refine g_callV hF my_X12_below kw_636 kw_637 kw_638 gC_18.1 (by decide) q5 (c_X12_below (d := d - 1) (by omega) q5 h184) (by omega) (by omega) (by omega) rfl rfl (Nat.le_of_ble_eq_true rfl) dL_law_751 (g_sameS ?_)
              refine g_if_ne (tgt := 761) hF dL_law_754 (by decide) (fun c185 => ?_) (fun c185 => ?_)
              · replace h := gif_t c185 h
                refine g_iconst (v := (0 : Int32)) hF rfl dL_law_761 ?_
                exact gG_sub [2, 3, 4, 5, 6, 7, 8, 9, 10, 12, 13, 14, 16, 1, 0] rfl (t_L_law_762 hFL hn hd (by omega) (by omega) q3 q5 q6 q7 q10 p0 h (fun v9 ad1 ce1 so1 q9 x1 y1 => hE v9 ad1 ce1 so1 q9 (gExt.tr gExt.rf x1) (gad_call y1 gExt.rf (fun _ _ => rfl))) (fun v9 ad1 ce1 so1 q9 x1 y1 => hN v9 ad1 ce1 so1 q9 (gExt.tr gExt.rf x1) (gad_call y1 gExt.rf (fun _ _ => rfl))))
              · replace h := gif_n c185 h
                refine g_iconst (v := (1 : Int32)) hF rfl dL_law_757 ?_
                refine g_goto (tgt := 762) hF dL_law_758 (by decide) ?_
                exact gG_sub [2, 3, 4, 5, 6, 7, 8, 9, 10, 12, 13, 14, 16, 1, 0] rfl (t_L_law_762 hFL hn hd (by omega) (by omega) q3 q5 q6 q7 q10 p0 h (fun v9 ad1 ce1 so1 q9 x1 y1 => hE v9 ad1 ce1 so1 q9 (gExt.tr gExt.rf x1) (gad_call y1 gExt.rf (fun _ _ => rfl))) (fun v9 ad1 ce1 so1 q9 x1 y1 => hN v9 ad1 ce1 so1 q9 (gExt.tr gExt.rf x1) (gad_call y1 gExt.rf (fun _ _ => rfl))))
            · replace h := gif_f c168_5 h
              by_cases c168_6 : x167.1 = (6 : Int32)
              · replace h := gif_t c168_6 h
                refine g_tabIn (tgt := 921) (off := 561) hF dL_law_360 (by rw [c168_6]; decide) (by rw [c168_6]; decide) (by rw [c168_6]; decide +kernel) (by decide) ?_
                refine g_iload hF 14 rfl dL_law_921 ?_
                refine g_if_eq (tgt := 940) hF dL_law_923 (by decide) (fun c186 => ?_) (fun c186 => ?_)
                · replace h := gif_t c186 h
                  exact gG_sub [1, 2, 3, 4, 5, 6, 7, 8, 9, 10, 11, 12, 14] rfl (t_L_law_940 hFL hn hd (by omega) (by omega) q3 q5 q6 q7 q10 q11 h (fun v9 ad1 ce1 so1 q9 x1 y1 => hE v9 ad1 ce1 so1 q9 (gExt.tr gExt.rf x1) (gad_call y1 gExt.rf (fun _ _ => rfl))) (fun v9 ad1 ce1 so1 q9 x1 y1 => hN v9 ad1 ce1 so1 q9 (gExt.tr gExt.rf x1) (gad_call y1 gExt.rf (fun _ _ => rfl))))
                · replace h := gif_f c186 h
                  refine g_aload hF 5 rfl dL_law_926 ?_
                  refine g_iload hF 12 rfl dL_law_928 ?_
                  obtain ⟨x187, h187, h⟩ := gbnd h
                  refine g_callV hF my_X10_rank kw_567 kw_568 kw_569 gC_16.1 (by decide) q6 (c_X10_rank (d := d - 1) (by omega) q6 h187) (by omega) (by omega) (by omega) rfl rfl (Nat.le_of_ble_eq_true rfl) dL_law_930 (g_sameS ?_)
                  refine g_if_lt (tgt := 940) hF dL_law_933 (by decide) (fun c188 => ?_) (fun c188 => ?_)
                  · replace h := gif_t c188 h
                    exact gG_sub [1, 2, 3, 4, 5, 6, 7, 8, 9, 10, 11, 12, 14] rfl (t_L_law_940 hFL hn hd (by omega) (by omega) q3 q5 q6 q7 q10 q11 h (fun v9 ad1 ce1 so1 q9 x1 y1 => hE v9 ad1 ce1 so1 q9 (gExt.tr gExt.rf x1) (gad_call y1 gExt.rf (fun _ _ => rfl))) (fun v9 ad1 ce1 so1 q9 x1 y1 => hN v9 ad1 ce1 so1 q9 (gExt.tr gExt.rf x1) (gad_call y1 gExt.rf (fun _ _ => rfl))))
                  · replace h := gif_f c188 h
                    refine g_iconst (v := (1 : Int32)) hF rfl dL_law_936 ?_
                    refine g_goto (tgt := 941) hF dL_law_937 (by decide) ?_
                    exact gG_sub [1, 2, 3, 4, 5, 6, 7, 8, 9, 10, 11, 12, 14] rfl (t_L_law_941 hFL hn hd (by omega) (by omega) q3 q5 q6 q7 q10 q11 h (fun v9 ad1 ce1 so1 q9 x1 y1 => hE v9 ad1 ce1 so1 q9 (gExt.tr gExt.rf x1) (gad_call y1 gExt.rf (fun _ _ => rfl))) (fun v9 ad1 ce1 so1 q9 x1 y1 => hN v9 ad1 ce1 so1 q9 (gExt.tr gExt.rf x1) (gad_call y1 gExt.rf (fun _ _ => rfl))))
              · replace h := gif_f c168_6 h
                have w168_0 := gsw_ne c168_0 (z := 0) (by decide)
                have w168_1 := gsw_ne c168_1 (z := 1) (by decide)
                have w168_2 := gsw_ne c168_2 (z := 2) (by decide)
                have w168_3 := gsw_ne c168_3 (z := 3) (by decide)
                have w168_4 := gsw_ne c168_4 (z := 4) (by decide)
                have w168_5 := gsw_ne c168_5 (z := 5) (by decide)
                have w168_6 := gsw_ne c168_6 (z := 6) (by decide)
                refine g_tabOut (tgt := 1050) hF dL_law_360 (by omega) (by decide) ?_
                refine g_iload hF 14 rfl dL_law_1050 ?_
                refine g_if_eq (tgt := 1069) hF dL_law_1052 (by decide) (fun c189 => ?_) (fun c189 => ?_)
                · replace h := gif_t c189 h
                  exact gG_sub [1, 2, 3, 4, 5, 6, 7, 8, 9, 10, 11, 12, 14] rfl (t_L_law_1069 hFL hn hd (by omega) (by omega) q3 q5 q6 q7 q10 q11 h (fun v9 ad1 ce1 so1 q9 x1 y1 => hE v9 ad1 ce1 so1 q9 (gExt.tr gExt.rf x1) (gad_call y1 gExt.rf (fun _ _ => rfl))) (fun v9 ad1 ce1 so1 q9 x1 y1 => hN v9 ad1 ce1 so1 q9 (gExt.tr gExt.rf x1) (gad_call y1 gExt.rf (fun _ _ => rfl))))
                · replace h := gif_f c189 h
                  refine g_aload hF 5 rfl dL_law_1055 ?_
                  refine g_iload hF 12 rfl dL_law_1057 ?_
                  obtain ⟨x190, h190, h⟩ := gbnd h
                  refine g_callV hF my_X10_rank kw_567 kw_568 kw_569 gC_16.1 (by decide) q6 (c_X10_rank (d := d - 1) (by omega) q6 h190) (by omega) (by omega) (by omega) rfl rfl (Nat.le_of_ble_eq_true rfl) dL_law_1059 (g_sameS ?_)
                  refine g_if_ge (tgt := 1069) hF dL_law_1062 (by decide) (fun c191 => ?_) (fun c191 => ?_)
                  · replace h := gif_t c191 h
                    exact gG_sub [1, 2, 3, 4, 5, 6, 7, 8, 9, 10, 11, 12, 14] rfl (t_L_law_1069 hFL hn hd (by omega) (by omega) q3 q5 q6 q7 q10 q11 h (fun v9 ad1 ce1 so1 q9 x1 y1 => hE v9 ad1 ce1 so1 q9 (gExt.tr gExt.rf x1) (gad_call y1 gExt.rf (fun _ _ => rfl))) (fun v9 ad1 ce1 so1 q9 x1 y1 => hN v9 ad1 ce1 so1 q9 (gExt.tr gExt.rf x1) (gad_call y1 gExt.rf (fun _ _ => rfl))))
                  · replace h := gif_f c191 h
                    refine g_iconst (v := (1 : Int32)) hF rfl dL_law_1065 ?_
                    refine g_goto (tgt := 1070) hF dL_law_1066 (by decide) ?_
                    exact gG_sub [1, 2, 3, 4, 5, 6, 7, 8, 9, 10, 11, 12, 14] rfl (t_L_law_1070 hFL hn hd (by omega) (by omega) q3 q5 q6 q7 q10 q11 h (fun v9 ad1 ce1 so1 q9 x1 y1 => hE v9 ad1 ce1 so1 q9 (gExt.tr gExt.rf x1) (gad_call y1 gExt.rf (fun _ _ => rfl))) (fun v9 ad1 ce1 so1 q9 x1 y1 => hN v9 ad1 ce1 so1 q9 (gExt.tr gExt.rf x1) (gad_call y1 gExt.rf (fun _ _ => rfl))))
