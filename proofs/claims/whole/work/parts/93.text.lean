/-! THE TEXT from its first word on, on both sides -/
section PJY
variable {T U : gT} {M R M' R' : gM} {B : Nat → Nat} {n s e p : Nat}
/-- the reference's reading from the first word on; K is what it does then -/
def rText (U : gT) (R : gM) (K : gM → Option (Int32 × gM)) : Option (Int32 × gM) := (f_X9_takeWord U R 311 0).bind fun x24 => if ¬ x24.1 = 0 then (f_X9_expect U x24.2 311 (59 : Int32)).bind fun x9 => (gloop (fun x => f_X9_load_B122 U x 311) gFU x9).bind K else (f_X9_report U x24.2 311 (-2 : Int32) (gi x24.2 311 4)).bind fun x26 => (f_X9_expect U x26 311 (59 : Int32)).bind fun x9 => (gloop (fun x => f_X9_load_B122 U x 311) gFU x9).bind K
/-- the class's reading from the first word on; K is what it does then -/
def cText (T : gT) (M : gM) (K : gM → Option (Int32 × gT × gM)) : Option (Int32 × gT × gM) := (f_X5_readKeyword T M 2 0).bind fun x13 => if x13.1 = 0 then some ((0 : Int32), T, x13.2) else (f_X5_readSign T x13.2 2 (59 : Int32)).bind fun x15 => if ¬ x15.1 = 0 then (gloop (fun x => f_X5_readText_B58 T x.2 2 x.1) gFU ((0 : Int32), x15.2)).bind fun x17 => gcase x17 (fun r17 => some r17) fun e17 => K e17 else some ((0 : Int32), T, x15.2)
theorem j_text (h : pT T U M R B n s e p) : ∃ M' R', (∀ K, rText U R K = K R') ∧ cF M M' ∧ rF R R' ∧ (((∀ K, cText T M K = K M') ∧ ∃ s' e' p', pT T U M' R' B n s' e' p') ∨ ((∀ K, cText T M K = some ((0 : Int32), T, M')) ∧ bad M' R' ∧ kP M')) := by
  have one : ¬ ((1 : Int32) = 0) := by decide
  have lb : ∀ R : gM, gi R 311 5 ≠ 0 → gloop (fun x => f_X9_load_B122 U x 311) gFU R = some R := fun R hg => gloop_one (k := 2999) (A := fun x => f_X9_load_B122 U x 311) (m_loop_bad hg)
  obtain ⟨hS, ⟨nl, nn, hD⟩, hC⟩ := h
  rcases j_key (i := 0) (by decide) hS with ⟨kw, t1, M1, s1, e1, t2, t3, t4⟩ | ⟨kw, t1, t2⟩
  · obtain ⟨M2, R2, u1, u2, u3, u4⟩ := j_sign sgn_59 t3
    have hcM : cP M M2 := fz_trans (cP_t t4) u2
    have hrR : rE R R2 := fz_trans (rP_E rP_pos) u3
    rcases u4 with ⟨v1, s2, e2, v2, v3, v4⟩ | ⟨v1, v2⟩
    · have hP2 : pT T U M2 R2 B n s2 e2 (s1 + 1) := pT_PE v2 hD hC hcM hrR
      obtain ⟨M3, R3, w1, w2, w3, w4⟩ := j_stloop 801 gFU 0 (s1 + 1) M2 R2 s2 e2 (by decide) (by omega) (by omega) hP2
      refine ⟨M3, R3, fun K => ?_, fz_trans (cP_F hcM) w2, fz_trans (rE_F hrR) w3, ?_⟩
      · unfold rText
        rw [t1, Option.bind_some]
        dsimp only
        rw [if_pos one, show f_X9_expect U (rpos R (s + gSl 0)) 311 (59 : Int32) = some R2 from u1, Option.bind_some, w1, Option.bind_some]
      · rcases w4 with ⟨w5, w6⟩ | ⟨w5, w6⟩
        · refine Or.inl ⟨fun K => ?_, w6⟩
          unfold cText
          rw [t2, Option.bind_some]
          dsimp only
          rw [if_neg one, show f_X5_readSign T M1 2 (59 : Int32) = some (1, M2) from v1, Option.bind_some]
          dsimp only
          rw [if_pos one, show gloop (fun x => f_X5_readText_B58 T x.2 2 x.1) gFU ((0 : Int32), M2) = some (.inr M3) from w5, Option.bind_some]
          rfl
        · refine Or.inr ⟨fun K => ?_, w6⟩
          unfold cText
          rw [t2, Option.bind_some]
          dsimp only
          rw [if_neg one, show f_X5_readSign T M1 2 (59 : Int32) = some (1, M2) from v1, Option.bind_some]
          dsimp only
          rw [if_pos one, show gloop (fun x => f_X5_readText_B58 T x.2 2 x.1) gFU ((0 : Int32), M2) = some (.inl ((0 : Int32), T, M3)) from w5, Option.bind_some]
          rfl
    · have hge : gi R2 311 5 ≠ 0 := bad_R (R' := R2) v2
      refine ⟨M2, R2, fun K => ?_, cP_F hcM, rE_F hrR, Or.inr ⟨fun K => ?_, v2, kP_P hD.2.2.2.2.2.2.2 hcM⟩⟩
      · unfold rText
        rw [t1, Option.bind_some]
        dsimp only
        rw [if_pos one, show f_X9_expect U (rpos R (s + gSl 0)) 311 (59 : Int32) = some R2 from u1, Option.bind_some, lb R2 hge, Option.bind_some]
      · unfold cText
        rw [t2, Option.bind_some]
        dsimp only
        rw [if_neg one, show f_X5_readSign T M1 2 (59 : Int32) = some (0, M2) from v1, Option.bind_some]
        dsimp only
        rw [if_neg (fun q => q rfl)]
  · have hg : gi (rpos R s) 311 5 = 0 := by rw [gi_si, if_neg (by omega)]; exact hS.2.2.2.2.2.2.1
    have hge : gi (rerr (rpos R s) (-2) s) 311 5 ≠ 0 := by
      rw [gi_si, if_neg (by omega), gi_si, if_pos ⟨rfl, rfl⟩]
      decide
    refine ⟨_, rerr (rpos R s) (-2) s, fun K => ?_, cP_F cP_err, rE_F (rE_err rP_pos), Or.inr ⟨fun K => ?_, bad_mk (by decide), kP_P hD.2.2.2.2.2.2.2 cP_err⟩⟩
    · unfold rText
      rw [t1, Option.bind_some]
      dsimp only
      rw [if_neg (fun q => q rfl), show gi (rpos R s) 311 4 = nI s by rw [gi_si, if_pos ⟨rfl, rfl⟩], m_report hg, Option.bind_some, m_expect_bad hge, Option.bind_some, lb _ hge, Option.bind_some]
    · unfold cText
      rw [t2, Option.bind_some]
      dsimp only
      rw [if_pos rfl]
end PJY
