/-! THE FUNCTIONS read off the bytecode -/
def f_X7_init (T : gT) (M : gM) (a0 : Nat) (a1 : Nat) : Option (gT × gM) :=
  (gnew T M (11, 11)).bind fun x2 =>
  some (x2.2.1, (sr (sr x2.2.2 a0 1 (some x2.1)) a0 0 (some a1)))
def f_X3_init (T : gT) (M : gM) (a0 : Nat) : Option (gT × gM) :=
  (gnew T (si (si (si M a0 0 (0 : Int32)) a0 1 (0 : Int32)) a0 2 (-1 : Int32)) (11, 12)).bind fun x2 =>
  (gnew x2.2.1 (sr x2.2.2 a0 3 (some x2.1)) (11, 8)).bind fun x4 =>
  some (x4.2.1, (si (sr x4.2.2 a0 4 (some x4.1)) a0 5 (0 : Int32)))
def f_X0_init (T : gT) (M : gM) (a0 : Nat) : Option (gT × gM) :=
  (gnew T M (14, 8)).bind fun x2 =>
  (gnew x2.2.1 (si (si (si (sr x2.2.2 a0 0 (some x2.1)) a0 1 (0 : Int32)) a0 2 (0 : Int32)) a0 3 (50 : Int32)) (7, 0)).bind fun x4 =>
  (gnew x4.2.1 x4.2.2 (11, 1)).bind fun x6 =>
  (ast x6.2.1 x6.2.2 x6.1 (0 : Int32) (-1 : Int32)).bind fun M9 =>
  (f_X7_init x6.2.1 M9 x4.1 x6.1).bind fun x10 =>
  (ldr x10.1 (sr x10.2 a0 4 (some x4.1)) a0 0 14).bind fun b13 =>
  (gnew x10.1 (sr x10.2 a0 4 (some x4.1)) (3, 0)).bind fun x14 =>
  (f_X3_init x14.2.1 x14.2.2 x14.1).bind fun x17 =>
  (astr x17.1 x17.2 b13 (0 : Int32) x14.1).bind fun M21 =>
  (ldr x17.1 M21 a0 0 14).bind fun b22 =>
  (gnew x17.1 M21 (3, 0)).bind fun x23 =>
  (f_X3_init x23.2.1 x23.2.2 x23.1).bind fun x26 =>
  (astr x26.1 x26.2 b22 (1 : Int32) x23.1).bind fun M30 =>
  (ldr x26.1 M30 a0 0 14).bind fun b31 =>
  (gnew x26.1 M30 (3, 0)).bind fun x32 =>
  (f_X3_init x32.2.1 x32.2.2 x32.1).bind fun x35 =>
  (astr x35.1 x35.2 b31 (2 : Int32) x32.1).bind fun M39 =>
  (ldr x35.1 M39 a0 0 14).bind fun b40 =>
  (gnew x35.1 M39 (3, 0)).bind fun x41 =>
  (f_X3_init x41.2.1 x41.2.2 x41.1).bind fun x44 =>
  (astr x44.1 x44.2 b40 (3 : Int32) x41.1).bind fun M48 =>
  (ldr x44.1 M48 a0 0 14).bind fun b49 =>
  (gnew x44.1 M48 (3, 0)).bind fun x50 =>
  (f_X3_init x50.2.1 x50.2.2 x50.1).bind fun x53 =>
  (astr x53.1 x53.2 b49 (4 : Int32) x50.1).bind fun M57 =>
  (ldr x53.1 M57 a0 0 14).bind fun b58 =>
  (gnew x53.1 M57 (3, 0)).bind fun x59 =>
  (f_X3_init x59.2.1 x59.2.2 x59.1).bind fun x62 =>
  (astr x62.1 x62.2 b58 (5 : Int32) x59.1).bind fun M66 =>
  (ldr x62.1 M66 a0 0 14).bind fun b67 =>
  (gnew x62.1 M66 (3, 0)).bind fun x68 =>
  (f_X3_init x68.2.1 x68.2.2 x68.1).bind fun x71 =>
  (astr x71.1 x71.2 b67 (6 : Int32) x68.1).bind fun M75 =>
  (ldr x71.1 M75 a0 0 14).bind fun b76 =>
  (gnew x71.1 M75 (3, 0)).bind fun x77 =>
  (f_X3_init x77.2.1 x77.2.2 x77.1).bind fun x80 =>
  (astr x80.1 x80.2 b76 (7 : Int32) x77.1).bind fun M84 =>
  some (x80.1, M84)
def f_X0_clear (T : gT) (M : gM) (a0 : Nat) : Option (gM) :=
  some (si (si (si M a0 1 (0 : Int32)) a0 2 (0 : Int32)) a0 3 (50 : Int32))
def f_X3_copyFrom (T : gT) (M : gM) (a0 : Nat) (a1 : Nat) : Option (gM) :=
  (chk ((gi (si M a0 0 (gi M a1 0)) a1 1) = 0 ∨ (gi (si M a0 0 (gi M a1 0)) a1 1) = 1)).bind fun _ =>
  (ldr T (si (si (si M a0 0 (gi M a1 0)) a0 1 (gi (si M a0 0 (gi M a1 0)) a1 1)) a0 2 (gi (si (si M a0 0 (gi M a1 0)) a0 1 (gi (si M a0 0 (gi M a1 0)) a1 1)) a1 2)) a1 3 11).bind fun b2 =>
  (ldr T (si (si (si M a0 0 (gi M a1 0)) a0 1 (gi (si M a0 0 (gi M a1 0)) a1 1)) a0 2 (gi (si (si M a0 0 (gi M a1 0)) a0 1 (gi (si M a0 0 (gi M a1 0)) a1 1)) a1 2)) a0 3 11).bind fun b3 =>
  (acp T (si (si (si M a0 0 (gi M a1 0)) a0 1 (gi (si M a0 0 (gi M a1 0)) a1 1)) a0 2 (gi (si (si M a0 0 (gi M a1 0)) a0 1 (gi (si M a0 0 (gi M a1 0)) a1 1)) a1 2)) b2 (0 : Int32) b3 (0 : Int32) (12 : Int32)).bind fun M4 =>
  (ldr T M4 a1 4 11).bind fun b5 =>
  (ldr T M4 a0 4 11).bind fun b6 =>
  (acp T M4 b5 (0 : Int32) b6 (0 : Int32) (8 : Int32)).bind fun M7 =>
  some (si M7 a0 5 (gi M7 a1 5))
def f_X0_copyFrom_B34 (T : gT) (M : gM) (a0 : Nat) (a1 : Nat) (i2 : Int32) : Option ((gM) ⊕ (Int32 × gM)) :=
  if (8 : Int32) ≤ i2 then
  (
    some (.inl M)
  )
  else
  (
    (ldr T M a0 0 14).bind fun b2 =>
    (aldr T M b2 i2 3).bind fun b3 =>
    (ldr T M a1 0 14).bind fun b4 =>
    (aldr T M b4 i2 3).bind fun b5 =>
    (f_X3_copyFrom T M b3 b5).bind fun x6 =>
    some (.inr ((i2 + (1 : Int32)), x6))
  )
def f_X0_copyFrom (T : gT) (M : gM) (a0 : Nat) (a1 : Nat) : Option (gM) :=
  (ldr T (si (si (si M a0 1 (gi M a1 1)) a0 2 (gi (si M a0 1 (gi M a1 1)) a1 2)) a0 3 (gi (si (si M a0 1 (gi M a1 1)) a0 2 (gi (si M a0 1 (gi M a1 1)) a1 2)) a1 3)) a1 4 7).bind fun b7 =>
  (gloop (fun x => f_X0_copyFrom_B34 T x.2 a0 a1 x.1) gFU ((0 : Int32), (sr (si (si (si M a0 1 (gi M a1 1)) a0 2 (gi (si M a0 1 (gi M a1 1)) a1 2)) a0 3 (gi (si (si M a0 1 (gi M a1 1)) a0 2 (gi (si M a0 1 (gi M a1 1)) a1 2)) a1 3)) a0 4 (some b7)))).bind fun x8 =>
  some x8
def f_X3_isLoaded (T : gT) (M : gM) (a0 : Nat) : Option (Int32) :=
  if (gi M a0 2) = (-1 : Int32) then
  (
    some (0 : Int32)
  )
  else
  (
    some (1 : Int32)
  )
def f_X3_hasOffer (T : gT) (M : gM) (a0 : Nat) (i1 : Int32) : Option (Int32) :=
  (ldr T M a0 3 11).bind fun b1 =>
  (ald T M b1 i1).bind fun v2 =>
  if v2 = (-1 : Int32) then
  (
    some (0 : Int32)
  )
  else
  (
    some (1 : Int32)
  )
def f_X0_isCandidate_29 (T : gT) (M : gM)  : Option (Int32) :=
  some (0 : Int32)
def f_X0_isCandidate (T : gT) (M : gM) (a0 : Nat) (i1 : Int32) (i2 : Int32) : Option (Int32) :=
  (ldr T M a0 0 14).bind fun b1 =>
  (aldr T M b1 i1 3).bind fun b2 =>
  (f_X3_isLoaded T M b2).bind fun x3 =>
  if x3 = 0 then
  (
    f_X0_isCandidate_29 T M 
  )
  else
  (
    (ldr T M a0 0 14).bind fun b5 =>
    (aldr T M b5 i1 3).bind fun b6 =>
    (f_X3_hasOffer T M b6 i2).bind fun x7 =>
    if x7 = 0 then
    (
      f_X0_isCandidate_29 T M 
    )
    else
    (
      some (1 : Int32)
    )
  )
def f_X0_takeOut_58 (T : gT) (M : gM) (a0 : Nat) (i2 : Int32) (i3 : Int32) : Option ((gM) ⊕ (Int32 × gM)) :=
  some (.inr ((i3 + (1 : Int32)), M))
def f_X0_takeOut_B22 (T : gT) (M : gM) (a0 : Nat) (i2 : Int32) (i3 : Int32) : Option ((gM) ⊕ (Int32 × gM)) :=
  if (gi M a0 1) ≤ i3 then
  (
    some (.inl M)
  )
  else
  (
    (ldr T M a0 0 14).bind fun b2 =>
    (aldr T M b2 i3 3).bind fun b3 =>
    if (gi M b3 2) ≤ i2 then
    (
      f_X0_takeOut_58 T M a0 i2 i3
    )
    else
    (
      (ldr T M a0 0 14).bind fun b5 =>
      (aldr T M b5 i3 3).bind fun b6 =>
      f_X0_takeOut_58 T (si M b6 2 ((gi M b6 2) - (1 : Int32))) a0 i2 i3
    )
  )
def f_X0_takeOut (T : gT) (M : gM) (a0 : Nat) (i1 : Int32) : Option (gM) :=
  (ldr T M a0 0 14).bind fun b7 =>
  (aldr T M b7 i1 3).bind fun b8 =>
  (ldr T M a0 0 14).bind fun b9 =>
  (aldr T M b9 i1 3).bind fun b10 =>
  (gloop (fun x => f_X0_takeOut_B22 T x.2 a0 (gi M b8 2) x.1) gFU ((0 : Int32), (si M b10 2 (-1 : Int32)))).bind fun x11 =>
  some x11
def f_X0_takeIn_27 (T : gT) (M : gM) (a0 : Nat) (i1 : Int32) (i2 : Int32) (i3 : Int32) : Option ((Int32) ⊕ (Int32 × Int32)) :=
  some (.inr (i2, (i3 + (1 : Int32))))
def f_X0_takeIn_B4 (T : gT) (M : gM) (a0 : Nat) (i1 : Int32) (i2 : Int32) (i3 : Int32) : Option ((Int32) ⊕ (Int32 × Int32)) :=
  if (gi M a0 1) ≤ i3 then
  (
    some (.inl i2)
  )
  else
  (
    (ldr T M a0 0 14).bind fun b2 =>
    (aldr T M b2 i3 3).bind fun b3 =>
    (f_X3_isLoaded T M b3).bind fun x4 =>
    if x4 = 0 then
    (
      f_X0_takeIn_27 T M a0 i1 i2 i3
    )
    else
    (
      f_X0_takeIn_27 T M a0 i1 (i2 + (1 : Int32)) i3
    )
  )
def f_X0_takeIn (T : gT) (M : gM) (a0 : Nat) (i1 : Int32) : Option (gM) :=
  (gloop (fun x => f_X0_takeIn_B4 T M a0 i1 x.1 x.2) gFU ((0 : Int32), (0 : Int32))).bind fun x6 =>
  (ldr T M a0 0 14).bind fun b7 =>
  (aldr T M b7 i1 3).bind fun b8 =>
  some (si M b8 2 x6)
def f_X3_prefers_B2 (T : gT) (M : gM) (a0 : Nat) (i1 : Int32) (i2 : Int32) : Option ((Int32) ⊕ (Int32)) :=
  if (gi M a0 5) ≤ i2 then
  (
    some (.inl (0 : Int32))
  )
  else
  (
    (ldr T M a0 4 11).bind fun b2 =>
    (ald T M b2 i2).bind fun v3 =>
    if ¬ v3 = i1 then
    (
      some (.inr (i2 + (1 : Int32)))
    )
    else
    (
      some (.inl (1 : Int32))
    )
  )
def f_X3_prefers (T : gT) (M : gM) (a0 : Nat) (i1 : Int32) : Option (Int32) :=
  (gloop (fun x => f_X3_prefers_B2 T M a0 i1 x) gFU (0 : Int32)).bind fun x5 =>
  some x5
def f_X0_friendsOf_40 (T : gT) (M : gM) (a0 : Nat) (i1 : Int32) (i2 : Int32) (i3 : Int32) : Option ((Int32) ⊕ (Int32 × Int32)) :=
  some (.inr (i2, (i3 + (1 : Int32))))
def f_X0_friendsOf_B4 (T : gT) (M : gM) (a0 : Nat) (i1 : Int32) (i2 : Int32) (i3 : Int32) : Option ((Int32) ⊕ (Int32 × Int32)) :=
  if (gi M a0 1) ≤ i3 then
  (
    some (.inl i2)
  )
  else
  (
    (ldr T M a0 0 14).bind fun b2 =>
    (aldr T M b2 i3 3).bind fun b3 =>
    (f_X3_isLoaded T M b3).bind fun x4 =>
    if x4 = 0 then
    (
      f_X0_friendsOf_40 T M a0 i1 i2 i3
    )
    else
    (
      (ldr T M a0 0 14).bind fun b6 =>
      (aldr T M b6 i3 3).bind fun b7 =>
      (f_X3_prefers T M b7 i1).bind fun x8 =>
      if x8 = 0 then
      (
        f_X0_friendsOf_40 T M a0 i1 i2 i3
      )
      else
      (
        f_X0_friendsOf_40 T M a0 i1 (i2 + (1 : Int32)) i3
      )
    )
  )
def f_X0_friendsOf (T : gT) (M : gM) (a0 : Nat) (i1 : Int32) : Option (Int32) :=
  (gloop (fun x => f_X0_friendsOf_B4 T M a0 i1 x.1 x.2) gFU ((0 : Int32), (0 : Int32))).bind fun x10 =>
  some x10
def f_X3_countOffers_21 (T : gT) (M : gM) (a0 : Nat) (i1 : Int32) (i2 : Int32) : Option ((Int32) ⊕ (Int32 × Int32)) :=
  some (.inr (i1, (i2 + (1 : Int32))))
def f_X3_countOffers_B4 (T : gT) (M : gM) (a0 : Nat) (i1 : Int32) (i2 : Int32) : Option ((Int32) ⊕ (Int32 × Int32)) :=
  if (12 : Int32) ≤ i2 then
  (
    some (.inl i1)
  )
  else
  (
    (f_X3_hasOffer T M a0 i2).bind fun x2 =>
    if x2 = 0 then
    (
      f_X3_countOffers_21 T M a0 i1 i2
    )
    else
    (
      f_X3_countOffers_21 T M a0 (i1 + (1 : Int32)) i2
    )
  )
def f_X3_countOffers (T : gT) (M : gM) (a0 : Nat) : Option (Int32) :=
  (gloop (fun x => f_X3_countOffers_B4 T M a0 x.1 x.2) gFU ((0 : Int32), (0 : Int32))).bind fun x4 =>
  some x4
def f_X7_limited (T : gT) (M : gM) (j0 : Int64) (i2 : Int32) (i3 : Int32) : Option (Int32) :=
  some (((lmax i2.toInt64 (lmin i3.toInt64 j0))).toInt32)
def f_X7_operate_67 (T : gT) (M : gM) (j5 : Int64) : Option (Int32) :=
  (f_X7_limited T M j5 (-1000000 : Int32) (1000000 : Int32)).bind fun x1 =>
  some x1
def f_X7_operate_65 (T : gT) (M : gM) (w0 : Int64) : Option (Int32) :=
  f_X7_operate_67 T M w0
def f_X7_operate (T : gT) (M : gM) (i0 : Int32) (j1 : Int64) (j3 : Int64) : Option (Int32) :=
  if i0 = (-7 : Int32) then
  (
    f_X7_operate_67 T M (j1 * j3)
  )
  else (
  if i0 = (-6 : Int32) then
  (
    f_X7_operate_67 T M (j1 - j3)
  )
  else (
  if i0 = (-5 : Int32) then
  (
    f_X7_operate_67 T M (j1 + j3)
  )
  else (
    if ¬ (lg_cmp j3 (0 : Int64)) = 0 then
    (
      (chk (¬ j3 = 0)).bind fun _ =>
      f_X7_operate_65 T M (j1 / j3)
    )
    else
    (
      f_X7_operate_65 T M (0 : Int64)
    )
  )))
def f_X7_factorValue (T : gT) (M : gM) (i0 : Int32) (i1 : Int32) (i2 : Int32) (i3 : Int32) (i4 : Int32) : Option (Int32) :=
  if i0 = (-4 : Int32) then
  (
    some i4
  )
  else (
  if i0 = (-3 : Int32) then
  (
    some i3
  )
  else (
  if i0 = (-2 : Int32) then
  (
    some i2
  )
  else (
  if i0 = (-1 : Int32) then
  (
    some i1
  )
  else (
    some i0
  ))))
def f_X7_valueOf_103 (T : gT) (M : gM) (a0 : Nat) (i1 : Int32) (i2 : Int32) (i3 : Int32) (i4 : Int32) (i5 : Int32) (i6 : Int32) : Option ((gM) ⊕ (Int32 × Int32 × gM)) :=
  some (.inr (i5, (i6 + (1 : Int32)), M))
def f_X7_valueOf_B6 (T : gT) (M : gM) (a0 : Nat) (i1 : Int32) (i2 : Int32) (i3 : Int32) (i4 : Int32) (i5 : Int32) (i6 : Int32) : Option ((gM) ⊕ (Int32 × Int32 × gM)) :=
  (ldr T M a0 0 11).bind fun b1 =>
  if (Int32.ofNat (alen T b1)) ≤ i6 then
  (
    some (.inl M)
  )
  else
  (
    (ldr T M a0 0 11).bind fun b3 =>
    (ald T M b3 i6).bind fun v4 =>
    if (-5 : Int32) < v4 then
    (
      if (11 : Int32) ≤ i5 then
      (
        f_X7_valueOf_103 T M a0 i1 i2 i3 i4 i5 i6
      )
      else
      (
        (ldr T M a0 1 11).bind fun b7 =>
        (f_X7_factorValue T M v4 i1 i2 i3 i4).bind fun x8 =>
        (ast T M b7 i5 x8).bind fun M9 =>
        f_X7_valueOf_103 T M9 a0 i1 i2 i3 i4 (i5 + (1 : Int32)) i6
      )
    )
    else
    (
      if i5 < (2 : Int32) then
      (
        f_X7_valueOf_103 T M a0 i1 i2 i3 i4 i5 i6
      )
      else
      (
        (ldr T M a0 1 11).bind fun b11 =>
        (ldr T M a0 1 11).bind fun b12 =>
        (ald T M b12 ((i5 + (-1 : Int32)) - (1 : Int32))).bind fun v13 =>
        (ldr T M a0 1 11).bind fun b14 =>
        (ald T M b14 (i5 + (-1 : Int32))).bind fun v15 =>
        (f_X7_operate T M v4 v13.toInt64 v15.toInt64).bind fun x16 =>
        (ast T M b11 ((i5 + (-1 : Int32)) - (1 : Int32)) x16).bind fun M17 =>
        f_X7_valueOf_103 T M17 a0 i1 i2 i3 i4 (i5 + (-1 : Int32)) i6
      )
    )
  )
def f_X7_valueOf (T : gT) (M : gM) (a0 : Nat) (i1 : Int32) (i2 : Int32) (i3 : Int32) (i4 : Int32) : Option (Int32 × gM) :=
  (gloop (fun x => f_X7_valueOf_B6 T x.2.2 a0 i1 i2 i3 i4 x.1 x.2.1) gFU ((0 : Int32), (0 : Int32), M)).bind fun x18 =>
  (ldr T x18 a0 1 11).bind fun b19 =>
  (ald T x18 b19 (0 : Int32)).bind fun v20 =>
  (f_X7_limited T x18 v20.toInt64 (0 : Int32) (9999 : Int32)).bind fun x21 =>
  some (x21, x18)
def f_X0_weightOf (T : gT) (M : gM) (a0 : Nat) (i1 : Int32) : Option (Int32 × gM) :=
  (ldr T M a0 0 14).bind fun b1 =>
  (aldr T M b1 i1 3).bind fun b2 =>
  (ldr T M a0 4 7).bind fun b3 =>
  (f_X3_countOffers T M b2).bind fun x4 =>
  (f_X0_friendsOf T M a0 i1).bind fun x5 =>
  (f_X7_valueOf T M b3 (gi M b2 0) (gi M b2 2) x4 x5).bind fun x6 =>
  some (x6.1, x6.2)
def f_X1_init (T : gT) (M : gM) (a0 : Nat) : Option (gT × gM) :=
  (gnew T M (11, 8)).bind fun x2 =>
  (gnew x2.2.1 (sr x2.2.2 a0 0 (some x2.1)) (11, 12)).bind fun x4 =>
  (gnew x4.2.1 (sr x4.2.2 a0 1 (some x4.1)) (11, 12)).bind fun x6 =>
  (gnew x6.2.1 (sr x6.2.2 a0 2 (some x6.1)) (11, 12)).bind fun x8 =>
  (gnew x8.2.1 (sr x8.2.2 a0 3 (some x8.1)) (11, 96)).bind fun x10 =>
  (gnew x10.2.1 (sr x10.2.2 a0 4 (some x10.1)) (11, 96)).bind fun x12 =>
  (gnew x12.2.1 (sr x12.2.2 a0 5 (some x12.1)) (11, 96)).bind fun x14 =>
  some (x14.2.1, (sr x14.2.2 a0 6 (some x14.1)))
def f_X8_cellOf (T : gT) (M : gM) (i0 : Int32) (i1 : Int32) : Option (Int32) :=
  some ((i0 * (12 : Int32)) + i1)
def f_X1_countCandidates_60 (T : gT) (M : gM) (a0 : Nat) (a1 : Nat) (i2 : Int32) (i3 : Int32) : Option ((gM) ⊕ (Int32 × gM)) :=
  some (.inr ((i3 + (1 : Int32)), M))
def f_X1_countCandidates_44 (T : gT) (M : gM) (a0 : Nat) (a1 : Nat) (i2 : Int32) (i3 : Int32) (i4 : Int32) (b0 : Nat) (k1 : Int32) (k2 : Int32) : Option ((gM) ⊕ (Int32 × gM)) :=
  (ast T M b0 k1 k2).bind fun M1 =>
  if i4 = 0 then
  (
    f_X1_countCandidates_60 T M1 a0 a1 i2 i3
  )
  else
  (
    (ldr T M1 a0 1 11).bind fun b3 =>
    (ald T M1 b3 i2).bind fun v4 =>
    (ast T M1 b3 i2 (v4 + (1 : Int32))).bind fun M5 =>
    f_X1_countCandidates_60 T M5 a0 a1 i2 i3
  )
def f_X1_countCandidates_B9 (T : gT) (M : gM) (a0 : Nat) (a1 : Nat) (i2 : Int32) (i3 : Int32) : Option ((gM) ⊕ (Int32 × gM)) :=
  if (gi M a1 1) ≤ i3 then
  (
    some (.inl M)
  )
  else
  (
    (f_X0_isCandidate T M a1 i3 i2).bind fun x7 =>
    (ldr T M a0 5 11).bind fun b8 =>
    (f_X8_cellOf T M i3 i2).bind fun x9 =>
    if x7 = 0 then
    (
      f_X1_countCandidates_44 T M a0 a1 i2 i3 x7 b8 x9 (-1 : Int32)
    )
    else
    (
      f_X1_countCandidates_44 T M a0 a1 i2 i3 x7 b8 x9 (0 : Int32)
    )
  )
def f_X1_countCandidates (T : gT) (M : gM) (a0 : Nat) (a1 : Nat) (i2 : Int32) : Option (gM) :=
  (ldr T M a0 1 11).bind fun b11 =>
  (ast T M b11 i2 (0 : Int32)).bind fun M12 =>
  (gloop (fun x => f_X1_countCandidates_B9 T x.2 a0 a1 i2 x.1) gFU ((0 : Int32), M12)).bind fun x13 =>
  some x13
def f_X1_choiceOf_B29 (T : gT) (M : gM) (a0 : Nat) (i2 : Int32) (a3 : Nat) (i4 : Int32) : Option (((Int32) ⊕ (Int32)) ⊕ (Int32)) :=
  if (gi M a3 5) ≤ i4 then
  (
    some (.inl (.inl (-1 : Int32)))
  )
  else
  (
    (ldr T M a3 4 11).bind fun b2 =>
    (ald T M b2 i4).bind fun v3 =>
    (f_X0_isCandidate T M a0 v3 i2).bind fun x4 =>
    if x4 = 0 then
    (
      some (.inr (i4 + (1 : Int32)))
    )
    else
    (
      some (.inl (.inr i4))
    )
  )
def f_X1_choiceOf (T : gT) (M : gM) (a0 : Nat) (i1 : Int32) (i2 : Int32) : Option (Int32) :=
  (ldr T M a0 0 14).bind fun b6 =>
  (aldr T M b6 i1 3).bind fun b7 =>
  (f_X3_isLoaded T M b7).bind fun x8 =>
  if ¬ x8 = 0 then
  (
    (f_X3_hasOffer T M b7 i2).bind fun x10 =>
    if x10 = 0 then
    (
      (gloop (fun x => f_X1_choiceOf_B29 T M a0 i2 b7 x) gFU (0 : Int32)).bind fun x12 => gcase x12 (fun r12 => some r12) fun e12 =>
      (ldr T M b7 4 11).bind fun b13 =>
      (ald T M b13 e12).bind fun v14 =>
      some v14
    )
    else
    (
      some i1
    )
  )
  else
  (
    some (-1 : Int32)
  )
def f_X1_countVotes_56 (T : gT) (M : gM) (a0 : Nat) (a1 : Nat) (i2 : Int32) (i3 : Int32) : Option ((gM) ⊕ (Int32 × gM)) :=
  some (.inr ((i3 + (1 : Int32)), M))
def f_X1_countVotes_B2 (T : gT) (M : gM) (a0 : Nat) (a1 : Nat) (i2 : Int32) (i3 : Int32) : Option ((gM) ⊕ (Int32 × gM)) :=
  if (gi M a1 1) ≤ i3 then
  (
    some (.inl M)
  )
  else
  (
    (f_X1_choiceOf T M a1 i3 i2).bind fun x2 =>
    (ldr T M a0 4 11).bind fun b3 =>
    (f_X8_cellOf T M i3 i2).bind fun x4 =>
    (ast T M b3 x4 x2).bind fun M5 =>
    if x2 = (-1 : Int32) then
    (
      f_X1_countVotes_56 T M5 a0 a1 i2 i3
    )
    else
    (
      (ldr T M5 a0 5 11).bind fun b7 =>
      (f_X8_cellOf T M5 x2 i2).bind fun x8 =>
      (ald T M5 b7 x8).bind fun v9 =>
      (ldr T M5 a0 0 11).bind fun b10 =>
      (ald T M5 b10 i3).bind fun v11 =>
      (ast T M5 b7 x8 (v9 + v11)).bind fun M12 =>
      f_X1_countVotes_56 T M12 a0 a1 i2 i3
    )
  )
def f_X1_countVotes (T : gT) (M : gM) (a0 : Nat) (a1 : Nat) (i2 : Int32) : Option (gM) :=
  (gloop (fun x => f_X1_countVotes_B2 T x.2 a0 a1 i2 x.1) gFU ((0 : Int32), M)).bind fun x13 =>
  some x13
def f_X1_isAhead (T : gT) (M : gM) (a0 : Nat) (a1 : Nat) (i2 : Int32) (i3 : Int32) (i4 : Int32) : Option (Int32) :=
  (ldr T M a0 5 11).bind fun b1 =>
  (f_X8_cellOf T M i2 i4).bind fun x2 =>
  (ald T M b1 x2).bind fun v3 =>
  (ldr T M a0 5 11).bind fun b4 =>
  (f_X8_cellOf T M i3 i4).bind fun x5 =>
  (ald T M b4 x5).bind fun v6 =>
  if v3 = v6 then
  (
    (ldr T M a1 0 14).bind fun b8 =>
    (aldr T M b8 i2 3).bind fun b9 =>
    (ldr T M a1 0 14).bind fun b10 =>
    (aldr T M b10 i3 3).bind fun b11 =>
    if (gi M b11 2) ≤ (gi M b9 2) then
    (
      some (0 : Int32)
    )
    else
    (
      some (1 : Int32)
    )
  )
  else
  (
    if v3 ≤ v6 then
    (
      some (0 : Int32)
    )
    else
    (
      some (1 : Int32)
    )
  )
def f_X1_countWinner_44 (T : gT) (M : gM) (a0 : Nat) (a1 : Nat) (i2 : Int32) (i3 : Int32) (i4 : Int32) : Option ((Int32) ⊕ (Int32 × Int32)) :=
  some (.inr (i3, (i4 + (1 : Int32))))
def f_X1_countWinner_41 (T : gT) (M : gM) (a0 : Nat) (a1 : Nat) (i2 : Int32) (i4 : Int32) : Option ((Int32) ⊕ (Int32 × Int32)) :=
  f_X1_countWinner_44 T M a0 a1 i2 i4 i4
def f_X1_countWinner_B5 (T : gT) (M : gM) (a0 : Nat) (a1 : Nat) (i2 : Int32) (i3 : Int32) (i4 : Int32) : Option ((Int32) ⊕ (Int32 × Int32)) :=
  if (gi M a1 1) ≤ i4 then
  (
    some (.inl i3)
  )
  else
  (
    (f_X0_isCandidate T M a1 i4 i2).bind fun x2 =>
    if x2 = 0 then
    (
      f_X1_countWinner_44 T M a0 a1 i2 i3 i4
    )
    else
    (
      if i3 = (-1 : Int32) then
      (
        f_X1_countWinner_41 T M a0 a1 i2 i4
      )
      else
      (
        (f_X1_isAhead T M a0 a1 i4 i3 i2).bind fun x5 =>
        if x5 = 0 then
        (
          f_X1_countWinner_44 T M a0 a1 i2 i3 i4
        )
        else
        (
          f_X1_countWinner_41 T M a0 a1 i2 i4
        )
      )
    )
  )
def f_X1_countWinner (T : gT) (M : gM) (a0 : Nat) (a1 : Nat) (i2 : Int32) : Option (gM) :=
  (gloop (fun x => f_X1_countWinner_B5 T M a0 a1 i2 x.1 x.2) gFU ((-1 : Int32), (0 : Int32))).bind fun x7 =>
  (ldr T M a0 2 11).bind fun b8 =>
  (ast T M b8 i2 x7).bind fun M9 =>
  some M9
def f_X1_countMargin_59 (T : gT) (M : gM) (a0 : Nat) (a1 : Nat) (i2 : Int32) (i3 : Int32) (i4 : Int32) (i5 : Int32) : Option ((Int32) ⊕ (Int32 × Int32)) :=
  some (.inr (i4, (i5 + (1 : Int32))))
def f_X1_countMargin_B26 (T : gT) (M : gM) (a0 : Nat) (a1 : Nat) (i2 : Int32) (i3 : Int32) (i4 : Int32) (i5 : Int32) : Option ((Int32) ⊕ (Int32 × Int32)) :=
  if (gi M a1 1) ≤ i5 then
  (
    some (.inl i4)
  )
  else
  (
    if i5 = i3 then
    (
      f_X1_countMargin_59 T M a0 a1 i2 i3 i4 i5
    )
    else
    (
      (ldr T M a0 5 11).bind fun b3 =>
      (f_X8_cellOf T M i5 i2).bind fun x4 =>
      (ald T M b3 x4).bind fun v5 =>
      f_X1_countMargin_59 T M a0 a1 i2 i3 (imax i4 v5) i5
    )
  )
def f_X1_countMargin (T : gT) (M : gM) (a0 : Nat) (a1 : Nat) (i2 : Int32) : Option (gM) :=
  (ldr T M a0 2 11).bind fun b7 =>
  (ald T M b7 i2).bind fun v8 =>
  if ¬ v8 = (-1 : Int32) then
  (
    (gloop (fun x => f_X1_countMargin_B26 T M a0 a1 i2 v8 x.1 x.2) gFU ((0 : Int32), (0 : Int32))).bind fun x10 =>
    (ldr T M a0 3 11).bind fun b11 =>
    (ldr T M a0 5 11).bind fun b12 =>
    (f_X8_cellOf T M v8 i2).bind fun x13 =>
    (ald T M b12 x13).bind fun v14 =>
    (ast T M b11 i2 (v14 - x10)).bind fun M15 =>
    some M15
  )
  else
  (
    (ldr T M a0 3 11).bind fun b16 =>
    (ast T M b16 i2 (-1 : Int32)).bind fun M17 =>
    some M17
  )
def f_X1_isLargeEnough_29 (T : gT) (M : gM)  : Option (Int32) :=
  some (0 : Int32)
def f_X1_isLargeEnough (T : gT) (M : gM) (a0 : Nat) (i1 : Int32) (i2 : Int32) (i3 : Int32) (i4 : Int32) : Option (Int32) :=
  if i1 = (-1 : Int32) then
  (
    f_X1_isLargeEnough_29 T M 
  )
  else
  (
    (ldr T M a0 5 11).bind fun b2 =>
    (f_X8_cellOf T M i1 i2).bind fun x3 =>
    (ald T M b2 x3).bind fun v4 =>
    if ((100 : Int32) * v4) < (i3 * i4) then
    (
      f_X1_isLargeEnough_29 T M 
    )
    else
    (
      some (1 : Int32)
    )
  )
def f_X1_countBindings_145 (T : gT) (M : gM) (a0 : Nat) (a1 : Nat) (i2 : Int32) (i3 : Int32) (i4 : Int32) : Option ((gM) ⊕ (Int32 × gM)) :=
  some (.inr ((i4 + (1 : Int32)), M))
def f_X1_countBindings_132 (T : gT) (M : gM) (a0 : Nat) (a1 : Nat) (i2 : Int32) (i3 : Int32) (i4 : Int32) (i5 : Int32) : Option ((gM) ⊕ (Int32 × gM)) :=
  (ldr T M a0 6 11).bind fun b1 =>
  (ldr T M a0 2 11).bind fun b2 =>
  (ald T M b2 i2).bind fun v3 =>
  (ast T M b1 i5 v3).bind fun M4 =>
  f_X1_countBindings_145 T M4 a0 a1 i2 i3 i4
def f_X1_countBindings_B41 (T : gT) (M : gM) (a0 : Nat) (a1 : Nat) (i2 : Int32) (i3 : Int32) (i4 : Int32) : Option ((gM) ⊕ (Int32 × gM)) :=
  if (gi M a1 1) ≤ i4 then
  (
    some (.inl M)
  )
  else
  (
    (f_X8_cellOf T M i4 i2).bind fun x6 =>
    (ldr T M a1 0 14).bind fun b7 =>
    (aldr T M b7 i4 3).bind fun b8 =>
    (f_X3_isLoaded T M b8).bind fun x9 =>
    if ¬ x9 = 0 then
    (
      (ldr T M a1 0 14).bind fun b11 =>
      (aldr T M b11 i4 3).bind fun b12 =>
      if (gi M b12 1) = 0 then
      (
        f_X1_countBindings_132 T M a0 a1 i2 i3 i4 x6
      )
      else
      (
        (ldr T M a0 4 11).bind fun b14 =>
        (ald T M b14 x6).bind fun v15 =>
        (f_X1_isLargeEnough T M a0 v15 i2 (gi M a1 3) i3).bind fun x16 =>
        if x16 = 0 then
        (
          f_X1_countBindings_132 T M a0 a1 i2 i3 i4 x6
        )
        else
        (
          (ldr T M a0 6 11).bind fun b18 =>
          (ldr T M a0 4 11).bind fun b19 =>
          (ald T M b19 x6).bind fun v20 =>
          (ast T M b18 x6 v20).bind fun M21 =>
          f_X1_countBindings_145 T M21 a0 a1 i2 i3 i4
        )
      )
    )
    else
    (
      (ldr T M a0 6 11).bind fun b22 =>
      (ast T M b22 x6 (-1 : Int32)).bind fun M23 =>
      f_X1_countBindings_145 T M23 a0 a1 i2 i3 i4
    )
  )
def f_X1_countBindings_B5 (T : gT) (M : gM) (a0 : Nat) (a1 : Nat) (i2 : Int32) (i3 : Int32) (i4 : Int32) : Option ((Int32) ⊕ (Int32 × Int32)) :=
  if (gi M a1 1) ≤ i4 then
  (
    some (.inl i3)
  )
  else
  (
    (ldr T M a0 5 11).bind fun b25 =>
    (f_X8_cellOf T M i4 i2).bind fun x26 =>
    (ald T M b25 x26).bind fun v27 =>
    some (.inr ((i3 + (imax (0 : Int32) v27)), (i4 + (1 : Int32))))
  )
def f_X1_countBindings (T : gT) (M : gM) (a0 : Nat) (a1 : Nat) (i2 : Int32) : Option (gM) :=
  (gloop (fun x => f_X1_countBindings_B5 T M a0 a1 i2 x.1 x.2) gFU ((0 : Int32), (0 : Int32))).bind fun x29 =>
  (gloop (fun x => f_X1_countBindings_B41 T x.2 a0 a1 i2 x29 x.1) gFU ((0 : Int32), M)).bind fun x30 =>
  some x30
def f_X1_count_36 (T : gT) (M : gM) (a0 : Nat) (a1 : Nat) (i2 : Int32) (b0 : Nat) (k1 : Int32) (k2 : Int32) : Option ((gM) ⊕ (Int32 × gM)) :=
  (ast T M b0 k1 k2).bind fun M1 =>
  some (.inr ((i2 + (1 : Int32)), M1))
def f_X1_count_B45 (T : gT) (M : gM) (a0 : Nat) (a1 : Nat) (i2 : Int32) : Option ((gM) ⊕ (Int32 × gM)) :=
  if (gi M a1 2) ≤ i2 then
  (
    some (.inl M)
  )
  else
  (
    (f_X1_countCandidates T M a0 a1 i2).bind fun x3 =>
    (f_X1_countVotes T x3 a0 a1 i2).bind fun x4 =>
    (f_X1_countWinner T x4 a0 a1 i2).bind fun x5 =>
    (f_X1_countMargin T x5 a0 a1 i2).bind fun x6 =>
    (f_X1_countBindings T x6 a0 a1 i2).bind fun x7 =>
    some (.inr ((i2 + (1 : Int32)), x7))
  )
def f_X1_count_B2 (T : gT) (M : gM) (a0 : Nat) (a1 : Nat) (i2 : Int32) : Option ((gM) ⊕ (Int32 × gM)) :=
  if (gi M a1 1) ≤ i2 then
  (
    some (.inl M)
  )
  else
  (
    (ldr T M a0 0 11).bind fun b9 =>
    (ldr T M a1 0 14).bind fun b10 =>
    (aldr T M b10 i2 3).bind fun b11 =>
    (f_X3_isLoaded T M b11).bind fun x12 =>
    if x12 = 0 then
    (
      f_X1_count_36 T M a0 a1 i2 b9 i2 (-1 : Int32)
    )
    else
    (
      (f_X0_weightOf T M a1 i2).bind fun x14 =>
      f_X1_count_36 T x14.2 a0 a1 i2 b9 i2 x14.1
    )
  )
def f_X1_count (T : gT) (M : gM) (a0 : Nat) (a1 : Nat) : Option (gM) :=
  (gloop (fun x => f_X1_count_B2 T x.2 a0 a1 x.1) gFU ((0 : Int32), M)).bind fun x15 =>
  (gloop (fun x => f_X1_count_B45 T x.2 a0 a1 x.1) gFU ((0 : Int32), x15)).bind fun x16 =>
  some x16
def f_X2_init (T : gT) (M : gM) (a0 : Nat) : Option (gT × gM) :=
  (gnew T M (13, 8)).bind fun x2 =>
  (ldr x2.2.1 (si (si (sr x2.2.2 a0 0 (some x2.1)) a0 1 (0 : Int32)) a0 2 (0 : Int32)) a0 0 13).bind fun b4 =>
  (gnew x2.2.1 (si (si (sr x2.2.2 a0 0 (some x2.1)) a0 1 (0 : Int32)) a0 2 (0 : Int32)) (0, 0)).bind fun x5 =>
  (f_X0_init x5.2.1 x5.2.2 x5.1).bind fun x8 =>
  (astr x8.1 x8.2 b4 (0 : Int32) x5.1).bind fun M12 =>
  (ldr x8.1 M12 a0 0 13).bind fun b13 =>
  (gnew x8.1 M12 (0, 0)).bind fun x14 =>
  (f_X0_init x14.2.1 x14.2.2 x14.1).bind fun x17 =>
  (astr x17.1 x17.2 b13 (1 : Int32) x14.1).bind fun M21 =>
  (ldr x17.1 M21 a0 0 13).bind fun b22 =>
  (gnew x17.1 M21 (0, 0)).bind fun x23 =>
  (f_X0_init x23.2.1 x23.2.2 x23.1).bind fun x26 =>
  (astr x26.1 x26.2 b22 (2 : Int32) x23.1).bind fun M30 =>
  (ldr x26.1 M30 a0 0 13).bind fun b31 =>
  (gnew x26.1 M30 (0, 0)).bind fun x32 =>
  (f_X0_init x32.2.1 x32.2.2 x32.1).bind fun x35 =>
  (astr x35.1 x35.2 b31 (3 : Int32) x32.1).bind fun M39 =>
  (ldr x35.1 M39 a0 0 13).bind fun b40 =>
  (gnew x35.1 M39 (0, 0)).bind fun x41 =>
  (f_X0_init x41.2.1 x41.2.2 x41.1).bind fun x44 =>
  (astr x44.1 x44.2 b40 (4 : Int32) x41.1).bind fun M48 =>
  (ldr x44.1 M48 a0 0 13).bind fun b49 =>
  (gnew x44.1 M48 (0, 0)).bind fun x50 =>
  (f_X0_init x50.2.1 x50.2.2 x50.1).bind fun x53 =>
  (astr x53.1 x53.2 b49 (5 : Int32) x50.1).bind fun M57 =>
  (ldr x53.1 M57 a0 0 13).bind fun b58 =>
  (gnew x53.1 M57 (0, 0)).bind fun x59 =>
  (f_X0_init x59.2.1 x59.2.2 x59.1).bind fun x62 =>
  (astr x62.1 x62.2 b58 (6 : Int32) x59.1).bind fun M66 =>
  (ldr x62.1 M66 a0 0 13).bind fun b67 =>
  (gnew x62.1 M66 (0, 0)).bind fun x68 =>
  (f_X0_init x68.2.1 x68.2.2 x68.1).bind fun x71 =>
  (astr x71.1 x71.2 b67 (7 : Int32) x68.1).bind fun M75 =>
  some (x71.1, M75)
def f_X2_keep (T : gT) (M : gM) (a0 : Nat) (a1 : Nat) : Option (gM) :=
  (ldr T M a0 0 13).bind fun b1 =>
  (aldr T M b1 (gi M a0 1) 0).bind fun b2 =>
  (f_X0_copyFrom T M b2 a1).bind fun x3 =>
  if (8 : Int32) ≤ (gi (si x3 a0 1 (irem ((gi x3 a0 1) + (1 : Int32)) (8 : Int32))) a0 2) then
  (
    some (si x3 a0 1 (irem ((gi x3 a0 1) + (1 : Int32)) (8 : Int32)))
  )
  else
  (
    some (si (si x3 a0 1 (irem ((gi x3 a0 1) + (1 : Int32)) (8 : Int32))) a0 2 ((gi (si x3 a0 1 (irem ((gi x3 a0 1) + (1 : Int32)) (8 : Int32))) a0 2) + (1 : Int32)))
  )
def f_X2_bringBack (T : gT) (M : gM) (a0 : Nat) (a1 : Nat) : Option (Int32 × gM) :=
  if ¬ (gi M a0 2) = 0 then
  (
    (ldr T (si (si M a0 2 ((gi M a0 2) - (1 : Int32))) a0 1 (irem (((gi (si M a0 2 ((gi M a0 2) - (1 : Int32))) a0 1) + (8 : Int32)) - (1 : Int32)) (8 : Int32))) a0 0 13).bind fun b2 =>
    (aldr T (si (si M a0 2 ((gi M a0 2) - (1 : Int32))) a0 1 (irem (((gi (si M a0 2 ((gi M a0 2) - (1 : Int32))) a0 1) + (8 : Int32)) - (1 : Int32)) (8 : Int32))) b2 (gi (si (si M a0 2 ((gi M a0 2) - (1 : Int32))) a0 1 (irem (((gi (si M a0 2 ((gi M a0 2) - (1 : Int32))) a0 1) + (8 : Int32)) - (1 : Int32)) (8 : Int32))) a0 1) 0).bind fun b3 =>
    (f_X0_copyFrom T (si (si M a0 2 ((gi M a0 2) - (1 : Int32))) a0 1 (irem (((gi (si M a0 2 ((gi M a0 2) - (1 : Int32))) a0 1) + (8 : Int32)) - (1 : Int32)) (8 : Int32))) a1 b3).bind fun x4 =>
    some ((1 : Int32), x4)
  )
  else
  (
    some ((0 : Int32), M)
  )
def f_J7_fill_53178_B5 (T : gT) (M : gM) (a0 : Nat) (i1 : Int32) (i2 : Int32) (i3 : Int32) : Option ((gM) ⊕ (Int32 × gM)) :=
  if i3 ≤ i2 then
  (
    some (.inl M)
  )
  else
  (
    (ast T M a0 i2 i1).bind fun M2 =>
    some (.inr ((i2 + (1 : Int32)), M2))
  )
def f_J7_fill_53178 (T : gT) (M : gM) (a0 : Nat) (i1 : Int32) : Option (gM) :=
  (gloop (fun x => f_J7_fill_53178_B5 T x.2 a0 i1 x.1 (Int32.ofNat (alen T a0))) gFU ((0 : Int32), M)).bind fun x3 =>
  some x3
def f_X3_startAs (T : gT) (M : gM) (a0 : Nat) (i1 : Int32) (i2 : Int32) : Option (gM) :=
  (ldr T (si (si (si M a0 0 i1) a0 1 (0 : Int32)) a0 2 i2) a0 3 11).bind fun b1 =>
  (f_J7_fill_53178 T (si (si (si M a0 0 i1) a0 1 (0 : Int32)) a0 2 i2) b1 (-1 : Int32)).bind fun x2 =>
  some (si x2 a0 5 (0 : Int32))
def f_X3_addPreference (T : gT) (M : gM) (a0 : Nat) (i1 : Int32) : Option (gM) :=
  if (8 : Int32) ≤ (gi M a0 5) then
  (
    some M
  )
  else
  (
    (ldr T M a0 4 11).bind fun b2 =>
    (ast T M b2 (gi M a0 5) i1).bind fun M3 =>
    some (si M3 a0 5 ((gi M3 a0 5) + (1 : Int32)))
  )
def f_X4_init (T : gT) (M : gM) (a0 : Nat) : Option (gT × gM) :=
  (gnew T M (11, 96)).bind fun x2 =>
  some (x2.2.1, (si (si (sr x2.2.2 a0 0 (some x2.1)) a0 1 (-1 : Int32)) a0 2 (0 : Int32)))
def f_X4_follow_B29 (T : gT) (M : gM) (a0 : Nat) (a1 : Nat) (a2 : Nat) (i5 : Int32) (i6 : Int32) (i7 : Int32) : Option ((gM) ⊕ (Int32 × Int32 × Int32 × gM)) :=
  if (96 : Int32) ≤ i7 then
  (
    some (.inl M)
  )
  else
  (
    (f_X8_cellOf T M i5 i6).bind fun x2 =>
    (ldr T M a0 0 11).bind fun b3 =>
    (ald T M b3 x2).bind fun v4 =>
    if v4 = 0 then
    (
      (ldr T M a0 0 11).bind fun b6 =>
      (ast T M b6 x2 (1 : Int32)).bind fun M7 =>
      (ldr T M7 a2 6 11).bind fun b8 =>
      (ald T M7 b8 x2).bind fun v9 =>
      if ¬ v9 = (-1 : Int32) then
      (
        (ldr T (si M7 a0 2 ((gi M7 a0 2) + (1 : Int32))) a1 0 14).bind fun b11 =>
        (aldr T (si M7 a0 2 ((gi M7 a0 2) + (1 : Int32))) b11 v9 3).bind fun b12 =>
        (ldr T (si M7 a0 2 ((gi M7 a0 2) + (1 : Int32))) b12 3 11).bind fun b13 =>
        (ald T (si M7 a0 2 ((gi M7 a0 2) + (1 : Int32))) b13 i6).bind fun v14 =>
        if v14 ≤ (-2 : Int32) then
        (
          some (.inr (v9, ((-2 : Int32) - v14), (i7 + (1 : Int32)), (si M7 a0 2 ((gi M7 a0 2) + (1 : Int32)))))
        )
        else
        (
          some (.inl (si (si M7 a0 2 ((gi M7 a0 2) + (1 : Int32))) a0 1 v14))
        )
      )
      else
      (
        some (.inl (si M7 a0 1 (-1 : Int32)))
      )
    )
    else
    (
      some (.inl M)
    )
  )
def f_X4_follow (T : gT) (M : gM) (a0 : Nat) (a1 : Nat) (a2 : Nat) (i3 : Int32) (i4 : Int32) : Option (gM) :=
  (ldr T M a0 0 11).bind fun b16 =>
  (f_J7_fill_53178 T M b16 (0 : Int32)).bind fun x17 =>
  (gloop (fun x => f_X4_follow_B29 T x.2.2.2 a0 a1 a2 x.1 x.2.1 x.2.2.1) gFU (i3, i4, (0 : Int32), (si (si x17 a0 1 (-2 : Int32)) a0 2 (0 : Int32)))).bind fun x18 =>
  some x18
def f_X6_init (T : gT) (M : gM) (a0 : Nat) : Option (gT × gM) :=
  (gnew T M (10, 800)).bind fun x2 =>
  some (x2.2.1, (si (si (sl (si (si (si (si (sr x2.2.2 a0 0 (some x2.1)) a0 1 (0 : Int32)) a0 2 (0 : Int32)) a0 3 (0 : Int32)) a0 4 (0 : Int32)) a0 5 (0 : Int64)) a0 6 (0 : Int32)) a0 7 (0 : Int32)))
def f_X5_init (T : gT) (M : gM) (a0 : Nat) : Option (gT × gM) :=
  (gnew T M (6, 0)).bind fun x2 =>
  (f_X6_init x2.2.1 x2.2.2 x2.1).bind fun x4 =>
  (gnew x4.1 (sr x4.2 a0 0 (some x2.1)) (0, 0)).bind fun x7 =>
  (f_X0_init x7.2.1 x7.2.2 x7.1).bind fun x9 =>
  (gnew x9.1 (sr x9.2 a0 1 (some x7.1)) (12, 8)).bind fun x12 =>
  (gnew x12.2.1 (sr x12.2.2 a0 2 (some x12.1)) (12, 12)).bind fun x14 =>
  (gnew x14.2.1 (sr x14.2.2 a0 3 (some x14.1)) (11, 800)).bind fun x16 =>
  some (x16.2.1, (si (si (si (si (si (si (sr x16.2.2 a0 4 (some x16.1)) a0 5 (0 : Int32)) a0 6 (0 : Int32)) a0 7 (0 : Int32)) a0 8 (0 : Int32)) a0 9 (0 : Int32)) a0 10 (-1 : Int32)))
def f_X5_addCode (T : gT) (M : gM) (a0 : Nat) (i1 : Int32) : Option (gM) :=
  if (800 : Int32) ≤ (gi M a0 5) then
  (
    some M
  )
  else
  (
    (ldr T M a0 4 11).bind fun b2 =>
    (ast T M b2 (gi M a0 5) i1).bind fun M3 =>
    some (si M3 a0 5 ((gi M3 a0 5) + (1 : Int32)))
  )
def f_X6_runOf_B5 (T : gT) (M : gM) (a0 : Nat) (i1 : Int32) (i2 : Int32) (i3 : Int32) : Option ((Int32) ⊕ (Int32)) :=
  if (gi M a0 1) ≤ i3 then
  (
    some (.inl i3)
  )
  else
  (
    (ldr T M a0 0 10).bind fun b2 =>
    (ald T M b2 i3).bind fun v3 =>
    if v3 < i1 then
    (
      some (.inl i3)
    )
    else
    (
      (ldr T M a0 0 10).bind fun b5 =>
      (ald T M b5 i3).bind fun v6 =>
      if i2 < v6 then
      (
        some (.inl i3)
      )
      else
      (
        some (.inr (i3 + (1 : Int32)))
      )
    )
  )
def f_X6_runOf (T : gT) (M : gM) (a0 : Nat) (i1 : Int32) (i2 : Int32) : Option (Int32) :=
  (gloop (fun x => f_X6_runOf_B5 T M a0 i1 i2 x) gFU (gi M a0 2)).bind fun x8 =>
  some (x8 - (gi M a0 2))
def f_X6_takeWord_B22 (T : gT) (M : gM) (a0 : Nat) (i1 : Int32) (i2 : Int32) : Option ((gM) ⊕ (Int32 × gM)) :=
  if i1 ≤ i2 then
  (
    some (.inl M)
  )
  else
  (
    if (gi M a0 1) ≤ (gi M a0 2) then
    (
      some (.inl M)
    )
    else
    (
      (ldr T M a0 0 10).bind fun b3 =>
      (ald T M b3 (gi M a0 2)).bind fun v4 =>
      some (.inr ((i2 + (1 : Int32)), (si (sl M a0 5 (((gl M a0 5) <<< (((8 : Int32)).toInt64 &&& 63)) ||| v4.toInt64)) a0 2 ((gi (sl M a0 5 (((gl M a0 5) <<< (((8 : Int32)).toInt64 &&& 63)) ||| v4.toInt64)) a0 2) + (1 : Int32)))))
    )
  )
def f_X6_takeWord_12 (T : gT) (M : gM) (a0 : Nat) (i1 : Int32) (b0 : Nat) (k1 : Int32) : Option (gM) :=
  (gloop (fun x => f_X6_takeWord_B22 T x.2 a0 i1 x.1) gFU ((0 : Int32), (sl (si M b0 3 k1) a0 5 (0 : Int64)))).bind fun x5 =>
  some x5
def f_X6_takeWord (T : gT) (M : gM) (a0 : Nat) (i1 : Int32) : Option (gM) :=
  if (8 : Int32) < i1 then
  (
    f_X6_takeWord_12 T M a0 i1 a0 (4 : Int32)
  )
  else
  (
    f_X6_takeWord_12 T M a0 i1 a0 (1 : Int32)
  )
def f_X6_takeNumber_B12 (T : gT) (M : gM) (a0 : Nat) (i1 : Int32) (i2 : Int32) : Option ((gM) ⊕ (Int32 × gM)) :=
  if i1 ≤ i2 then
  (
    some (.inl M)
  )
  else
  (
    if (gi M a0 1) ≤ (gi M a0 2) then
    (
      some (.inl M)
    )
    else
    (
      (ldr T M a0 0 10).bind fun b3 =>
      (ald T M b3 (gi M a0 2)).bind fun v4 =>
      some (.inr ((i2 + (1 : Int32)), (si (si M a0 6 (imin (1000000 : Int32) (((gi M a0 6) * (10 : Int32)) + (v4 - (48 : Int32))))) a0 2 ((gi (si M a0 6 (imin (1000000 : Int32) (((gi M a0 6) * (10 : Int32)) + (v4 - (48 : Int32))))) a0 2) + (1 : Int32)))))
    )
  )
def f_X6_takeNumber (T : gT) (M : gM) (a0 : Nat) (i1 : Int32) : Option (gM) :=
  (gloop (fun x => f_X6_takeNumber_B12 T x.2 a0 i1 x.1) gFU ((0 : Int32), (si (si M a0 3 (2 : Int32)) a0 6 (0 : Int32)))).bind fun x6 =>
  some x6
def f_X6_advance_B0 (T : gT) (M : gM) (a0 : Nat) : Option ((gM) ⊕ (gM)) :=
  if (gi M a0 1) ≤ (gi M a0 2) then
  (
    some (.inl M)
  )
  else
  (
    (ldr T M a0 0 10).bind fun b2 =>
    (ald T M b2 (gi M a0 2)).bind fun v3 =>
    if ¬ v3 = (32 : Int32) then
    (
      some (.inl M)
    )
    else
    (
      some (.inr (si M a0 2 ((gi M a0 2) + (1 : Int32))))
    )
  )
def f_X6_advance (T : gT) (M : gM) (a0 : Nat) : Option (gM) :=
  (gloop (fun x => f_X6_advance_B0 T x a0) gFU M).bind fun x5 =>
  (f_X6_runOf T (si x5 a0 4 (gi x5 a0 2)) a0 (97 : Int32) (122 : Int32)).bind fun x6 =>
  (f_X6_runOf T (si x5 a0 4 (gi x5 a0 2)) a0 (48 : Int32) (57 : Int32)).bind fun x7 =>
  if (gi (si x5 a0 4 (gi x5 a0 2)) a0 2) < (gi (si x5 a0 4 (gi x5 a0 2)) a0 1) then
  (
    if x6 ≤ 0 then
    (
      if x7 ≤ 0 then
      (
        (ldr T (si (si x5 a0 4 (gi x5 a0 2)) a0 3 (3 : Int32)) a0 0 10).bind fun b11 =>
        (ald T (si (si x5 a0 4 (gi x5 a0 2)) a0 3 (3 : Int32)) b11 (gi (si (si x5 a0 4 (gi x5 a0 2)) a0 3 (3 : Int32)) a0 2)).bind fun v12 =>
        some (si (si (si (si x5 a0 4 (gi x5 a0 2)) a0 3 (3 : Int32)) a0 7 v12) a0 2 ((gi (si (si (si x5 a0 4 (gi x5 a0 2)) a0 3 (3 : Int32)) a0 7 v12) a0 2) + (1 : Int32)))
      )
      else
      (
        (f_X6_takeNumber T (si x5 a0 4 (gi x5 a0 2)) a0 x7).bind fun x13 =>
        some x13
      )
    )
    else
    (
      (f_X6_takeWord T (si x5 a0 4 (gi x5 a0 2)) a0 x6).bind fun x14 =>
      some x14
    )
  )
  else
  (
    some (si (si x5 a0 4 (gi x5 a0 2)) a0 3 (0 : Int32))
  )
def f_X6_startText (T : gT) (M : gM) (a0 : Nat) (a1 : Nat) (i2 : Int32) : Option (gM) :=
  (ldr T (si M a0 1 (imin i2 (800 : Int32))) a0 0 10).bind fun b2 =>
  (acpb T (si M a0 1 (imin i2 (800 : Int32))) a1 (0 : Int32) b2 (0 : Int32) (gi (si M a0 1 (imin i2 (800 : Int32))) a0 1)).bind fun M3 =>
  (f_X6_advance T (si M3 a0 2 (0 : Int32)) a0).bind fun x4 =>
  some x4
def f_X6_packed_B4 (T : gT) (M : gM) (s0 : Nat) (j1 : Int64) (i3 : Int32) : Option ((Int64) ⊕ (Int64 × Int32)) :=
  (slen s0).bind fun v1 =>
  if v1 ≤ i3 then
  (
    some (.inl j1)
  )
  else
  (
    (sch s0 i3).bind fun v3 =>
    some (.inr (((j1 <<< (((8 : Int32)).toInt64 &&& 63)) ||| v3.toInt64), (i3 + (1 : Int32))))
  )
def f_X6_packed (T : gT) (M : gM) (s0 : Nat) : Option (Int64) :=
  (gloop (fun x => f_X6_packed_B4 T M s0 x.1 x.2) gFU ((0 : Int64), (0 : Int32))).bind fun x4 =>
  some x4
def f_X6_isWord_24 (T : gT) (M : gM)  : Option (Int32) :=
  some (0 : Int32)
def f_X6_isWord (T : gT) (M : gM) (a0 : Nat) (s1 : Nat) : Option (Int32) :=
  if ¬ (gi M a0 3) = (1 : Int32) then
  (
    f_X6_isWord_24 T M 
  )
  else
  (
    (f_X6_packed T M s1).bind fun x2 =>
    if ¬ (lg_cmp (gl M a0 5) x2) = 0 then
    (
      f_X6_isWord_24 T M 
    )
    else
    (
      some (1 : Int32)
    )
  )
def f_X5_error (T : gT) (M : gM) (a0 : Nat) (i1 : Int32) : Option (Int32 × gM) :=
  (ldr T (si M a0 9 i1) a0 0 6).bind fun b1 =>
  some ((0 : Int32), (si (si M a0 9 i1) a0 10 (gi (si M a0 9 i1) b1 4)))
def f_X5_syntaxError (T : gT) (M : gM) (a0 : Nat) : Option (Int32 × gM) :=
  (f_X5_error T M a0 (-2 : Int32)).bind fun x1 =>
  (chk (x1.1 = 0 ∨ x1.1 = 1)).bind fun _ =>
  some (x1.1, x1.2)
def f_X5_readKeyword (T : gT) (M : gM) (a0 : Nat) (s1 : Nat) : Option (Int32 × gM) :=
  (ldr T M a0 0 6).bind fun b1 =>
  (f_X6_isWord T M b1 s1).bind fun x2 =>
  if ¬ x2 = 0 then
  (
    (ldr T M a0 0 6).bind fun b4 =>
    (f_X6_advance T M b4).bind fun x5 =>
    some ((1 : Int32), x5)
  )
  else
  (
    (f_X5_syntaxError T M a0).bind fun x6 =>
    (chk (x6.1 = 0 ∨ x6.1 = 1)).bind fun _ =>
    some (x6.1, x6.2)
  )
def f_X6_isSign_20 (T : gT) (M : gM)  : Option (Int32) :=
  some (0 : Int32)
def f_X6_isSign (T : gT) (M : gM) (a0 : Nat) (i1 : Int32) : Option (Int32) :=
  if ¬ (gi M a0 3) = (3 : Int32) then
  (
    f_X6_isSign_20 T M 
  )
  else
  (
    if ¬ (gi M a0 7) = i1 then
    (
      f_X6_isSign_20 T M 
    )
    else
    (
      some (1 : Int32)
    )
  )
def f_X5_readSign (T : gT) (M : gM) (a0 : Nat) (i1 : Int32) : Option (Int32 × gM) :=
  (ldr T M a0 0 6).bind fun b1 =>
  (f_X6_isSign T M b1 i1).bind fun x2 =>
  if ¬ x2 = 0 then
  (
    (ldr T M a0 0 6).bind fun b4 =>
    (f_X6_advance T M b4).bind fun x5 =>
    some ((1 : Int32), x5)
  )
  else
  (
    (f_X5_syntaxError T M a0).bind fun x6 =>
    (chk (x6.1 = 0 ∨ x6.1 = 1)).bind fun _ =>
    some (x6.1, x6.2)
  )
def f_X5_indexOfWord_B2 (T : gT) (M : gM) (a0 : Nat) (a1 : Nat) (i2 : Int32) (i3 : Int32) : Option ((Int32) ⊕ (Int32)) :=
  if i2 ≤ i3 then
  (
    some (.inl (-1 : Int32))
  )
  else
  (
    (aldl T M a1 i3).bind fun v2 =>
    (ldr T M a0 0 6).bind fun b3 =>
    if ¬ (lg_cmp v2 (gl M b3 5)) = 0 then
    (
      some (.inr (i3 + (1 : Int32)))
    )
    else
    (
      some (.inl i3)
    )
  )
def f_X5_indexOfWord (T : gT) (M : gM) (a0 : Nat) (a1 : Nat) (i2 : Int32) : Option (Int32) :=
  (gloop (fun x => f_X5_indexOfWord_B2 T M a0 a1 i2 x) gFU (0 : Int32)).bind fun x5 =>
  some x5
def f_X5_readNewWord (T : gT) (M : gM) (a0 : Nat) (a1 : Nat) (i2 : Int32) : Option (Int32 × gM) :=
  (ldr T M a0 0 6).bind fun b1 =>
  if (gi M b1 3) = (1 : Int32) then
  (
    (f_X5_indexOfWord T M a0 a1 i2).bind fun x3 =>
    if x3 = (-1 : Int32) then
    (
      (ldr T M a0 0 6).bind fun b5 =>
      (astl T M a1 i2 (gl M b5 5)).bind fun M6 =>
      (ldr T M6 a0 0 6).bind fun b7 =>
      (f_X6_advance T M6 b7).bind fun x8 =>
      some ((1 : Int32), x8)
    )
    else
    (
      (f_X5_error T M a0 (-5 : Int32)).bind fun x9 =>
      (chk (x9.1 = 0 ∨ x9.1 = 1)).bind fun _ =>
      some (x9.1, x9.2)
    )
  )
  else
  (
    (f_X5_syntaxError T M a0).bind fun x11 =>
    (chk (x11.1 = 0 ∨ x11.1 = 1)).bind fun _ =>
    some (x11.1, x11.2)
  )
def f_X5_readNewName (T : gT) (M : gM) (a0 : Nat) : Option (Int32 × gM) :=
  (ldr T M a0 1 0).bind fun b1 =>
  if (gi M b1 2) < (12 : Int32) then
  (
    (ldr T M a0 0 6).bind fun b3 =>
    (f_X6_advance T M b3).bind fun x4 =>
    (ldr T x4 a0 3 12).bind fun b5 =>
    (ldr T x4 a0 1 0).bind fun b6 =>
    (f_X5_readNewWord T x4 a0 b5 (gi x4 b6 2)).bind fun x7 =>
    if ¬ x7.1 = 0 then
    (
      (ldr T x7.2 a0 1 0).bind fun b9 =>
      some ((1 : Int32), (si x7.2 b9 2 ((gi x7.2 b9 2) + (1 : Int32))))
    )
    else
    (
      some ((0 : Int32), x7.2)
    )
  )
  else
  (
    (f_X5_error T M a0 (-6 : Int32)).bind fun x10 =>
    (chk (x10.1 = 0 ∨ x10.1 = 1)).bind fun _ =>
    some (x10.1, x10.2)
  )
def f_X5_readNumber (T : gT) (M : gM) (a0 : Nat) (i1 : Int32) : Option (Int32 × gM) :=
  (ldr T M a0 0 6).bind fun b1 =>
  if (gi M b1 3) = (2 : Int32) then
  (
    (ldr T M a0 0 6).bind fun b3 =>
    if (gi M b3 6) ≤ i1 then
    (
      (ldr T M a0 0 6).bind fun b5 =>
      (ldr T (si M a0 8 (gi M b5 6)) a0 0 6).bind fun b6 =>
      (f_X6_advance T (si M a0 8 (gi M b5 6)) b6).bind fun x7 =>
      some ((1 : Int32), x7)
    )
    else
    (
      (f_X5_error T M a0 (-3 : Int32)).bind fun x8 =>
      (chk (x8.1 = 0 ∨ x8.1 = 1)).bind fun _ =>
      some (x8.1, x8.2)
    )
  )
  else
  (
    (f_X5_syntaxError T M a0).bind fun x10 =>
    (chk (x10.1 = 0 ∨ x10.1 = 1)).bind fun _ =>
    some (x10.1, x10.2)
  )
def f_X5_readNewLibrary (T : gT) (M : gM) (a0 : Nat) : Option (Int32 × gM) :=
  (ldr T M a0 1 0).bind fun b1 =>
  if (gi M b1 1) < (8 : Int32) then
  (
    (ldr T M a0 0 6).bind fun b3 =>
    (f_X6_advance T M b3).bind fun x4 =>
    (ldr T x4 a0 2 12).bind fun b5 =>
    (ldr T x4 a0 1 0).bind fun b6 =>
    (f_X5_readNewWord T x4 a0 b5 (gi x4 b6 1)).bind fun x7 =>
    if x7.1 = 0 then
    (
      some ((0 : Int32), x7.2)
    )
    else
    (
      (f_X5_readNumber T x7.2 a0 (999 : Int32)).bind fun x9 =>
      if ¬ x9.1 = 0 then
      (
        (ldr T x9.2 a0 1 0).bind fun b11 =>
        (ldr T x9.2 b11 0 14).bind fun b12 =>
        (ldr T x9.2 a0 1 0).bind fun b13 =>
        (aldr T x9.2 b12 (gi x9.2 b13 1) 3).bind fun b14 =>
        (ldr T x9.2 a0 1 0).bind fun b15 =>
        (f_X3_startAs T x9.2 b14 (gi x9.2 a0 8) (gi x9.2 b15 1)).bind fun x16 =>
        (ldr T x16 a0 1 0).bind fun b17 =>
        (ldr T (si x16 b17 1 ((gi x16 b17 1) + (1 : Int32))) a0 0 6).bind fun b18 =>
        (f_X6_isWord T (si x16 b17 1 ((gi x16 b17 1) + (1 : Int32))) b18 7).bind fun x19 =>
        if x19 = 0 then
        (
          some ((1 : Int32), (si x16 b17 1 ((gi x16 b17 1) + (1 : Int32))))
        )
        else
        (
          (ldr T (si (si x16 b17 1 ((gi x16 b17 1) + (1 : Int32))) b14 1 (1 : Int32)) a0 0 6).bind fun b21 =>
          (f_X6_advance T (si (si x16 b17 1 ((gi x16 b17 1) + (1 : Int32))) b14 1 (1 : Int32)) b21).bind fun x22 =>
          some ((1 : Int32), x22)
        )
      )
      else
      (
        some ((0 : Int32), x9.2)
      )
    )
  )
  else
  (
    (f_X5_error T M a0 (-6 : Int32)).bind fun x23 =>
    (chk (x23.1 = 0 ∨ x23.1 = 1)).bind fun _ =>
    some (x23.1, x23.2)
  )
def f_X5_findWord (T : gT) (M : gM) (a0 : Nat) (a1 : Nat) (i2 : Int32) : Option (Int32 × gM) :=
  (ldr T M a0 0 6).bind fun b1 =>
  if (gi M b1 3) = (1 : Int32) then
  (
    (f_X5_indexOfWord T M a0 a1 i2).bind fun x3 =>
    if ¬ x3 = (-1 : Int32) then
    (
      some ((1 : Int32), (si M a0 8 x3))
    )
    else
    (
      (f_X5_error T M a0 (-4 : Int32)).bind fun x5 =>
      (chk (x5.1 = 0 ∨ x5.1 = 1)).bind fun _ =>
      some (x5.1, x5.2)
    )
  )
  else
  (
    (f_X5_syntaxError T M a0).bind fun x7 =>
    (chk (x7.1 = 0 ∨ x7.1 = 1)).bind fun _ =>
    some (x7.1, x7.2)
  )
def f_X5_findLibrary (T : gT) (M : gM) (a0 : Nat) : Option (Int32 × gM) :=
  (ldr T M a0 2 12).bind fun b1 =>
  (ldr T M a0 1 0).bind fun b2 =>
  (f_X5_findWord T M a0 b1 (gi M b2 1)).bind fun x3 =>
  (chk (x3.1 = 0 ∨ x3.1 = 1)).bind fun _ =>
  some (x3.1, x3.2)
def f_X5_findName (T : gT) (M : gM) (a0 : Nat) : Option (Int32 × gM) :=
  (ldr T M a0 3 12).bind fun b1 =>
  (ldr T M a0 1 0).bind fun b2 =>
  (f_X5_findWord T M a0 b1 (gi M b2 2)).bind fun x3 =>
  (chk (x3.1 = 0 ∨ x3.1 = 1)).bind fun _ =>
  some (x3.1, x3.2)
def f_X5_readOffer (T : gT) (M : gM) (a0 : Nat) : Option (Int32 × gM) :=
  (ldr T M a0 0 6).bind fun b1 =>
  (f_X6_advance T M b1).bind fun x2 =>
  (f_X5_findLibrary T x2 a0).bind fun x3 =>
  if ¬ x3.1 = 0 then
  (
    (ldr T x3.2 a0 1 0).bind fun b5 =>
    (ldr T x3.2 b5 0 14).bind fun b6 =>
    (aldr T x3.2 b6 (gi x3.2 a0 8) 3).bind fun b7 =>
    (ldr T x3.2 a0 0 6).bind fun b8 =>
    (f_X6_advance T x3.2 b8).bind fun x9 =>
    (f_X5_findName T x9 a0).bind fun x10 =>
    if ¬ x10.1 = 0 then
    (
      (f_X3_hasOffer T x10.2 b7 (gi x10.2 a0 8)).bind fun x12 =>
      if x12 = 0 then
      (
        (ldr T x10.2 a0 0 6).bind fun b14 =>
        (f_X6_advance T x10.2 b14).bind fun x15 =>
        (ldr T x15 a0 0 6).bind fun b16 =>
        if ¬ (gi x15 b16 3) = (2 : Int32) then
        (
          (f_X5_readKeyword T x15 a0 8).bind fun x18 =>
          if x18.1 = 0 then
          (
            some ((0 : Int32), x18.2)
          )
          else
          (
            (f_X5_findName T x18.2 a0).bind fun x20 =>
            if ¬ x20.1 = 0 then
            (
              (ldr T x20.2 b7 3 11).bind fun b22 =>
              (ast T x20.2 b22 (gi x10.2 a0 8) ((-2 : Int32) - (gi x20.2 a0 8))).bind fun M23 =>
              (ldr T M23 a0 0 6).bind fun b24 =>
              (f_X6_advance T M23 b24).bind fun x25 =>
              some ((1 : Int32), x25)
            )
            else
            (
              some ((0 : Int32), x20.2)
            )
          )
        )
        else
        (
          (f_X5_readNumber T x15 a0 (9999 : Int32)).bind fun x26 =>
          if ¬ x26.1 = 0 then
          (
            (ldr T x26.2 b7 3 11).bind fun b28 =>
            (ast T x26.2 b28 (gi x10.2 a0 8) (gi x26.2 a0 8)).bind fun M29 =>
            some ((1 : Int32), M29)
          )
          else
          (
            some ((0 : Int32), x26.2)
          )
        )
      )
      else
      (
        (f_X5_error T x10.2 a0 (-5 : Int32)).bind fun x30 =>
        (chk (x30.1 = 0 ∨ x30.1 = 1)).bind fun _ =>
        some (x30.1, x30.2)
      )
    )
    else
    (
      some ((0 : Int32), x10.2)
    )
  )
  else
  (
    some ((0 : Int32), x3.2)
  )
def f_X5_readPrefer_64 (T : gT) (M : gM) (a0 : Nat) : Option (Int32 × gM) :=
  (f_X5_error T M a0 (-5 : Int32)).bind fun x1 =>
  (chk (x1.1 = 0 ∨ x1.1 = 1)).bind fun _ =>
  some (x1.1, x1.2)
def f_X5_readPrefer (T : gT) (M : gM) (a0 : Nat) : Option (Int32 × gM) :=
  (ldr T M a0 0 6).bind fun b3 =>
  (f_X6_advance T M b3).bind fun x4 =>
  (f_X5_findLibrary T x4 a0).bind fun x5 =>
  if ¬ x5.1 = 0 then
  (
    (ldr T x5.2 a0 0 6).bind fun b7 =>
    (f_X6_advance T x5.2 b7).bind fun x8 =>
    (f_X5_findLibrary T x8 a0).bind fun x9 =>
    if ¬ x9.1 = 0 then
    (
      if (gi x9.2 a0 8) = (gi x5.2 a0 8) then
      (
        f_X5_readPrefer_64 T x9.2 a0
      )
      else
      (
        (ldr T x9.2 a0 1 0).bind fun b12 =>
        (ldr T x9.2 b12 0 14).bind fun b13 =>
        (aldr T x9.2 b13 (gi x5.2 a0 8) 3).bind fun b14 =>
        (f_X3_prefers T x9.2 b14 (gi x9.2 a0 8)).bind fun x15 =>
        if x15 = 0 then
        (
          (ldr T x9.2 a0 1 0).bind fun b17 =>
          (ldr T x9.2 b17 0 14).bind fun b18 =>
          (aldr T x9.2 b18 (gi x5.2 a0 8) 3).bind fun b19 =>
          (f_X3_addPreference T x9.2 b19 (gi x9.2 a0 8)).bind fun x20 =>
          (ldr T x20 a0 0 6).bind fun b21 =>
          (f_X6_advance T x20 b21).bind fun x22 =>
          some ((1 : Int32), x22)
        )
        else
        (
          f_X5_readPrefer_64 T x9.2 a0
        )
      )
    )
    else
    (
      some ((0 : Int32), x9.2)
    )
  )
  else
  (
    some ((0 : Int32), x5.2)
  )
def f_X5_readShare (T : gT) (M : gM) (a0 : Nat) : Option (Int32 × gM) :=
  (ldr T (si M a0 6 (1 : Int32)) a0 0 6).bind fun b1 =>
  (f_X6_advance T (si M a0 6 (1 : Int32)) b1).bind fun x2 =>
  (f_X5_readNumber T x2 a0 (100 : Int32)).bind fun x3 =>
  if ¬ x3.1 = 0 then
  (
    (ldr T x3.2 a0 1 0).bind fun b5 =>
    some ((1 : Int32), (si x3.2 b5 3 (gi x3.2 a0 8)))
  )
  else
  (
    some ((0 : Int32), x3.2)
  )
def f_X5_quantityCode (T : gT) (M : gM) (a0 : Nat) : Option (Int32) :=
  (ldr T M a0 0 6).bind fun b1 =>
  (f_X6_isWord T M b1 9).bind fun x2 =>
  if x2 = 0 then
  (
    (ldr T M a0 0 6).bind fun b4 =>
    (f_X6_isWord T M b4 10).bind fun x5 =>
    if x5 = 0 then
    (
      (ldr T M a0 0 6).bind fun b7 =>
      (f_X6_isWord T M b7 11).bind fun x8 =>
      if x8 = 0 then
      (
        (ldr T M a0 0 6).bind fun b10 =>
        (f_X6_isWord T M b10 12).bind fun x11 =>
        if x11 = 0 then
        (
          some (0 : Int32)
        )
        else
        (
          some (-4 : Int32)
        )
      )
      else
      (
        some (-3 : Int32)
      )
    )
    else
    (
      some (-2 : Int32)
    )
  )
  else
  (
    some (-1 : Int32)
  )
abbrev gRecT_X5_readSum : Type := gT → gM → Nat → Int32 → Option (Int32 × gM)
def f_X5_readFactor_54 (rec : gRecT_X5_readSum) (T : gT) (M : gM)  : Option (Int32 × gM) :=
  some ((0 : Int32), M)
def f_X5_readFactor (rec : gRecT_X5_readSum) (T : gT) (M : gM) (a0 : Nat) (i1 : Int32) : Option (Int32 × gM) :=
  (ldr T M a0 0 6).bind fun b1 =>
  (f_X6_isSign T M b1 (40 : Int32)).bind fun x2 =>
  if x2 = 0 then
  (
    (ldr T M a0 0 6).bind fun b4 =>
    if ¬ (gi M b4 3) = (2 : Int32) then
    (
      (f_X5_quantityCode T M a0).bind fun x6 =>
      if ¬ x6 = 0 then
      (
        (f_X5_addCode T M a0 x6).bind fun x8 =>
        (ldr T x8 a0 0 6).bind fun b9 =>
        (f_X6_advance T x8 b9).bind fun x10 =>
        some ((1 : Int32), x10)
      )
      else
      (
        (f_X5_syntaxError T M a0).bind fun x11 =>
        (chk (x11.1 = 0 ∨ x11.1 = 1)).bind fun _ =>
        some (x11.1, x11.2)
      )
    )
    else
    (
      (f_X5_readNumber T M a0 (9999 : Int32)).bind fun x13 =>
      if ¬ x13.1 = 0 then
      (
        (f_X5_addCode T x13.2 a0 (gi x13.2 a0 8)).bind fun x15 =>
        some ((1 : Int32), x15)
      )
      else
      (
        some ((0 : Int32), x13.2)
      )
    )
  )
  else
  (
    if i1 < (4 : Int32) then
    (
      (ldr T M a0 0 6).bind fun b17 =>
      (f_X6_advance T M b17).bind fun x18 =>
      (rec T x18 a0 (i1 + (1 : Int32))).bind fun x19 =>
      if x19.1 = 0 then
      (
        f_X5_readFactor_54 rec T x19.2 
      )
      else
      (
        (f_X5_readSign T x19.2 a0 (41 : Int32)).bind fun x21 =>
        if x21.1 = 0 then
        (
          f_X5_readFactor_54 rec T x21.2 
        )
        else
        (
          some ((1 : Int32), x21.2)
        )
      )
    )
    else
    (
      (f_X5_error T M a0 (-7 : Int32)).bind fun x23 =>
      (chk (x23.1 = 0 ∨ x23.1 = 1)).bind fun _ =>
      some (x23.1, x23.2)
    )
  )
def f_X5_readTerm_62 (rec : gRecT_X5_readSum) (T : gT) (M : gM) (a0 : Nat) (i1 : Int32) (i2 : Int32) (k0 : Int32) : Option ((Int32 × gM) ⊕ (Int32 × gM)) :=
  (ldr T M a0 0 6).bind fun b1 =>
  (f_X6_advance T M b1).bind fun x2 =>
  (f_X5_readFactor rec T x2 a0 i1).bind fun x3 =>
  if ¬ x3.1 = 0 then
  (
    (f_X5_addCode T x3.2 a0 k0).bind fun x5 =>
    some (.inr ((i2 + (1 : Int32)), x5))
  )
  else
  (
    some (.inl ((0 : Int32), x3.2))
  )
def f_X5_readTerm_43 (rec : gRecT_X5_readSum) (T : gT) (M : gM) (a0 : Nat) (i1 : Int32) (i2 : Int32) : Option ((Int32 × gM) ⊕ (Int32 × gM)) :=
  (ldr T M a0 0 6).bind fun b6 =>
  (f_X6_isSign T M b6 (42 : Int32)).bind fun x7 =>
  if x7 = 0 then
  (
    f_X5_readTerm_62 rec T M a0 i1 i2 (-8 : Int32)
  )
  else
  (
    f_X5_readTerm_62 rec T M a0 i1 i2 (-7 : Int32)
  )
def f_X5_readTerm_B12 (rec : gRecT_X5_readSum) (T : gT) (M : gM) (a0 : Nat) (i1 : Int32) (i2 : Int32) : Option ((Int32 × gM) ⊕ (Int32 × gM)) :=
  if (800 : Int32) ≤ i2 then
  (
    some (.inl ((1 : Int32), M))
  )
  else
  (
    (ldr T M a0 0 6).bind fun b10 =>
    (f_X6_isSign T M b10 (42 : Int32)).bind fun x11 =>
    if ¬ x11 = 0 then
    (
      f_X5_readTerm_43 rec T M a0 i1 i2
    )
    else
    (
      (ldr T M a0 0 6).bind fun b13 =>
      (f_X6_isSign T M b13 (47 : Int32)).bind fun x14 =>
      if x14 = 0 then
      (
        some (.inl ((1 : Int32), M))
      )
      else
      (
        f_X5_readTerm_43 rec T M a0 i1 i2
      )
    )
  )
def f_X5_readTerm (rec : gRecT_X5_readSum) (T : gT) (M : gM) (a0 : Nat) (i1 : Int32) : Option (Int32 × gM) :=
  (f_X5_readFactor rec T M a0 i1).bind fun x16 =>
  if ¬ x16.1 = 0 then
  (
    (gloop (fun x => f_X5_readTerm_B12 rec T x.2 a0 i1 x.1) gFU ((0 : Int32), x16.2)).bind fun x18 =>
    some x18
  )
  else
  (
    some ((0 : Int32), x16.2)
  )
def f_X5_readSum_62 (rec : gRecT_X5_readSum) (T : gT) (M : gM) (a0 : Nat) (i1 : Int32) (i2 : Int32) (k0 : Int32) : Option ((Int32 × gM) ⊕ (Int32 × gM)) :=
  (ldr T M a0 0 6).bind fun b1 =>
  (f_X6_advance T M b1).bind fun x2 =>
  (f_X5_readTerm rec T x2 a0 i1).bind fun x3 =>
  if ¬ x3.1 = 0 then
  (
    (f_X5_addCode T x3.2 a0 k0).bind fun x5 =>
    some (.inr ((i2 + (1 : Int32)), x5))
  )
  else
  (
    some (.inl ((0 : Int32), x3.2))
  )
def f_X5_readSum_43 (rec : gRecT_X5_readSum) (T : gT) (M : gM) (a0 : Nat) (i1 : Int32) (i2 : Int32) : Option ((Int32 × gM) ⊕ (Int32 × gM)) :=
  (ldr T M a0 0 6).bind fun b6 =>
  (f_X6_isSign T M b6 (43 : Int32)).bind fun x7 =>
  if x7 = 0 then
  (
    f_X5_readSum_62 rec T M a0 i1 i2 (-6 : Int32)
  )
  else
  (
    f_X5_readSum_62 rec T M a0 i1 i2 (-5 : Int32)
  )
def f_X5_readSum_B12 (rec : gRecT_X5_readSum) (T : gT) (M : gM) (a0 : Nat) (i1 : Int32) (i2 : Int32) : Option ((Int32 × gM) ⊕ (Int32 × gM)) :=
  if (800 : Int32) ≤ i2 then
  (
    some (.inl ((1 : Int32), M))
  )
  else
  (
    (ldr T M a0 0 6).bind fun b10 =>
    (f_X6_isSign T M b10 (43 : Int32)).bind fun x11 =>
    if ¬ x11 = 0 then
    (
      f_X5_readSum_43 rec T M a0 i1 i2
    )
    else
    (
      (ldr T M a0 0 6).bind fun b13 =>
      (f_X6_isSign T M b13 (45 : Int32)).bind fun x14 =>
      if x14 = 0 then
      (
        some (.inl ((1 : Int32), M))
      )
      else
      (
        f_X5_readSum_43 rec T M a0 i1 i2
      )
    )
  )
def f_X5_readSum (rec : gRecT_X5_readSum) (T : gT) (M : gM) (a0 : Nat) (i1 : Int32) : Option (Int32 × gM) :=
  (f_X5_readTerm rec T M a0 i1).bind fun x16 =>
  if ¬ x16.1 = 0 then
  (
    (gloop (fun x => f_X5_readSum_B12 rec T x.2 a0 i1 x.1) gFU ((0 : Int32), x16.2)).bind fun x18 =>
    some x18
  )
  else
  (
    some ((0 : Int32), x16.2)
  )
def g_X5_readSum : Nat → gRecT_X5_readSum
  | 0 => fun _ _ _ _ => none
  | n + 1 => f_X5_readSum (g_X5_readSum n)
def f_X5_readSum_c (T : gT) (M : gM) (a0 : Nat) (i1 : Int32) : Option (Int32 × gM) := g_X5_readSum 10 T M a0 i1
def f_X5_readWeight (T : gT) (M : gM) (a0 : Nat) : Option (Int32 × gM) :=
  (ldr T (si (si M a0 7 (1 : Int32)) a0 5 (0 : Int32)) a0 0 6).bind fun b1 =>
  (f_X6_advance T (si (si M a0 7 (1 : Int32)) a0 5 (0 : Int32)) b1).bind fun x2 =>
  (f_X5_readSum_c T x2 a0 (0 : Int32)).bind fun x3 =>
  (chk (x3.1 = 0 ∨ x3.1 = 1)).bind fun _ =>
  some (x3.1, x3.2)
def f_X5_readStatement_92 (T : gT) (M : gM) (a0 : Nat) : Option (Int32 × gM) :=
  (ldr T M a0 0 6).bind fun b1 =>
  (f_X6_isWord T M b1 6).bind fun x2 =>
  if x2 = 0 then
  (
    (f_X5_syntaxError T M a0).bind fun x4 =>
    (chk (x4.1 = 0 ∨ x4.1 = 1)).bind fun _ =>
    some (x4.1, x4.2)
  )
  else
  (
    if ¬ (gi M a0 7) = 0 then
    (
      (f_X5_syntaxError T M a0).bind fun x7 =>
      (chk (x7.1 = 0 ∨ x7.1 = 1)).bind fun _ =>
      some (x7.1, x7.2)
    )
    else
    (
      (f_X5_readWeight T M a0).bind fun x9 =>
      (chk (x9.1 = 0 ∨ x9.1 = 1)).bind fun _ =>
      some (x9.1, x9.2)
    )
  )
def f_X5_readStatement (T : gT) (M : gM) (a0 : Nat) : Option (Int32 × gM) :=
  (ldr T M a0 0 6).bind fun b11 =>
  (f_X6_isWord T M b11 1).bind fun x12 =>
  if x12 = 0 then
  (
    (ldr T M a0 0 6).bind fun b14 =>
    (f_X6_isWord T M b14 2).bind fun x15 =>
    if x15 = 0 then
    (
      (ldr T M a0 0 6).bind fun b17 =>
      (f_X6_isWord T M b17 3).bind fun x18 =>
      if x18 = 0 then
      (
        (ldr T M a0 0 6).bind fun b20 =>
        (f_X6_isWord T M b20 4).bind fun x21 =>
        if x21 = 0 then
        (
          (ldr T M a0 0 6).bind fun b23 =>
          (f_X6_isWord T M b23 5).bind fun x24 =>
          if x24 = 0 then
          (
            f_X5_readStatement_92 T M a0
          )
          else
          (
            if ¬ (gi M a0 6) = 0 then
            (
              f_X5_readStatement_92 T M a0
            )
            else
            (
              (f_X5_readShare T M a0).bind fun x27 =>
              (chk (x27.1 = 0 ∨ x27.1 = 1)).bind fun _ =>
              some (x27.1, x27.2)
            )
          )
        )
        else
        (
          (f_X5_readPrefer T M a0).bind fun x29 =>
          (chk (x29.1 = 0 ∨ x29.1 = 1)).bind fun _ =>
          some (x29.1, x29.2)
        )
      )
      else
      (
        (f_X5_readOffer T M a0).bind fun x31 =>
        (chk (x31.1 = 0 ∨ x31.1 = 1)).bind fun _ =>
        some (x31.1, x31.2)
      )
    )
    else
    (
      (f_X5_readNewLibrary T M a0).bind fun x33 =>
      (chk (x33.1 = 0 ∨ x33.1 = 1)).bind fun _ =>
      some (x33.1, x33.2)
    )
  )
  else
  (
    (f_X5_readNewName T M a0).bind fun x35 =>
    (chk (x35.1 = 0 ∨ x35.1 = 1)).bind fun _ =>
    some (x35.1, x35.2)
  )
def f_J7_copyOf_59c91 (T : gT) (M : gM) (a0 : Nat) (i1 : Int32) : Option (Nat × gT × gM) :=
  if ¬ i1 = (Int32.ofNat (alen T a0)) then
  (
    (gnewa T M 11 i1 800).bind fun x2 =>
    (acp x2.2.1 x2.2.2 a0 (0 : Int32) x2.1 (0 : Int32) (imin (Int32.ofNat (alen x2.2.1 a0)) i1)).bind fun M5 =>
    some (x2.1, x2.2.1, M5)
  )
  else
  (
    none
  )
def f_X5_readText_B58 (T : gT) (M : gM) (a0 : Nat) (i3 : Int32) : Option (((Int32 × gT × gM) ⊕ (gM)) ⊕ (Int32 × gM)) :=
  if (800 : Int32) ≤ i3 then
  (
    some (.inl (.inr M))
  )
  else
  (
    (ldr T M a0 0 6).bind fun b2 =>
    if (gi M b2 3) = 0 then
    (
      some (.inl (.inr M))
    )
    else
    (
      (f_X5_readStatement T M a0).bind fun x4 =>
      if x4.1 = 0 then
      (
        some (.inl (.inl ((0 : Int32), T, x4.2)))
      )
      else
      (
        (f_X5_readSign T x4.2 a0 (59 : Int32)).bind fun x6 =>
        if ¬ x6.1 = 0 then
        (
          some (.inr ((i3 + (1 : Int32)), x6.2))
        )
        else
        (
          some (.inl (.inl ((0 : Int32), T, x6.2)))
        )
      )
    )
  )
def f_X5_readText (T : gT) (M : gM) (a0 : Nat) (a1 : Nat) (i2 : Int32) : Option (Int32 × gT × gM) :=
  (ldr T M a0 1 0).bind fun b8 =>
  (f_X0_clear T M b8).bind fun x9 =>
  (f_X5_addCode T (si x9 a0 5 (0 : Int32)) a0 (-1 : Int32)).bind fun x10 =>
  (ldr T (si (si x10 a0 6 (0 : Int32)) a0 7 (0 : Int32)) a0 0 6).bind fun b11 =>
  (f_X6_startText T (si (si x10 a0 6 (0 : Int32)) a0 7 (0 : Int32)) b11 a1 i2).bind fun x12 =>
  (f_X5_readKeyword T x12 a0 0).bind fun x13 =>
  if x13.1 = 0 then
  (
    some ((0 : Int32), T, x13.2)
  )
  else
  (
    (f_X5_readSign T x13.2 a0 (59 : Int32)).bind fun x15 =>
    if ¬ x15.1 = 0 then
    (
      (gloop (fun x => f_X5_readText_B58 T x.2 a0 x.1) gFU ((0 : Int32), x15.2)).bind fun x17 => gcase x17 (fun r17 => some r17) fun e17 =>
      (ldr T e17 a0 1 0).bind fun b18 =>
      (gnew T e17 (7, 0)).bind fun x19 =>
      (ldr x19.2.1 x19.2.2 a0 4 11).bind fun b22 =>
      (f_J7_copyOf_59c91 x19.2.1 x19.2.2 b22 (gi x19.2.2 a0 5)).bind fun x23 =>
      (gkd x23.2.1 x23.1 11).bind fun _ =>
      (f_X7_init x23.2.1 x23.2.2 x19.1 x23.1).bind fun x28 =>
      some ((1 : Int32), x28.1, (sr x28.2 b18 4 (some x19.1)))
    )
    else
    (
      some ((0 : Int32), T, x15.2)
    )
  )
def f_X8_init (T : gT) (M : gM) (a0 : Nat) : Option (gT × gM) :=
  (gnew T M (10, 800)).bind fun x2 =>
  (gnew x2.2.1 (si (si (sr x2.2.2 a0 0 (some x2.1)) a0 1 (0 : Int32)) a0 2 (-1 : Int32)) (5, 0)).bind fun x4 =>
  (f_X5_init x4.2.1 x4.2.2 x4.1).bind fun x6 =>
  (gnew x6.1 (sr x6.2 a0 3 (some x4.1)) (0, 0)).bind fun x9 =>
  (f_X0_init x9.2.1 x9.2.2 x9.1).bind fun x11 =>
  (gnew x11.1 (sr x11.2 a0 4 (some x9.1)) (1, 0)).bind fun x14 =>
  (f_X1_init x14.2.1 x14.2.2 x14.1).bind fun x16 =>
  (gnew x16.1 (sr x16.2 a0 5 (some x14.1)) (4, 0)).bind fun x19 =>
  (f_X4_init x19.2.1 x19.2.2 x19.1).bind fun x21 =>
  (gnew x21.1 (sr x21.2 a0 6 (some x19.1)) (2, 0)).bind fun x24 =>
  (f_X2_init x24.2.1 x24.2.2 x24.1).bind fun x26 =>
  (gnew x26.1 (sr x26.2 a0 7 (some x24.1)) (11, 96)).bind fun x29 =>
  some (x29.2.1, (sr x29.2.2 a0 8 (some x29.1)))
def f_X8_putBytes_B3 (T : gT) (M : gM) (a0 : Nat) (i1 : Int32) (i2 : Int32) : Option ((gM) ⊕ (Int32 × gM)) :=
  if i2 < 0 then
  (
    some (.inl M)
  )
  else
  (
    if (800 : Int32) ≤ (gi M a0 1) then
    (
      some (.inl M)
    )
    else
    (
      (ldr T M a0 0 10).bind fun b3 =>
      (ast T M b3 (gi M a0 1) ((((i1 >>> (i2 &&& 31))).toInt8.toInt32).toInt8.toInt32)).bind fun M4 =>
      some (.inr ((i2 + (-8 : Int32)), (si M4 a0 1 ((gi M4 a0 1) + (1 : Int32)))))
    )
  )
def f_X8_putBytes (T : gT) (M : gM) (a0 : Nat) (i1 : Int32) : Option (gM) :=
  (gloop (fun x => f_X8_putBytes_B3 T x.2 a0 i1 x.1) gFU ((24 : Int32), M)).bind fun x5 =>
  some x5
def f_X8_append (T : gT) (M : gM) (a0 : Nat) (i1 : Int32) (i2 : Int32) (i3 : Int32) (i4 : Int32) (i5 : Int32) : Option (Int32 × gM) :=
  if ((gi M a0 1) + (20 : Int32)) ≤ (800 : Int32) then
  (
    (f_X8_putBytes T M a0 i1).bind fun x2 =>
    (f_X8_putBytes T x2 a0 i2).bind fun x3 =>
    (f_X8_putBytes T x3 a0 i3).bind fun x4 =>
    (f_X8_putBytes T x4 a0 i4).bind fun x5 =>
    (f_X8_putBytes T x5 a0 i5).bind fun x6 =>
    some ((gi x6 a0 1), x6)
  )
  else
  (
    some ((-1 : Int32), M)
  )
def f_X8_beginChange (T : gT) (M : gM) (a0 : Nat) : Option (gM) :=
  (ldr T M a0 7 2).bind fun b1 =>
  (ldr T M a0 4 0).bind fun b2 =>
  (f_X2_keep T M b1 b2).bind fun x3 =>
  (ldr T x3 a0 5 1).bind fun b4 =>
  (ldr T x3 b4 6 11).bind fun b5 =>
  (ldr T x3 a0 8 11).bind fun b6 =>
  (acp T x3 b5 (0 : Int32) b6 (0 : Int32) (96 : Int32)).bind fun M7 =>
  some M7
def f_X8_load_12 (T : gT) (M : gM)  : Option (Nat ⊕ (Int32 × gT × gM)) :=
  some (.inl 1)
def f_X8_load (T : gT) (M : gM) (a0 : Nat) (i1 : Int32) : Option (Nat ⊕ (Int32 × gT × gM)) :=
  if i1 < 0 then
  (
    f_X8_load_12 T M 
  )
  else
  (
    if i1 ≤ (gi M a0 1) then
    (
      (ldr T (si M a0 1 (0 : Int32)) a0 3 5).bind fun b3 =>
      (ldr T (si M a0 1 (0 : Int32)) a0 0 10).bind fun b4 =>
      (f_X5_readText T (si M a0 1 (0 : Int32)) b3 b4 i1).bind fun x5 =>
      if ¬ x5.1 = 0 then
      (
        (f_X8_beginChange x5.2.1 (si x5.2.2 a0 2 (-1 : Int32)) a0).bind fun x8 =>
        (ldr x5.2.1 x8 a0 4 0).bind fun b9 =>
        (ldr x5.2.1 x8 a0 3 5).bind fun b10 =>
        (ldr x5.2.1 x8 b10 1 0).bind fun b11 =>
        (f_X0_copyFrom x5.2.1 x8 b9 b11).bind fun x12 =>
        (ldr x5.2.1 x12 a0 5 1).bind fun b13 =>
        (ldr x5.2.1 x12 a0 4 0).bind fun b14 =>
        (f_X1_count x5.2.1 x12 b13 b14).bind fun x15 =>
        (ldr x5.2.1 x15 a0 4 0).bind fun b16 =>
        some (.inr ((gi x15 b16 1), x5.2.1, x15))
      )
      else
      (
        (ldr x5.2.1 x5.2.2 a0 3 5).bind fun b17 =>
        (ldr x5.2.1 (si x5.2.2 a0 2 (gi x5.2.2 b17 10)) a0 3 5).bind fun b18 =>
        some (.inr ((gi (si x5.2.2 a0 2 (gi x5.2.2 b17 10)) b18 9), x5.2.1, (si x5.2.2 a0 2 (gi x5.2.2 b17 10))))
      )
    )
    else
    (
      f_X8_load_12 T M 
    )
  )
def f_X8_errorOffset (T : gT) (M : gM) (a0 : Nat) : Option (Int32) :=
  some (gi M a0 2)
def f_X8_libraries (T : gT) (M : gM) (a0 : Nat) : Option (Int32) :=
  (ldr T M a0 4 0).bind fun b1 =>
  some (gi M b1 1)
def f_X8_names (T : gT) (M : gM) (a0 : Nat) : Option (Int32) :=
  (ldr T M a0 4 0).bind fun b1 =>
  some (gi M b1 2)
def f_X8_share (T : gT) (M : gM) (a0 : Nat) : Option (Int32) :=
  (ldr T M a0 4 0).bind fun b1 =>
  some (gi M b1 3)
def f_X8_requireLibrary_15 (T : gT) (M : gM)  : Option (Nat ⊕ Unit) :=
  some (.inl 2)
def f_X8_requireLibrary (T : gT) (M : gM) (a0 : Nat) (i1 : Int32) : Option (Nat ⊕ Unit) :=
  if i1 < 0 then
  (
    f_X8_requireLibrary_15 T M 
  )
  else
  (
    (ldr T M a0 4 0).bind fun b2 =>
    if i1 < (gi M b2 1) then
    (
      some (.inr ())
    )
    else
    (
      f_X8_requireLibrary_15 T M 
    )
  )
def f_X8_library (T : gT) (M : gM) (a0 : Nat) (i1 : Int32) (i2 : Int32) : Option (Nat ⊕ Int32) :=
  (f_X8_requireLibrary T M a0 i1).bind fun x1 =>
  gcase x1 (fun k1 => some (.inl k1)) fun r1 =>
  (ldr T M a0 4 0).bind fun b2 =>
  (ldr T M b2 0 14).bind fun b3 =>
  (aldr T M b3 i1 3).bind fun b4 =>
  if i2 = (0 : Int32) then
  (
    some (.inr (gi M b4 0))
  )
  else (
  if i2 = (1 : Int32) then
  (
    if (gi M b4 1) = 0 then
    (
      some (.inr (0 : Int32))
    )
    else
    (
      some (.inr (1 : Int32))
    )
  )
  else (
  if i2 = (2 : Int32) then
  (
    some (.inr (gi M b4 2))
  )
  else (
  if i2 = (3 : Int32) then
  (
    (f_X3_countOffers T M b4).bind fun x7 =>
    some (.inr x7)
  )
  else (
  if i2 = (4 : Int32) then
  (
    some (.inr (gi M b4 5))
  )
  else (
  if i2 = (5 : Int32) then
  (
    (ldr T M a0 5 1).bind fun b8 =>
    (ldr T M b8 0 11).bind fun b9 =>
    (ald T M b9 i1).bind fun v10 =>
    some (.inr v10)
  )
  else (
    some (.inl 1)
  ))))))
def f_X8_requireName_15 (T : gT) (M : gM)  : Option (Nat ⊕ Unit) :=
  some (.inl 2)
def f_X8_requireName (T : gT) (M : gM) (a0 : Nat) (i1 : Int32) : Option (Nat ⊕ Unit) :=
  if i1 < 0 then
  (
    f_X8_requireName_15 T M 
  )
  else
  (
    (ldr T M a0 4 0).bind fun b2 =>
    if i1 < (gi M b2 2) then
    (
      some (.inr ())
    )
    else
    (
      f_X8_requireName_15 T M 
    )
  )
def f_X8_offer (T : gT) (M : gM) (a0 : Nat) (i1 : Int32) (i2 : Int32) : Option (Nat ⊕ Int32) :=
  (f_X8_requireLibrary T M a0 i1).bind fun x1 =>
  gcase x1 (fun k1 => some (.inl k1)) fun r1 =>
  (f_X8_requireName T M a0 i2).bind fun x2 =>
  gcase x2 (fun k2 => some (.inl k2)) fun r2 =>
  (ldr T M a0 4 0).bind fun b3 =>
  (ldr T M b3 0 14).bind fun b4 =>
  (aldr T M b4 i1 3).bind fun b5 =>
  (ldr T M b5 3 11).bind fun b6 =>
  (ald T M b6 i2).bind fun v7 =>
  some (.inr v7)
def f_X8_candidates (T : gT) (M : gM) (a0 : Nat) (i1 : Int32) : Option (Nat ⊕ Int32) :=
  (f_X8_requireName T M a0 i1).bind fun x1 =>
  gcase x1 (fun k1 => some (.inl k1)) fun r1 =>
  (ldr T M a0 5 1).bind fun b2 =>
  (ldr T M b2 1 11).bind fun b3 =>
  (ald T M b3 i1).bind fun v4 =>
  some (.inr v4)
def f_X8_winner (T : gT) (M : gM) (a0 : Nat) (i1 : Int32) : Option (Nat ⊕ Int32) :=
  (f_X8_requireName T M a0 i1).bind fun x1 =>
  gcase x1 (fun k1 => some (.inl k1)) fun r1 =>
  (ldr T M a0 5 1).bind fun b2 =>
  (ldr T M b2 2 11).bind fun b3 =>
  (ald T M b3 i1).bind fun v4 =>
  some (.inr v4)
def f_X8_binding (T : gT) (M : gM) (a0 : Nat) (i1 : Int32) (i2 : Int32) : Option (Nat ⊕ Int32) :=
  (f_X8_requireLibrary T M a0 i1).bind fun x1 =>
  gcase x1 (fun k1 => some (.inl k1)) fun r1 =>
  (f_X8_requireName T M a0 i2).bind fun x2 =>
  gcase x2 (fun k2 => some (.inl k2)) fun r2 =>
  (ldr T M a0 5 1).bind fun b3 =>
  (ldr T M b3 6 11).bind fun b4 =>
  (f_X8_cellOf T M i1 i2).bind fun x5 =>
  (ald T M b4 x5).bind fun v6 =>
  some (.inr v6)
def f_X8_minority_69 (T : gT) (M : gM) (a0 : Nat) (i1 : Int32) (i2 : Int32) (i3 : Int32) (i4 : Int32) : Option ((Int32) ⊕ (Int32 × Int32)) :=
  some (.inr (i3, (i4 + (1 : Int32))))
def f_X8_minority_B20 (T : gT) (M : gM) (a0 : Nat) (i1 : Int32) (i2 : Int32) (i3 : Int32) (i4 : Int32) : Option ((Int32) ⊕ (Int32 × Int32)) :=
  (ldr T M a0 4 0).bind fun b1 =>
  if (gi M b1 1) ≤ i4 then
  (
    some (.inl i3)
  )
  else
  (
    (ldr T M a0 4 0).bind fun b3 =>
    (ldr T M b3 0 14).bind fun b4 =>
    (aldr T M b4 i4 3).bind fun b5 =>
    (f_X3_isLoaded T M b5).bind fun x6 =>
    if x6 = 0 then
    (
      f_X8_minority_69 T M a0 i1 i2 i3 i4
    )
    else
    (
      (ldr T M a0 5 1).bind fun b8 =>
      (ldr T M b8 6 11).bind fun b9 =>
      (f_X8_cellOf T M i4 i1).bind fun x10 =>
      (ald T M b9 x10).bind fun v11 =>
      if v11 = i2 then
      (
        f_X8_minority_69 T M a0 i1 i2 i3 i4
      )
      else
      (
        f_X8_minority_69 T M a0 i1 i2 (i3 + (1 : Int32)) i4
      )
    )
  )
def f_X8_minority (T : gT) (M : gM) (a0 : Nat) (i1 : Int32) : Option (Nat ⊕ Int32) :=
  (f_X8_requireName T M a0 i1).bind fun x13 =>
  gcase x13 (fun k13 => some (.inl k13)) fun r13 =>
  (ldr T M a0 5 1).bind fun b14 =>
  (ldr T M b14 2 11).bind fun b15 =>
  (ald T M b15 i1).bind fun v16 =>
  (gloop (fun x => f_X8_minority_B20 T M a0 i1 v16 x.1 x.2) gFU ((0 : Int32), (0 : Int32))).bind fun x17 =>
  some (.inr x17)
def f_X8_call (T : gT) (M : gM) (a0 : Nat) (i1 : Int32) (i2 : Int32) : Option (Nat ⊕ (Int32 × gM)) :=
  (f_X8_requireLibrary T M a0 i1).bind fun x1 =>
  gcase x1 (fun k1 => some (.inl k1)) fun r1 =>
  (f_X8_requireName T M a0 i2).bind fun x2 =>
  gcase x2 (fun k2 => some (.inl k2)) fun r2 =>
  (ldr T M a0 6 4).bind fun b3 =>
  (ldr T M a0 4 0).bind fun b4 =>
  (ldr T M a0 5 1).bind fun b5 =>
  (f_X4_follow T M b3 b4 b5 i1 i2).bind fun x6 =>
  (ldr T x6 a0 6 4).bind fun b7 =>
  some (.inr ((gi x6 b7 1), x6))
def f_X8_changedBindings_62 (T : gT) (M : gM) (a0 : Nat) (i1 : Int32) (i2 : Int32) (i3 : Int32) : Option ((Int32) ⊕ (Int32 × Int32)) :=
  some (.inr (i2, (i3 + (1 : Int32))))
def f_X8_changedBindings_B21 (T : gT) (M : gM) (a0 : Nat) (i1 : Int32) (i2 : Int32) (i3 : Int32) : Option ((Int32) ⊕ (Int32 × Int32)) :=
  (ldr T M a0 4 0).bind fun b1 =>
  if (gi M b1 2) ≤ i3 then
  (
    some (.inl i2)
  )
  else
  (
    (f_X8_cellOf T M i1 i3).bind fun x3 =>
    (ldr T M a0 5 1).bind fun b4 =>
    (ldr T M b4 6 11).bind fun b5 =>
    (ald T M b5 x3).bind fun v6 =>
    (ldr T M a0 8 11).bind fun b7 =>
    (ald T M b7 x3).bind fun v8 =>
    if v6 = v8 then
    (
      f_X8_changedBindings_62 T M a0 i1 i2 i3
    )
    else
    (
      f_X8_changedBindings_62 T M a0 i1 (i2 + (1 : Int32)) i3
    )
  )
def f_X8_changedBindings (T : gT) (M : gM) (a0 : Nat) (i1 : Int32) : Option (Int32) :=
  (ldr T M a0 4 0).bind fun b10 =>
  (ldr T M b10 0 14).bind fun b11 =>
  (aldr T M b11 i1 3).bind fun b12 =>
  (f_X3_isLoaded T M b12).bind fun x13 =>
  if ¬ x13 = 0 then
  (
    (gloop (fun x => f_X8_changedBindings_B21 T M a0 i1 x.1 x.2) gFU ((0 : Int32), (0 : Int32))).bind fun x15 =>
    some x15
  )
  else
  (
    some (0 : Int32)
  )
def f_X8_changedBindingsOfAll_B4 (T : gT) (M : gM) (a0 : Nat) (i1 : Int32) (i2 : Int32) : Option ((Int32) ⊕ (Int32 × Int32)) :=
  (ldr T M a0 4 0).bind fun b1 =>
  if (gi M b1 1) ≤ i2 then
  (
    some (.inl i1)
  )
  else
  (
    (f_X8_changedBindings T M a0 i2).bind fun x3 =>
    some (.inr ((i1 + x3), (i2 + (1 : Int32))))
  )
def f_X8_changedBindingsOfAll (T : gT) (M : gM) (a0 : Nat) : Option (Int32) :=
  (gloop (fun x => f_X8_changedBindingsOfAll_B4 T M a0 x.1 x.2) gFU ((0 : Int32), (0 : Int32))).bind fun x4 =>
  some x4
def f_X8_unload (T : gT) (M : gM) (a0 : Nat) (i1 : Int32) : Option (Nat ⊕ (Int32 × gM)) :=
  (f_X8_requireLibrary T M a0 i1).bind fun x1 =>
  gcase x1 (fun k1 => some (.inl k1)) fun r1 =>
  (ldr T M a0 4 0).bind fun b2 =>
  (ldr T M b2 0 14).bind fun b3 =>
  (aldr T M b3 i1 3).bind fun b4 =>
  (f_X3_isLoaded T M b4).bind fun x5 =>
  if ¬ x5 = 0 then
  (
    (f_X8_beginChange T M a0).bind fun x7 =>
    (ldr T x7 a0 4 0).bind fun b8 =>
    (f_X0_takeOut T x7 b8 i1).bind fun x9 =>
    (ldr T x9 a0 5 1).bind fun b10 =>
    (ldr T x9 a0 4 0).bind fun b11 =>
    (f_X1_count T x9 b10 b11).bind fun x12 =>
    (f_X8_changedBindingsOfAll T x12 a0).bind fun x13 =>
    some (.inr (x13, x12))
  )
  else
  (
    some (.inl 3)
  )
def f_X8_reload (T : gT) (M : gM) (a0 : Nat) (i1 : Int32) : Option (Nat ⊕ (Int32 × gM)) :=
  (f_X8_requireLibrary T M a0 i1).bind fun x1 =>
  gcase x1 (fun k1 => some (.inl k1)) fun r1 =>
  (ldr T M a0 4 0).bind fun b2 =>
  (ldr T M b2 0 14).bind fun b3 =>
  (aldr T M b3 i1 3).bind fun b4 =>
  (f_X3_isLoaded T M b4).bind fun x5 =>
  if x5 = 0 then
  (
    (f_X8_beginChange T M a0).bind fun x7 =>
    (ldr T x7 a0 4 0).bind fun b8 =>
    (f_X0_takeIn T x7 b8 i1).bind fun x9 =>
    (ldr T x9 a0 5 1).bind fun b10 =>
    (ldr T x9 a0 4 0).bind fun b11 =>
    (f_X1_count T x9 b10 b11).bind fun x12 =>
    (f_X8_changedBindingsOfAll T x12 a0).bind fun x13 =>
    (f_X8_changedBindings T x12 a0 i1).bind fun x14 =>
    some (.inr ((x13 - x14), x12))
  )
  else
  (
    some (.inl 3)
  )
def f_X8_changeOffer (T : gT) (M : gM) (a0 : Nat) (i1 : Int32) (i2 : Int32) (i3 : Int32) : Option (Int32 × gM) :=
  (f_X8_beginChange T M a0).bind fun x1 =>
  (ldr T x1 a0 4 0).bind fun b2 =>
  (ldr T x1 b2 0 14).bind fun b3 =>
  (aldr T x1 b3 i1 3).bind fun b4 =>
  (ldr T x1 b4 3 11).bind fun b5 =>
  (ast T x1 b5 i2 i3).bind fun M6 =>
  (ldr T M6 a0 5 1).bind fun b7 =>
  (ldr T M6 a0 4 0).bind fun b8 =>
  (f_X1_count T M6 b7 b8).bind fun x9 =>
  (ldr T x9 a0 5 1).bind fun b10 =>
  (ldr T x9 b10 2 11).bind fun b11 =>
  (ald T x9 b11 i2).bind fun v12 =>
  some (v12, x9)
def f_X8_offerValue_21 (T : gT) (M : gM)  : Option (Nat ⊕ (Int32 × gM)) :=
  some (.inl 1)
def f_X8_offerValue (T : gT) (M : gM) (a0 : Nat) (i1 : Int32) (i2 : Int32) (i3 : Int32) : Option (Nat ⊕ (Int32 × gM)) :=
  (f_X8_requireLibrary T M a0 i1).bind fun x1 =>
  gcase x1 (fun k1 => some (.inl k1)) fun r1 =>
  (f_X8_requireName T M a0 i2).bind fun x2 =>
  gcase x2 (fun k2 => some (.inl k2)) fun r2 =>
  if i3 < 0 then
  (
    f_X8_offerValue_21 T M 
  )
  else
  (
    if i3 ≤ (9999 : Int32) then
    (
      (f_X8_changeOffer T M a0 i1 i2 i3).bind fun x5 =>
      some (.inr (x5.1, x5.2))
    )
    else
    (
      f_X8_offerValue_21 T M 
    )
  )
def f_X8_offerForward (T : gT) (M : gM) (a0 : Nat) (i1 : Int32) (i2 : Int32) (i3 : Int32) : Option (Nat ⊕ (Int32 × gM)) :=
  (f_X8_requireLibrary T M a0 i1).bind fun x1 =>
  gcase x1 (fun k1 => some (.inl k1)) fun r1 =>
  (f_X8_requireName T M a0 i2).bind fun x2 =>
  gcase x2 (fun k2 => some (.inl k2)) fun r2 =>
  (f_X8_requireName T M a0 i3).bind fun x3 =>
  gcase x3 (fun k3 => some (.inl k3)) fun r3 =>
  (f_X8_changeOffer T M a0 i1 i2 ((-2 : Int32) - i3)).bind fun x4 =>
  some (.inr (x4.1, x4.2))
def f_X8_withdraw (T : gT) (M : gM) (a0 : Nat) (i1 : Int32) (i2 : Int32) : Option (Nat ⊕ (Int32 × gM)) :=
  (f_X8_requireLibrary T M a0 i1).bind fun x1 =>
  gcase x1 (fun k1 => some (.inl k1)) fun r1 =>
  (f_X8_requireName T M a0 i2).bind fun x2 =>
  gcase x2 (fun k2 => some (.inl k2)) fun r2 =>
  (ldr T M a0 4 0).bind fun b3 =>
  (ldr T M b3 0 14).bind fun b4 =>
  (aldr T M b4 i1 3).bind fun b5 =>
  (f_X3_hasOffer T M b5 i2).bind fun x6 =>
  if ¬ x6 = 0 then
  (
    (f_X8_changeOffer T M a0 i1 i2 (-1 : Int32)).bind fun x8 =>
    some (.inr (x8.1, x8.2))
  )
  else
  (
    some (.inl 3)
  )
def f_X8_setTrust_16 (T : gT) (M : gM)  : Option (Nat ⊕ (Int32 × gM)) :=
  some (.inl 1)
def f_X8_setTrust (T : gT) (M : gM) (a0 : Nat) (i1 : Int32) (i2 : Int32) : Option (Nat ⊕ (Int32 × gM)) :=
  (f_X8_requireLibrary T M a0 i1).bind fun x1 =>
  gcase x1 (fun k1 => some (.inl k1)) fun r1 =>
  if i2 < 0 then
  (
    f_X8_setTrust_16 T M 
  )
  else
  (
    if i2 ≤ (999 : Int32) then
    (
      (f_X8_beginChange T M a0).bind fun x4 =>
      (ldr T x4 a0 4 0).bind fun b5 =>
      (ldr T x4 b5 0 14).bind fun b6 =>
      (aldr T x4 b6 i1 3).bind fun b7 =>
      (ldr T x4 a0 4 0).bind fun b8 =>
      (ldr T x4 b8 0 14).bind fun b9 =>
      (aldr T x4 b9 i1 3).bind fun b10 =>
      (ldr T (si x4 b10 0 i2) a0 5 1).bind fun b11 =>
      (ldr T (si x4 b10 0 i2) a0 4 0).bind fun b12 =>
      (f_X1_count T (si x4 b10 0 i2) b11 b12).bind fun x13 =>
      some (.inr ((gi x4 b7 0), x13))
    )
    else
    (
      f_X8_setTrust_16 T M 
    )
  )
def f_X8_setKeeps (T : gT) (M : gM) (a0 : Nat) (i1 : Int32) (i2 : Int32) : Option (Nat ⊕ (Int32 × gM)) :=
  (f_X8_requireLibrary T M a0 i1).bind fun x1 =>
  gcase x1 (fun k1 => some (.inl k1)) fun r1 =>
  (f_X8_beginChange T M a0).bind fun x2 =>
  (ldr T x2 a0 4 0).bind fun b3 =>
  (ldr T x2 b3 0 14).bind fun b4 =>
  (aldr T x2 b4 i1 3).bind fun b5 =>
  (chk (i2 = 0 ∨ i2 = 1)).bind fun _ =>
  (ldr T (si x2 b5 1 i2) a0 5 1).bind fun b7 =>
  (ldr T (si x2 b5 1 i2) a0 4 0).bind fun b8 =>
  (f_X1_count T (si x2 b5 1 i2) b7 b8).bind fun x9 =>
  (f_X8_changedBindings T x9 a0 i1).bind fun x10 =>
  some (.inr (x10, x9))
def f_X8_setShare_10 (T : gT) (M : gM)  : Option (Nat ⊕ (Int32 × gM)) :=
  some (.inl 1)
def f_X8_setShare (T : gT) (M : gM) (a0 : Nat) (i1 : Int32) : Option (Nat ⊕ (Int32 × gM)) :=
  if i1 < 0 then
  (
    f_X8_setShare_10 T M 
  )
  else
  (
    if i1 ≤ (100 : Int32) then
    (
      (f_X8_beginChange T M a0).bind fun x3 =>
      (ldr T x3 a0 4 0).bind fun b4 =>
      (ldr T (si x3 b4 3 i1) a0 5 1).bind fun b5 =>
      (ldr T (si x3 b4 3 i1) a0 4 0).bind fun b6 =>
      (f_X1_count T (si x3 b4 3 i1) b5 b6).bind fun x7 =>
      (f_X8_changedBindingsOfAll T x7 a0).bind fun x8 =>
      some (.inr (x8, x7))
    )
    else
    (
      f_X8_setShare_10 T M 
    )
  )
def f_X8_undo (T : gT) (M : gM) (a0 : Nat) : Option (Int32 × gM) :=
  (ldr T M a0 7 2).bind fun b1 =>
  (ldr T M a0 4 0).bind fun b2 =>
  (f_X2_bringBack T M b1 b2).bind fun x3 =>
  if ¬ x3.1 = 0 then
  (
    (ldr T x3.2 a0 5 1).bind fun b5 =>
    (ldr T x3.2 a0 4 0).bind fun b6 =>
    (f_X1_count T x3.2 b5 b6).bind fun x7 =>
    (ldr T x7 a0 7 2).bind fun b8 =>
    some ((gi x7 b8 2), x7)
  )
  else
  (
    some ((-1 : Int32), x3.2)
  )
def f_X8_checksum_B52 (T : gT) (M : gM) (a0 : Nat) (j1 : Int64) (i3 : Int32) (i4 : Int32) : Option ((Int64 × gM) ⊕ (Int64 × Int32 × gM)) :=
  (ldr T M a0 4 0).bind fun b1 =>
  if (gi M b1 2) ≤ i4 then
  (
    some (.inl (j1, M))
  )
  else
  (
    (f_X8_offer T M a0 i3 i4).bind fun x3 =>
    gcase x3 (fun _ => none) fun r3 =>
    (f_X8_binding T M a0 i3 i4).bind fun x4 =>
    gcase x4 (fun _ => none) fun r4 =>
    (f_X8_call T M a0 i3 i4).bind fun x5 =>
    gcase x5 (fun _ => none) fun r5 =>
    some (.inr ((((31 : Int64) * (((31 : Int64) * (((31 : Int64) * j1) + r3.toInt64)) + r4.toInt64)) + r5.1.toInt64), (i4 + (1 : Int32)), r5.2))
  )
def f_X8_checksum_B22 (T : gT) (M : gM) (a0 : Nat) (j1 : Int64) (i3 : Int32) (i4 : Int32) : Option ((Int64) ⊕ (Int64 × Int32)) :=
  if (5 : Int32) < i4 then
  (
    some (.inl j1)
  )
  else
  (
    (f_X8_library T M a0 i3 i4).bind fun x7 =>
    gcase x7 (fun _ => none) fun r7 =>
    some (.inr ((((31 : Int64) * j1) + r7.toInt64), (i4 + (1 : Int32))))
  )
def f_X8_checksum_B8 (T : gT) (M : gM) (a0 : Nat) (j1 : Int64) (i3 : Int32) : Option ((Int64 × gM) ⊕ (Int64 × Int32 × gM)) :=
  (ldr T M a0 4 0).bind fun b8 =>
  if (gi M b8 1) ≤ i3 then
  (
    some (.inl (j1, M))
  )
  else
  (
    (gloop (fun x => f_X8_checksum_B22 T M a0 x.1 i3 x.2) gFU (j1, (0 : Int32))).bind fun x10 =>
    (gloop (fun x => f_X8_checksum_B52 T x.2.2 a0 x.1 i3 x.2.1) gFU (x10, (0 : Int32), M)).bind fun x11 =>
    some (.inr (x11.1, (i3 + (1 : Int32)), x11.2))
  )
def f_X8_checksum (T : gT) (M : gM) (a0 : Nat) : Option (Int64 × gM) :=
  (f_X8_share T M a0).bind fun x12 =>
  (gloop (fun x => f_X8_checksum_B8 T x.2.2 a0 x.1 x.2.1) gFU (x12.toInt64, (0 : Int32), M)).bind fun x13 =>
  some (x13.1, x13.2)
def f_L_load (T : gT) (M : gM) (a0 : Nat) (i1 : Int32) : Option (Int32 × gT × gM) :=
  (f_X8_load T M a0 i1).bind fun x1 =>
  gcase x1 (fun k1 =>
    if k1 = 1 then
    (
      some ((-2000000098 : Int32), T, M)
    )
    else (
    none)
  ) fun r1 =>
  some (r1.1, r1.2.1, r1.2.2)
def f_L_library (T : gT) (M : gM) (a0 : Nat) (i1 : Int32) (i2 : Int32) : Option (Int32) :=
  (f_X8_library T M a0 i1 i2).bind fun x1 =>
  gcase x1 (fun k1 =>
    if k1 = 2 then
    (
      some (-2000000097 : Int32)
    )
    else (
    if k1 = 1 then
    (
      some (-2000000098 : Int32)
    )
    else (
    none))
  ) fun r1 =>
  some r1
def f_L_offer (T : gT) (M : gM) (a0 : Nat) (i1 : Int32) (i2 : Int32) : Option (Int32) :=
  (f_X8_offer T M a0 i1 i2).bind fun x1 =>
  gcase x1 (fun k1 =>
    if k1 = 2 then
    (
      some (-2000000097 : Int32)
    )
    else (
    none)
  ) fun r1 =>
  some r1
def f_L_candidates (T : gT) (M : gM) (a0 : Nat) (i1 : Int32) : Option (Int32) :=
  (f_X8_candidates T M a0 i1).bind fun x1 =>
  gcase x1 (fun k1 =>
    if k1 = 2 then
    (
      some (-2000000097 : Int32)
    )
    else (
    none)
  ) fun r1 =>
  some r1
def f_L_winner (T : gT) (M : gM) (a0 : Nat) (i1 : Int32) : Option (Int32) :=
  (f_X8_winner T M a0 i1).bind fun x1 =>
  gcase x1 (fun k1 =>
    if k1 = 2 then
    (
      some (-2000000097 : Int32)
    )
    else (
    none)
  ) fun r1 =>
  some r1
def f_L_binding (T : gT) (M : gM) (a0 : Nat) (i1 : Int32) (i2 : Int32) : Option (Int32) :=
  (f_X8_binding T M a0 i1 i2).bind fun x1 =>
  gcase x1 (fun k1 =>
    if k1 = 2 then
    (
      some (-2000000097 : Int32)
    )
    else (
    none)
  ) fun r1 =>
  some r1
def f_L_minority (T : gT) (M : gM) (a0 : Nat) (i1 : Int32) : Option (Int32) :=
  (f_X8_minority T M a0 i1).bind fun x1 =>
  gcase x1 (fun k1 =>
    if k1 = 2 then
    (
      some (-2000000097 : Int32)
    )
    else (
    none)
  ) fun r1 =>
  some r1
def f_L_call (T : gT) (M : gM) (a0 : Nat) (i1 : Int32) (i2 : Int32) : Option (Int32 × gM) :=
  (f_X8_call T M a0 i1 i2).bind fun x1 =>
  gcase x1 (fun k1 =>
    if k1 = 2 then
    (
      some ((-2000000097 : Int32), M)
    )
    else (
    none)
  ) fun r1 =>
  some (r1.1, r1.2)
def f_L_unload (T : gT) (M : gM) (a0 : Nat) (i1 : Int32) : Option (Int32 × gM) :=
  (f_X8_unload T M a0 i1).bind fun x1 =>
  gcase x1 (fun k1 =>
    if k1 = 2 then
    (
      some ((-2000000097 : Int32), M)
    )
    else (
    if k1 = 3 then
    (
      some ((-2000000099 : Int32), M)
    )
    else (
    none))
  ) fun r1 =>
  some (r1.1, r1.2)
def f_L_reload (T : gT) (M : gM) (a0 : Nat) (i1 : Int32) : Option (Int32 × gM) :=
  (f_X8_reload T M a0 i1).bind fun x1 =>
  gcase x1 (fun k1 =>
    if k1 = 2 then
    (
      some ((-2000000097 : Int32), M)
    )
    else (
    if k1 = 3 then
    (
      some ((-2000000099 : Int32), M)
    )
    else (
    none))
  ) fun r1 =>
  some (r1.1, r1.2)
def f_L_offerValue (T : gT) (M : gM) (a0 : Nat) (i1 : Int32) (i2 : Int32) (i3 : Int32) : Option (Int32 × gM) :=
  (f_X8_offerValue T M a0 i1 i2 i3).bind fun x1 =>
  gcase x1 (fun k1 =>
    if k1 = 2 then
    (
      some ((-2000000097 : Int32), M)
    )
    else (
    if k1 = 1 then
    (
      some ((-2000000098 : Int32), M)
    )
    else (
    none))
  ) fun r1 =>
  some (r1.1, r1.2)
def f_L_offerForward (T : gT) (M : gM) (a0 : Nat) (i1 : Int32) (i2 : Int32) (i3 : Int32) : Option (Int32 × gM) :=
  (f_X8_offerForward T M a0 i1 i2 i3).bind fun x1 =>
  gcase x1 (fun k1 =>
    if k1 = 2 then
    (
      some ((-2000000097 : Int32), M)
    )
    else (
    none)
  ) fun r1 =>
  some (r1.1, r1.2)
def f_L_withdraw (T : gT) (M : gM) (a0 : Nat) (i1 : Int32) (i2 : Int32) : Option (Int32 × gM) :=
  (f_X8_withdraw T M a0 i1 i2).bind fun x1 =>
  gcase x1 (fun k1 =>
    if k1 = 2 then
    (
      some ((-2000000097 : Int32), M)
    )
    else (
    if k1 = 3 then
    (
      some ((-2000000099 : Int32), M)
    )
    else (
    none))
  ) fun r1 =>
  some (r1.1, r1.2)
def f_L_setTrust (T : gT) (M : gM) (a0 : Nat) (i1 : Int32) (i2 : Int32) : Option (Int32 × gM) :=
  (f_X8_setTrust T M a0 i1 i2).bind fun x1 =>
  gcase x1 (fun k1 =>
    if k1 = 2 then
    (
      some ((-2000000097 : Int32), M)
    )
    else (
    if k1 = 1 then
    (
      some ((-2000000098 : Int32), M)
    )
    else (
    none))
  ) fun r1 =>
  some (r1.1, r1.2)
def f_L_setKeeps (T : gT) (M : gM) (a0 : Nat) (i1 : Int32) (i2 : Int32) : Option (Int32 × gM) :=
  (f_X8_setKeeps T M a0 i1 i2).bind fun x1 =>
  gcase x1 (fun k1 =>
    if k1 = 2 then
    (
      some ((-2000000097 : Int32), M)
    )
    else (
    none)
  ) fun r1 =>
  some (r1.1, r1.2)
def f_L_setShare (T : gT) (M : gM) (a0 : Nat) (i1 : Int32) : Option (Int32 × gM) :=
  (f_X8_setShare T M a0 i1).bind fun x1 =>
  gcase x1 (fun k1 =>
    if k1 = 1 then
    (
      some ((-2000000098 : Int32), M)
    )
    else (
    none)
  ) fun r1 =>
  some (r1.1, r1.2)
