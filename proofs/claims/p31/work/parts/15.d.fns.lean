/-! FUNCTIONS of the law's methods -/
def f_J0_coder_7d493_14 (T : gT) (M : gM) (k0 : Int32) : Option (Int32) :=
  (chk (narrow .byte (.int k0) = .int k0)).bind fun _ =>
  some k0
def f_J0_coder_7d493 (T : gT) (M : gM) (a0 : Nat) : Option (Int32) :=
  f_J0_coder_7d493_14 T M (gi M a0 1)
def f_J0_length_8abf5 (T : gT) (M : gM) (a0 : Nat) : Option (Int32) :=
  (ldr T M a0 0 10).bind fun b1 =>
  (f_J0_coder_7d493 T M a0).bind fun x2 =>
  some ((Int32.ofNat (alen T b1)) >>> (x2 &&& 31))
def f_J0_isLatin1_aae02_18 (T : gT) (M : gM) (k0 : Int32) : Option (Int32) :=
  (chk (k0 = 0 ∨ k0 = 1)).bind fun _ =>
  some k0
def f_J0_isLatin1_aae02_17 (T : gT) (M : gM)  : Option (Int32) :=
  f_J0_isLatin1_aae02_18 T M (0 : Int32)
def f_J0_isLatin1_aae02 (T : gT) (M : gM) (a0 : Nat) : Option (Int32) :=
  if ¬ (gi M a0 1) = 0 then
  (
    f_J0_isLatin1_aae02_17 T M 
  )
  else
  (
    f_J0_isLatin1_aae02_18 T M (1 : Int32)
  )
def f_J1_charAt_3b067 (T : gT) (M : gM) (a0 : Nat) (i1 : Int32) : Option (Int32) :=
  (chk (0 ≤ i1 ∧ i1 < (Int32.ofNat (alen T a0)))).bind fun _ =>
  (ald T M a0 i1).bind fun v2 =>
  (chk (narrow .char (.int ((((v2 &&& (255 : Int32))).toUInt32 % 65536).toInt32)) = .int ((((v2 &&& (255 : Int32))).toUInt32 % 65536).toInt32))).bind fun _ =>
  some ((((v2 &&& (255 : Int32))).toUInt32 % 65536).toInt32)
def f_J0_charAt_5068e (T : gT) (M : gM) (a0 : Nat) (i1 : Int32) : Option (Int32) :=
  (f_J0_isLatin1_aae02 T M a0).bind fun x1 =>
  if x1 = 0 then
  (
    (ldr T M a0 0 10).bind fun b3 =>
    none
  )
  else
  (
    (ldr T M a0 0 10).bind fun b5 =>
    (f_J1_charAt_3b067 T M b5 i1).bind fun x6 =>
    (chk (narrow .char (.int x6) = .int x6)).bind fun _ =>
    some x6
  )
def f_J0_getBytes_840e7 (T : gT) (M : gM) (a0 : Nat) (a1 : Nat) (i2 : Int32) (i3 : Int32) : Option (gM) :=
  (f_J0_coder_7d493 T M a0).bind fun x1 =>
  if ¬ x1 = i3 then
  (
    (ldr T M a0 0 10).bind fun b3 =>
    (ldr T M a0 0 10).bind fun b4 =>
    none
  )
  else
  (
    (ldr T M a0 0 10).bind fun b6 =>
    (ldr T M a0 0 10).bind fun b7 =>
    (acpb T M b6 (0 : Int32) a1 (i2 <<< (i3 &&& 31)) (Int32.ofNat (alen T b7))).bind fun M8 =>
    some M8
  )
/-- the methods of a String that is a constant or was made -/
def fS_length (T : gT) (M : gM) (s : Nat) : Option Int32 := if (T[s]?).map Prod.fst = some 19 then f_J0_length_8abf5 T M s else (chk (gSB ≤ s)).bind fun _ => slen (s - gSB)
def fS_charAt (T : gT) (M : gM) (s : Nat) (k : Int32) : Option Int32 := if (T[s]?).map Prod.fst = some 19 then f_J0_charAt_5068e T M s k else (chk (gSB ≤ s)).bind fun _ => sch (s - gSB) k
def fS_coder (T : gT) (M : gM) (s : Nat) : Option Int32 := if (T[s]?).map Prod.fst = some 19 then f_J0_coder_7d493 T M s else (chk (gSB ≤ s ∧ s < gSB + 34)).bind fun _ => some 0
/-- the letters of the constant i, into the row a from dp on -/
def gcs (M : gM) (i a dp : Nat) : gM := (fun b j => if b = a ∧ dp ≤ j ∧ j < dp + gSl i then gSc i (j - dp) else M.1 b j, M.2.1, M.2.2)
def fS_getBytes (T : gT) (M : gM) (s a : Nat) (dp cd : Int32) : Option gM := if (T[s]?).map Prod.fst = some 19 then f_J0_getBytes_840e7 T M s a dp cd else (chk (gSB ≤ s ∧ s < gSB + 34 ∧ cd = 0 ∧ ¬ dp < 0 ∧ dp.toNatClampNeg + gSl (s - gSB) ≤ alen T a)).bind fun _ => some (gcs M (s - gSB) a dp.toNatClampNeg)
theorem gi_gcs (M : gM) (i a dp b j : Nat) : gi (gcs M i a dp) b j = if b = a ∧ dp ≤ j ∧ j < dp + gSl i then gSc i (j - dp) else gi M b j := rfl
theorem gl_gcs (M : gM) (i a dp b j : Nat) : gl (gcs M i a dp) b j = gl M b j := rfl
theorem gr_gcs (M : gM) (i a dp b j : Nat) : gr (gcs M i a dp) b j = gr M b j := rfl
def f_J5_length_8abf5 (T : gT) (M : gM) (a0 : Nat) : Option (Int32) :=
  some (gi M a0 3)
def f_J4_length_8abf5 (T : gT) (M : gM) (a0 : Nat) : Option (Int32) :=
  (f_J5_length_8abf5 T M a0).bind fun x1 =>
  some x1
def f_J5_init_d00df (T : gT) (M : gM) (a0 : Nat) (i1 : Int32) : Option ((gT × gM) × Nat × Nat) :=
  (gnewa T M 10 i1 100000).bind fun x2 => cadd 1 (i1).toNatClampNeg <|
  some ((x2.2.1, (si (sr x2.2.2 a0 0 (some x2.1)) a0 1 (0 : Int32))), 0, 0)
def f_J8_newLength_cabcc_21 (T : gT) (M : gM) (i0 : Int32) (i1 : Int32) : Option (Int32) :=
  none
def f_J8_newLength_cabcc (T : gT) (M : gM) (i0 : Int32) (i1 : Int32) (i2 : Int32) : Option (Int32) :=
  if (i0 + (imax i1 i2)) ≤ (0 : Int32) then
  (
    f_J8_newLength_cabcc_21 T M i0 i1
  )
  else
  (
    if (2147483639 : Int32) < (i0 + (imax i1 i2)) then
    (
      f_J8_newLength_cabcc_21 T M i0 i1
    )
    else
    (
      some (i0 + (imax i1 i2))
    )
  )
def f_J5_newCapacity_0f7a4 (T : gT) (M : gM) (a0 : Nat) (i1 : Int32) : Option (Int32) :=
  (ldr T M a0 0 10).bind fun b1 =>
  (f_J8_newLength_cabcc T M (Int32.ofNat (alen T b1)) ((i1 <<< ((gi M a0 1) &&& 31)) - (Int32.ofNat (alen T b1))) ((Int32.ofNat (alen T b1)) + ((2 : Int32) <<< ((gi M a0 1) &&& 31)))).bind fun x2 =>
  if ¬ x2 = (2147483647 : Int32) then
  (
    some (x2 >>> ((gi M a0 1) &&& 31))
  )
  else
  (
    none
  )
def f_J7_copyOf_9075b (T : gT) (M : gM) (a0 : Nat) (i1 : Int32) : Option ((Nat × gT × gM) × Nat × Nat) :=
  if ¬ i1 = (Int32.ofNat (alen T a0)) then
  (
    (gnewa T M 10 i1 100000).bind fun x2 => cadd 1 (i1).toNatClampNeg <|
    (acpb x2.2.1 x2.2.2 a0 (0 : Int32) x2.1 (0 : Int32) (imin (Int32.ofNat (alen x2.2.1 a0)) i1)).bind fun M5 =>
    some ((x2.1, x2.2.1, M5), 0, 0)
  )
  else
  (
    (gclone T M a0 10).bind fun x6 => cadd 1 (alen T a0) <|
    some ((T.length, (T ++ [(10, alen T a0)]), (gcl M a0 T.length)), 0, 0)
  )
def f_J5_ensureCapacityInternal_d00df (T : gT) (M : gM) (a0 : Nat) (i1 : Int32) : Option ((gT × gM) × Nat × Nat) :=
  (ldr T M a0 0 10).bind fun b1 =>
  if (i1 - ((Int32.ofNat (alen T b1)) >>> ((gi M a0 1) &&& 31))) ≤ 0 then
  (
    some ((T, M), 0, 0)
  )
  else
  (
    (ldr T M a0 0 10).bind fun b3 =>
    (f_J5_newCapacity_0f7a4 T M a0 i1).bind fun x4 =>
    (f_J7_copyOf_9075b T M b3 (x4 <<< ((gi M a0 1) &&& 31))).bind fun x5 => cadd x5.2.1 x5.2.2 <|
    (gkd x5.1.2.1 x5.1.1 10).bind fun _ =>
    some ((x5.1.2.1, (sr x5.1.2.2 a0 0 (some x5.1.1))), 0, 0)
  )
def f_J5_inflateIfNeededFor_a7421 (T : gT) (M : gM) (a0 : Nat) (s1 : Nat) : Option (Unit) :=
  (fS_coder T M s1).bind fun v1 =>
  if (gi M a0 1) = v1 then
  (
    some ()
  )
  else
  (
    none
  )
def f_J5_putStringAt_47b60 (T : gT) (M : gM) (a0 : Nat) (i1 : Int32) (s2 : Nat) : Option (gM) :=
  (f_J5_inflateIfNeededFor_a7421 T M a0 s2).bind fun x1 =>
  (ldr T M a0 0 10).bind fun b2 =>
  (fS_getBytes T M s2 b2 i1 (gi M a0 1)).bind fun M3 =>
  some M3
def f_J5_append_cf1ce (T : gT) (M : gM) (a0 : Nat) (s1 : Nat) : Option ((Nat × gT × gM) × Nat × Nat) :=
  (fS_length T M s1).bind fun v1 =>
  (f_J5_ensureCapacityInternal_d00df T M a0 ((gi M a0 3) + v1)).bind fun x2 => cadd x2.2.1 x2.2.2 <|
  (f_J5_putStringAt_47b60 x2.1.1 x2.1.2 a0 (gi x2.1.2 a0 3) s1).bind fun x5 =>
  some ((a0, x2.1.1, (si x5 a0 3 ((gi x5 a0 3) + v1))), 0, 0)
def f_J5_isLatin1_aae02_18 (T : gT) (M : gM) (k0 : Int32) : Option (Int32) :=
  (chk (k0 = 0 ∨ k0 = 1)).bind fun _ =>
  some k0
def f_J5_isLatin1_aae02_17 (T : gT) (M : gM)  : Option (Int32) :=
  f_J5_isLatin1_aae02_18 T M (0 : Int32)
def f_J5_isLatin1_aae02 (T : gT) (M : gM) (a0 : Nat) : Option (Int32) :=
  if ¬ (gi M a0 1) = 0 then
  (
    f_J5_isLatin1_aae02_17 T M 
  )
  else
  (
    f_J5_isLatin1_aae02_18 T M (1 : Int32)
  )
def f_J1_canEncode_fc78d_12 (T : gT) (M : gM) (k0 : Int32) : Option (Int32) :=
  (chk (k0 = 0 ∨ k0 = 1)).bind fun _ =>
  some k0
def f_J1_canEncode_fc78d (T : gT) (M : gM) (i0 : Int32) : Option (Int32) :=
  if (255 : Int32) < i0 then
  (
    f_J1_canEncode_fc78d_12 T M (0 : Int32)
  )
  else
  (
    f_J1_canEncode_fc78d_12 T M (1 : Int32)
  )
def f_J5_append_3fe6f_56 (T : gT) (M : gM) (a0 : Nat) (i1 : Int32) : Option ((Nat × gT × gM) × Nat × Nat) :=
  (ldr T M a0 0 10).bind fun b1 =>
  none
def f_J5_append_3fe6f_45 (T : gT) (M : gM) (a0 : Nat) (i1 : Int32) : Option ((Nat × gT × gM) × Nat × Nat) :=
  (f_J5_isLatin1_aae02 T M a0).bind fun x3 =>
  if x3 = 0 then
  (
    f_J5_append_3fe6f_56 T M a0 i1
  )
  else
  (
    none
  )
def f_J5_append_3fe6f (T : gT) (M : gM) (a0 : Nat) (i1 : Int32) : Option ((Nat × gT × gM) × Nat × Nat) :=
  (f_J5_ensureCapacityInternal_d00df T M a0 ((gi M a0 3) + (1 : Int32))).bind fun x6 => cadd x6.2.1 x6.2.2 <|
  (f_J5_isLatin1_aae02 x6.1.1 x6.1.2 a0).bind fun x8 =>
  if x8 = 0 then
  (
    f_J5_append_3fe6f_45 x6.1.1 x6.1.2 a0 i1
  )
  else
  (
    (f_J1_canEncode_fc78d x6.1.1 x6.1.2 i1).bind fun x10 =>
    if x10 = 0 then
    (
      f_J5_append_3fe6f_45 x6.1.1 x6.1.2 a0 i1
    )
    else
    (
      (ldr x6.1.1 x6.1.2 a0 0 10).bind fun b12 =>
      (ast x6.1.1 (si x6.1.2 a0 3 ((gi x6.1.2 a0 3) + (1 : Int32))) b12 (gi x6.1.2 a0 3) (((i1).toInt8.toInt32).toInt8.toInt32)).bind fun M13 =>
      some ((a0, x6.1.1, M13), 0, 0)
    )
  )
def f_J6_stringSize_0f7a4_B16 (T : gT) (M : gM) (i0 : Int32) (i1 : Int32) (i2 : Int32) (i3 : Int32) : Option ((Int32) ⊕ (Int32 × Int32)) :=
  if (10 : Int32) ≤ i3 then
  (
    some (.inl ((10 : Int32) + i1))
  )
  else
  (
    if i0 ≤ i2 then
    (
      some (.inr (((10 : Int32) * i2), (i3 + (1 : Int32))))
    )
    else
    (
      some (.inl (i3 + i1))
    )
  )
def f_J6_stringSize_0f7a4_11 (T : gT) (M : gM) (i0 : Int32) (i1 : Int32) : Option (Int32) :=
  (gloop (fun x => f_J6_stringSize_0f7a4_B16 T M i0 i1 x.1 x.2) gFU ((-10 : Int32), (1 : Int32))).bind fun x3 =>
  some x3
def f_J6_stringSize_0f7a4 (T : gT) (M : gM) (i0 : Int32) : Option (Int32) :=
  if i0 < 0 then
  (
    f_J6_stringSize_0f7a4_11 T M i0 (1 : Int32)
  )
  else
  (
    f_J6_stringSize_0f7a4_11 T M (-i0) (0 : Int32)
  )
def f_J6_getChars_ba4f3_B22 (T : gT) (M : gM) (i0 : Int32) (a2 : Nat) (i5 : Int32) (i6 : Int32) : Option ((Int32 × Int32 × gM) ⊕ (Int32 × Int32 × gM)) :=
  if (-100 : Int32) < i0 then
  (
    some (.inl (i0, i5, M))
  )
  else
  (
    (chk (¬ ((((i0 / (100 : Int32)) * (100 : Int32)) - i0) < 0 ∨ 100 ≤ ((((i0 / (100 : Int32)) * (100 : Int32)) - i0)).toNatClampNeg))).bind fun _ =>
    (ast T M a2 (i5 + (-1 : Int32)) (((gDg 2002 ((((i0 / (100 : Int32)) * (100 : Int32)) - i0)).toNatClampNeg)).toInt8.toInt32)).bind fun M3 =>
    (chk (¬ ((((i0 / (100 : Int32)) * (100 : Int32)) - i0) < 0 ∨ 100 ≤ ((((i0 / (100 : Int32)) * (100 : Int32)) - i0)).toNatClampNeg))).bind fun _ =>
    (ast T M3 a2 ((i5 + (-1 : Int32)) + (-1 : Int32)) (((gDg 2003 ((((i0 / (100 : Int32)) * (100 : Int32)) - i0)).toNatClampNeg)).toInt8.toInt32)).bind fun M5 =>
    some (.inr ((i0 / (100 : Int32)), ((i5 + (-1 : Int32)) + (-1 : Int32)), M5))
  )
def f_J6_getChars_ba4f3_104 (T : gT) (M : gM) (a2 : Nat) (i5 : Int32) (i6 : Int32) : Option (Int32 × gM) :=
  if i6 = 0 then
  (
    some (i5, M)
  )
  else
  (
    (ast T M a2 (i5 + (-1 : Int32)) (((45 : Int32)).toInt8.toInt32)).bind fun M7 =>
    some ((i5 + (-1 : Int32)), M7)
  )
def f_J6_getChars_ba4f3_12 (T : gT) (M : gM) (i0 : Int32) (a2 : Nat) (i5 : Int32) (k0 : Int32) : Option (Int32 × gM) :=
  if ¬ k0 = 0 then
  (
    (gloop (fun x => f_J6_getChars_ba4f3_B22 T x.2.2 x.1 a2 x.2.1 k0) gFU (i0, i5, M)).bind fun x9 =>
    (chk (¬ ((-x9.1) < 0 ∨ 100 ≤ ((-x9.1)).toNatClampNeg))).bind fun _ =>
    (ast T x9.2.2 a2 (x9.2.1 + (-1 : Int32)) (((gDg 2002 ((-x9.1)).toNatClampNeg)).toInt8.toInt32)).bind fun M11 =>
    if (-9 : Int32) ≤ x9.1 then
    (
      f_J6_getChars_ba4f3_104 T M11 a2 (x9.2.1 + (-1 : Int32)) k0
    )
    else
    (
      (chk (¬ ((-x9.1) < 0 ∨ 100 ≤ ((-x9.1)).toNatClampNeg))).bind fun _ =>
      (ast T M11 a2 ((x9.2.1 + (-1 : Int32)) + (-1 : Int32)) (((gDg 2003 ((-x9.1)).toNatClampNeg)).toInt8.toInt32)).bind fun M14 =>
      f_J6_getChars_ba4f3_104 T M14 a2 ((x9.2.1 + (-1 : Int32)) + (-1 : Int32)) k0
    )
  )
  else
  (
    (gloop (fun x => f_J6_getChars_ba4f3_B22 T x.2.2 x.1 a2 x.2.1 k0) gFU ((-i0), i5, M)).bind fun x15 =>
    (chk (¬ ((-x15.1) < 0 ∨ 100 ≤ ((-x15.1)).toNatClampNeg))).bind fun _ =>
    (ast T x15.2.2 a2 (x15.2.1 + (-1 : Int32)) (((gDg 2002 ((-x15.1)).toNatClampNeg)).toInt8.toInt32)).bind fun M17 =>
    if (-9 : Int32) ≤ x15.1 then
    (
      f_J6_getChars_ba4f3_104 T M17 a2 (x15.2.1 + (-1 : Int32)) k0
    )
    else
    (
      (chk (¬ ((-x15.1) < 0 ∨ 100 ≤ ((-x15.1)).toNatClampNeg))).bind fun _ =>
      (ast T M17 a2 ((x15.2.1 + (-1 : Int32)) + (-1 : Int32)) (((gDg 2003 ((-x15.1)).toNatClampNeg)).toInt8.toInt32)).bind fun M20 =>
      f_J6_getChars_ba4f3_104 T M20 a2 ((x15.2.1 + (-1 : Int32)) + (-1 : Int32)) k0
    )
  )
def f_J6_getChars_ba4f3 (T : gT) (M : gM) (i0 : Int32) (i1 : Int32) (a2 : Nat) : Option (Int32 × gM) :=
  if 0 ≤ i0 then
  (
    f_J6_getChars_ba4f3_12 T M i0 a2 i1 (0 : Int32)
  )
  else
  (
    f_J6_getChars_ba4f3_12 T M i0 a2 i1 (1 : Int32)
  )
def f_J5_append_c97b9_48 (T : gT) (M : gM) (a0 : Nat) (i3 : Int32) : Option ((Nat × gT × gM) × Nat × Nat) :=
  some ((a0, T, (si M a0 3 i3)), 0, 0)
def f_J5_append_c97b9 (T : gT) (M : gM) (a0 : Nat) (i1 : Int32) : Option ((Nat × gT × gM) × Nat × Nat) :=
  (f_J6_stringSize_0f7a4 T M i1).bind fun x1 =>
  (f_J5_ensureCapacityInternal_d00df T M a0 ((gi M a0 3) + x1)).bind fun x2 => cadd x2.2.1 x2.2.2 <|
  (f_J5_isLatin1_aae02 x2.1.1 x2.1.2 a0).bind fun x4 =>
  if x4 = 0 then
  (
    (ldr x2.1.1 x2.1.2 a0 0 10).bind fun b6 =>
    none
  )
  else
  (
    (ldr x2.1.1 x2.1.2 a0 0 10).bind fun b8 =>
    (f_J6_getChars_ba4f3 x2.1.1 x2.1.2 i1 ((gi M a0 3) + x1) b8).bind fun x9 =>
    f_J5_append_c97b9_48 x2.1.1 x9.2 a0 ((gi M a0 3) + x1)
  )
def f_J5_getValue_6d5f1 (T : gT) (M : gM) (a0 : Nat) : Option (Nat) :=
  (ldr T M a0 0 10).bind fun b1 =>
  some b1
def f_J7_checkLength_df160 (T : gT) (M : gM) (i0 : Int32) (i1 : Int32) : Option (Unit) :=
  if i0 ≤ i1 then
  (
    some ()
  )
  else
  (
    none
  )
def f_J7_copyOfRangeByte_39247 (T : gT) (M : gM) (a0 : Nat) (i1 : Int32) (i2 : Int32) : Option ((Nat × gT × gM) × Nat × Nat) :=
  (f_J7_checkLength_df160 T M i1 i2).bind fun x1 =>
  (gnewa T M 10 (i2 - i1) 100000).bind fun x2 => cadd 1 ((i2 - i1)).toNatClampNeg <|
  (acpb x2.2.1 x2.2.2 a0 i1 x2.1 (0 : Int32) (imin ((Int32.ofNat (alen x2.2.1 a0)) - i1) (i2 - i1))).bind fun M5 =>
  some ((x2.1, x2.2.1, M5), 0, 0)
def f_J7_copyOfRange_39247_10 (T : gT) (M : gM) (a0 : Nat) (i1 : Int32) (i2 : Int32) : Option ((Nat × gT × gM) × Nat × Nat) :=
  (f_J7_copyOfRangeByte_39247 T M a0 i1 i2).bind fun x1 => cadd x1.2.1 x1.2.2 <|
  (gkd x1.1.2.1 x1.1.1 10).bind fun _ =>
  some ((x1.1.1, x1.1.2.1, x1.1.2.2), 0, 0)
def f_J7_copyOfRange_39247 (T : gT) (M : gM) (a0 : Nat) (i1 : Int32) (i2 : Int32) : Option ((Nat × gT × gM) × Nat × Nat) :=
  if ¬ i1 = 0 then
  (
    f_J7_copyOfRange_39247_10 T M a0 i1 i2
  )
  else
  (
    if i2 = (Int32.ofNat (alen T a0)) then
    (
      (gclone T M a0 10).bind fun x6 => cadd 1 (alen T a0) <|
      some ((T.length, (T ++ [(10, alen T a0)]), (gcl M a0 T.length)), 0, 0)
    )
    else
    (
      f_J7_copyOfRange_39247_10 T M a0 i1 i2
    )
  )
def f_J0_init_db425_79 (T : gT) (M : gM) (a0 : Nat) (a3 : Nat) (i4 : Int32) : Option ((gT × gM) × Nat × Nat) :=
  (f_J7_copyOfRange_39247 T (si M a0 1 (1 : Int32)) a3 (0 : Int32) (i4 <<< ((1 : Int32) &&& 31))).bind fun x1 => cadd x1.2.1 x1.2.2 <|
  (gkd x1.1.2.1 x1.1.1 10).bind fun _ =>
  some ((x1.1.2.1, (sr x1.1.2.2 a0 0 (some x1.1.1))), 0, 0)
def f_J0_init_db425 (T : gT) (M : gM) (a0 : Nat) (a1 : Nat) (o2 : Option Nat) : Option ((gT × gM) × Nat × Nat) :=
  (f_J5_getValue_6d5f1 T M a1).bind fun x6 =>
  (gkd T x6 10).bind fun _ =>
  (f_J4_length_8abf5 T M a1).bind fun x8 =>
  (f_J5_isLatin1_aae02 T M a1).bind fun x9 =>
  if x9 = 0 then
  (
    if (gi M a1 2) = 0 then
    (
      f_J0_init_db425_79 T M a0 x6 x8
    )
    else
    (
      none
    )
  )
  else
  (
    (f_J7_copyOfRange_39247 T (si M a0 1 (0 : Int32)) x6 (0 : Int32) x8).bind fun x13 => cadd x13.2.1 x13.2.2 <|
    (gkd x13.1.2.1 x13.1.1 10).bind fun _ =>
    some ((x13.1.2.1, (sr x13.1.2.2 a0 0 (some x13.1.1))), 0, 0)
  )
def f_J0_init_81219 (T : gT) (M : gM) (a0 : Nat) (a1 : Nat) : Option ((gT × gM) × Nat × Nat) :=
  (f_J0_init_db425 T M a0 a1 none).bind fun x1 => cadd x1.2.1 x1.2.2 <|
  some ((x1.1.1, x1.1.2), 0, 0)
def f_J4_init_da8c8 (T : gT) (M : gM) (a0 : Nat) : Option ((gT × gM) × Nat × Nat) :=
  (f_J5_init_d00df T M a0 (16 : Int32)).bind fun x1 => cadd x1.2.1 x1.2.2 <|
  some ((x1.1.1, x1.1.2), 0, 0)
def f_J4_append_15ec4 (T : gT) (M : gM) (a0 : Nat) (s1 : Nat) : Option ((Nat × gT × gM) × Nat × Nat) :=
  (f_J5_append_cf1ce T M a0 s1).bind fun x1 => cadd x1.2.1 x1.2.2 <|
  (gkd x1.1.2.1 x1.1.1 20).bind fun _ =>
  some ((a0, x1.1.2.1, x1.1.2.2), 0, 0)
def f_J4_append_cf468 (T : gT) (M : gM) (a0 : Nat) (i1 : Int32) : Option ((Nat × gT × gM) × Nat × Nat) :=
  (f_J5_append_3fe6f T M a0 i1).bind fun x1 => cadd x1.2.1 x1.2.2 <|
  (gkd x1.1.2.1 x1.1.1 20).bind fun _ =>
  some ((a0, x1.1.2.1, x1.1.2.2), 0, 0)
def f_J4_append_bf812 (T : gT) (M : gM) (a0 : Nat) (i1 : Int32) : Option ((Nat × gT × gM) × Nat × Nat) :=
  (f_J5_append_c97b9 T M a0 i1).bind fun x1 => cadd x1.2.1 x1.2.2 <|
  (gkd x1.1.2.1 x1.1.1 20).bind fun _ =>
  some ((a0, x1.1.2.1, x1.1.2.2), 0, 0)
def f_J4_toString_0e30d (T : gT) (M : gM) (a0 : Nat) : Option ((Nat × gT × gM) × Nat × Nat) :=
  (gnew T M (19, 0)).bind fun x1 => cadd 1 4 <|
  (f_J0_init_81219 x1.2.1 x1.2.2 x1.1 a0).bind fun x3 => cadd x3.2.1 x3.2.2 <|
  some ((x1.1, x3.1.1, x3.1.2), 0, 0)
def f_X9_init (T : gT) (M : gM) (a0 : Nat) : Option ((gT × gM) × Nat × Nat) :=
  (gnew T M (11, 0)).bind fun x2 => cadd 1 0 <|
  some ((x2.2.1, (sr x2.2.2 a0 2 (some x2.1))), 0, 0)
def f_X9_copy (T : gT) (M : gM) (a0 : Nat) : Option ((Nat × gT × gM) × Nat × Nat) :=
  (gnew T M (9, 0)).bind fun x1 => cadd 1 4 <|
  (f_X9_init x1.2.1 x1.2.2 x1.1).bind fun x3 => cadd x3.2.1 x3.2.2 <|
  (chk ((gi (si x3.1.2 x1.1 0 (gi x3.1.2 a0 0)) a0 1) = 0 ∨ (gi (si x3.1.2 x1.1 0 (gi x3.1.2 a0 0)) a0 1) = 1)).bind fun _ =>
  (ldr x3.1.1 (si (si x3.1.2 x1.1 0 (gi x3.1.2 a0 0)) x1.1 1 (gi (si x3.1.2 x1.1 0 (gi x3.1.2 a0 0)) a0 1)) a0 2 11).bind fun b7 =>
  (ldr x3.1.1 (sr (si (si x3.1.2 x1.1 0 (gi x3.1.2 a0 0)) x1.1 1 (gi (si x3.1.2 x1.1 0 (gi x3.1.2 a0 0)) a0 1)) x1.1 2 (some b7)) a0 3 11).bind fun b8 =>
  (gclone x3.1.1 (sr (si (si x3.1.2 x1.1 0 (gi x3.1.2 a0 0)) x1.1 1 (gi (si x3.1.2 x1.1 0 (gi x3.1.2 a0 0)) a0 1)) x1.1 2 (some b7)) b8 11).bind fun x9 => cadd 1 (alen x3.1.1 b8) <|
  some ((x1.1, (x3.1.1 ++ [(11, alen x3.1.1 b8)]), (sr (gcl (sr (si (si x3.1.2 x1.1 0 (gi x3.1.2 a0 0)) x1.1 1 (gi (si x3.1.2 x1.1 0 (gi x3.1.2 a0 0)) a0 1)) x1.1 2 (some b7)) b8 x3.1.1.length) x1.1 3 (some x3.1.1.length))), 0, 0)
def f_X9_offered_34 (T : gT) (M : gM) (i1 : Int32) (a2 : Nat) (i3 : Int32) (i4 : Int32) : Option ((Int32) ⊕ (Int32 × Int32)) :=
  some (.inr (i1, (i4 + (1 : Int32))))
def f_X9_offered_B13 (T : gT) (M : gM) (i1 : Int32) (a2 : Nat) (i3 : Int32) (i4 : Int32) : Option ((Int32) ⊕ (Int32 × Int32)) :=
  if i3 ≤ i4 then
  (
    some (.inl i1)
  )
  else
  (
    (ald T M a2 i4).bind fun v2 =>
    if v2 = (-1 : Int32) then
    (
      f_X9_offered_34 T M i1 a2 i3 i4
    )
    else
    (
      f_X9_offered_34 T M (i1 + (1 : Int32)) a2 i3 i4
    )
  )
def f_X9_offered (T : gT) (M : gM) (a0 : Nat) : Option (Int32) :=
  (ldr T M a0 3 11).bind fun b4 =>
  (gloop (fun x => f_X9_offered_B13 T M x.1 b4 (Int32.ofNat (alen T b4)) x.2) gFU ((0 : Int32), (0 : Int32))).bind fun x5 =>
  some x5
def f_X10_init (T : gT) (M : gM) (a0 : Nat) : Option ((gT × gM) × Nat × Nat) :=
  (gnew T (si M a0 1 (50 : Int32)) (21, 0)).bind fun x2 => cadd 1 0 <|
  (gnew x2.2.1 (sr x2.2.2 a0 2 (some x2.1)) (11, 0)).bind fun x4 => cadd 1 0 <|
  some ((x4.2.1, (sr x4.2.2 a0 3 (some x4.1))), 0, 0)
def f_X10_copy_B38 (T : gT) (M : gM) (a0 : Nat) (a1 : Nat) (i2 : Int32) : Option (((gT × gM) ⊕ (Int32 × gT × gM)) × Nat × Nat) :=
  (gkd T a0 16).bind fun _ =>
  (gkd T a1 16).bind fun _ =>
  (ldr T M a0 2 21).bind fun b4 =>
  if (Int32.ofNat (alen T b4)) ≤ i2 then
  (
    some (.inl (T, M), 0, 0)
  )
  else
  (
    (ldr T M a1 2 21).bind fun b6 =>
    (ldr T M a0 2 21).bind fun b7 =>
    (aldr T M b7 i2 9).bind fun b8 =>
    (f_X9_copy T M b8).bind fun x9 => cadd x9.2.1 x9.2.2 <|
    (gkd x9.1.2.1 x9.1.1 9).bind fun _ =>
    (astr x9.1.2.1 x9.1.2.2 b6 i2 x9.1.1).bind fun M14 =>
    some (.inr ((i2 + (1 : Int32)), x9.1.2.1, M14), 0, 0)
  )
def f_X10_copy (T : gT) (M : gM) (a0 : Nat) : Option ((Nat × gT × gM) × Nat × Nat) :=
  (gnew T M (16, 0)).bind fun x15 => cadd 1 5 <|
  (f_X10_init x15.2.1 x15.2.2 x15.1).bind fun x17 => cadd x17.2.1 x17.2.2 <|
  (ldr x17.1.1 (si (si x17.1.2 x15.1 0 (gi x17.1.2 a0 0)) x15.1 1 (gi (si x17.1.2 x15.1 0 (gi x17.1.2 a0 0)) a0 1)) a0 2 21).bind fun b20 =>
  (gnewa x17.1.1 (si (si x17.1.2 x15.1 0 (gi x17.1.2 a0 0)) x15.1 1 (gi (si x17.1.2 x15.1 0 (gi x17.1.2 a0 0)) a0 1)) 21 (Int32.ofNat (alen x17.1.1 b20)) 100000).bind fun x21 => cadd 1 ((Int32.ofNat (alen x17.1.1 b20))).toNatClampNeg <|
  (gloopc (fun x => f_X10_copy_B38 x.2.1 x.2.2 a0 x15.1 x.1) gFU ((0 : Int32), x21.2.1, (sr x21.2.2 x15.1 2 (some x21.1)))).bind fun x24 => cadd x24.2.1 x24.2.2 <|
  (ldr x24.1.1 x24.1.2 a0 3 11).bind fun b27 =>
  (gko x24.1.1 (gr (sr x24.1.2 x15.1 3 (some b27)) a0 4) 17).bind fun _ =>
  some ((x15.1, x24.1.1, (sr (sr x24.1.2 x15.1 3 (some b27)) x15.1 4 (gr (sr x24.1.2 x15.1 3 (some b27)) a0 4))), 0, 0)
def f_X10_rank_B2 (T : gT) (M : gM) (a0 : Nat) (i1 : Int32) (i2 : Int32) : Option ((Int32) ⊕ (Int32)) :=
  (ldr T M a0 3 11).bind fun b1 =>
  if (Int32.ofNat (alen T b1)) ≤ i2 then
  (
    some (.inl (-1 : Int32))
  )
  else
  (
    (ldr T M a0 3 11).bind fun b3 =>
    (ald T M b3 i2).bind fun v4 =>
    if ¬ v4 = i1 then
    (
      some (.inr (i2 + (1 : Int32)))
    )
    else
    (
      some (.inl i2)
    )
  )
def f_X10_rank (T : gT) (M : gM) (a0 : Nat) (i1 : Int32) : Option (Int32) :=
  (gloop (fun x => f_X10_rank_B2 T M a0 i1 x) gFU (0 : Int32)).bind fun x6 =>
  some x6
def f_L_has_36 (T : gT) (M : gM) (i1 : Int32) (a3 : Nat) (i4 : Int32) (i5 : Int32) (k0 : Int32) (k1 : Int32) : Option ((Int32) ⊕ (Int32 × Int32)) :=
  some (.inr ((k0 ||| k1), (i5 + (1 : Int32))))
def f_L_has_B11 (T : gT) (M : gM) (i1 : Int32) (i2 : Int32) (a3 : Nat) (i4 : Int32) (i5 : Int32) : Option ((Int32) ⊕ (Int32 × Int32)) :=
  if i4 ≤ i5 then
  (
    some (.inl i2)
  )
  else
  (
    (ald T M a3 i5).bind fun v2 =>
    if ¬ v2 = i1 then
    (
      f_L_has_36 T M i1 a3 i4 i5 i2 (0 : Int32)
    )
    else
    (
      f_L_has_36 T M i1 a3 i4 i5 i2 (1 : Int32)
    )
  )
def f_L_has (T : gT) (M : gM) (a0 : Nat) (i1 : Int32) : Option (Int32) :=
  (gloop (fun x => f_L_has_B11 T M i1 x.1 a0 (Int32.ofNat (alen T a0)) x.2) gFU ((0 : Int32), (0 : Int32))).bind fun x4 =>
  (chk (x4 = 0 ∨ x4 = 1)).bind fun _ =>
  some x4
abbrev gRecT_X11_value : Type := gT → gM → Nat → Nat → Option (Int64)
def f_X11_value_109 (rec : gRecT_X11_value) (T : gT) (M : gM) (w0 : Int64) : Option (Int64) :=
  some (lmax (-1000000 : Int64) (lmin (1000000 : Int64) w0))
def f_X11_value_29 (rec : gRecT_X11_value) (T : gT) (M : gM) (w0 : Int64) : Option (Int64) :=
  some w0
def f_X11_value (rec : gRecT_X11_value) (T : gT) (M : gM) (a0 : Nat) (a1 : Nat) : Option (Int64) :=
  if (2 : Int32) ≤ (gi M a0 0) then
  (
    (ldr T M a0 2 17).bind fun b4 =>
    (rec T M b4 a1).bind fun x5 =>
    (ldr T M a0 3 17).bind fun b6 =>
    (rec T M b6 a1).bind fun x7 =>
    if ¬ (gi M a0 0) = (2 : Int32) then
    (
      if ¬ (gi M a0 0) = (3 : Int32) then
      (
        if ¬ (gi M a0 0) = (4 : Int32) then
        (
          if ¬ (lg_cmp x7 (0 : Int64)) = 0 then
          (
            (chk (¬ x7 = 0)).bind fun _ =>
            f_X11_value_109 rec T M (x5 / x7)
          )
          else
          (
            f_X11_value_109 rec T M (0 : Int64)
          )
        )
        else
        (
          f_X11_value_109 rec T M (x5 * x7)
        )
      )
      else
      (
        f_X11_value_109 rec T M (x5 - x7)
      )
    )
    else
    (
      f_X11_value_109 rec T M (x5 + x7)
    )
  )
  else
  (
    if ¬ (gi M a0 0) = 0 then
    (
      (aldl T M a1 (gi M a0 1)).bind fun v14 =>
      f_X11_value_29 rec T M v14
    )
    else
    (
      f_X11_value_29 rec T M (((gi M a0 1)).toInt64)
    )
  )
def g_X11_value : Nat → gRecT_X11_value
  | 0 => fun _ _ _ _ => none
  | n + 1 => f_X11_value (g_X11_value n)
def f_X11_value_c : gRecT_X11_value := g_X11_value 6
def f_X10_weight_57 (T : gT) (M : gM) (a0 : Nat) (i1 : Int32) (i2 : Int32) (a3 : Nat) (i4 : Int32) (i5 : Int32) : Option ((Int32) ⊕ (Int32 × Int32)) :=
  some (.inr (i2, (i5 + (1 : Int32))))
def f_X10_weight_B24 (T : gT) (M : gM) (a0 : Nat) (i1 : Int32) (i2 : Int32) (a3 : Nat) (i4 : Int32) (i5 : Int32) : Option ((Int32) ⊕ (Int32 × Int32)) :=
  if i4 ≤ i5 then
  (
    some (.inl i2)
  )
  else
  (
    (ald T M a3 i5).bind fun v2 =>
    (ldr T M a0 2 21).bind fun b3 =>
    (aldr T M b3 v2 9).bind fun b4 =>
    (ldr T M b4 2 11).bind fun b5 =>
    (f_L_has T M b5 i1).bind fun x6 =>
    if x6 = 0 then
    (
      f_X10_weight_57 T M a0 i1 i2 a3 i4 i5
    )
    else
    (
      f_X10_weight_57 T M a0 i1 (i2 + (1 : Int32)) a3 i4 i5
    )
  )
def f_X10_weight_125 (T : gT) (M : gM) (w0 : Int64) : Option ((Int32 × gT × gM) × Nat × Nat) :=
  some ((((lmax (0 : Int64) (lmin (9999 : Int64) w0))).toInt32, T, M), 0, 0)
def f_X10_weight (T : gT) (M : gM) (a0 : Nat) (i1 : Int32) : Option ((Int32 × gT × gM) × Nat × Nat) :=
  (f_X10_rank T M a0 i1).bind fun x10 =>
  if 0 ≤ x10 then
  (
    (ldr T M a0 3 11).bind fun b12 =>
    (gloop (fun x => f_X10_weight_B24 T M a0 i1 x.1 b12 (Int32.ofNat (alen T b12)) x.2) gFU ((0 : Int32), (0 : Int32))).bind fun x13 =>
    (ldr T M a0 2 21).bind fun b14 =>
    (aldr T M b14 i1 9).bind fun b15 =>
    (gko T (gr M a0 4) 17).bind fun _ =>
    if (gr M a0 4) = none then
    (
      f_X10_weight_125 T M (((gi M b15 0)).toInt64)
    )
    else
    (
      (gko T (gr M a0 4) 17).bind fun _ =>
      (gnew T M (12, 4)).bind fun x19 => cadd 1 4 <|
      (astl x19.2.1 x19.2.2 x19.1 (0 : Int32) (((gi x19.2.2 b15 0)).toInt64)).bind fun M23 =>
      (f_X10_rank x19.2.1 M23 a0 i1).bind fun x24 =>
      (astl x19.2.1 M23 x19.1 (1 : Int32) ((x24).toInt64)).bind fun M25 =>
      (f_X9_offered x19.2.1 M25 b15).bind fun x26 =>
      (astl x19.2.1 M25 x19.1 (2 : Int32) ((x26).toInt64)).bind fun M27 =>
      (astl x19.2.1 M27 x19.1 (3 : Int32) ((x13).toInt64)).bind fun M28 =>
      (gsm x19.2.1 (gr M a0 4) 17).bind fun b30 =>
      (f_X11_value_c x19.2.1 M28 b30 x19.1).bind fun x29 =>
      f_X10_weight_125 x19.2.1 M28 x29
    )
  )
  else
  (
    some (((-1 : Int32), T, M), 0, 0)
  )
def f_X10_isCandidate_28 (T : gT) (M : gM) (k0 : Int32) : Option (Int32) :=
  (chk (k0 = 0 ∨ k0 = 1)).bind fun _ =>
  some k0
def f_X10_isCandidate_27 (T : gT) (M : gM)  : Option (Int32) :=
  f_X10_isCandidate_28 T M (0 : Int32)
def f_X10_isCandidate (T : gT) (M : gM) (a0 : Nat) (i1 : Int32) (i2 : Int32) : Option (Int32) :=
  (f_X10_rank T M a0 i1).bind fun x2 =>
  if x2 < 0 then
  (
    f_X10_isCandidate_27 T M 
  )
  else
  (
    (ldr T M a0 2 21).bind fun b4 =>
    (aldr T M b4 i1 9).bind fun b5 =>
    (ldr T M b5 3 11).bind fun b6 =>
    (ald T M b6 i2).bind fun v7 =>
    if v7 = (-1 : Int32) then
    (
      f_X10_isCandidate_27 T M 
    )
    else
    (
      f_X10_isCandidate_28 T M (1 : Int32)
    )
  )
def f_X10_vote_B38 (T : gT) (M : gM) (a0 : Nat) (i2 : Int32) (a3 : Nat) (i4 : Int32) (i5 : Int32) : Option ((Int32) ⊕ (Int32)) :=
  if i4 ≤ i5 then
  (
    some (.inl (-1 : Int32))
  )
  else
  (
    (ald T M a3 i5).bind fun v2 =>
    (f_X10_isCandidate T M a0 v2 i2).bind fun x3 =>
    if x3 = 0 then
    (
      some (.inr (i5 + (1 : Int32)))
    )
    else
    (
      some (.inl v2)
    )
  )
def f_X10_vote (T : gT) (M : gM) (a0 : Nat) (i1 : Int32) (i2 : Int32) : Option (Int32) :=
  (f_X10_rank T M a0 i1).bind fun x5 =>
  if 0 ≤ x5 then
  (
    (f_X10_isCandidate T M a0 i1 i2).bind fun x7 =>
    if x7 = 0 then
    (
      (ldr T M a0 2 21).bind fun b9 =>
      (aldr T M b9 i1 9).bind fun b10 =>
      (ldr T M b10 2 11).bind fun b11 =>
      (gloop (fun x => f_X10_vote_B38 T M a0 i2 b11 (Int32.ofNat (alen T b11)) x) gFU (0 : Int32)).bind fun x12 =>
      some x12
    )
    else
    (
      some i1
    )
  )
  else
  (
    some (-1 : Int32)
  )
def f_X10_support_50 (T : gT) (M : gM) (a0 : Nat) (i1 : Int32) (i2 : Int32) (i3 : Int32) (a4 : Nat) (i5 : Int32) (i6 : Int32) : Option (((Int32 × gT × gM) ⊕ (Int32 × Int32 × gT × gM)) × Nat × Nat) :=
  some (.inr (i3, (i6 + (1 : Int32)), T, M), 0, 0)
def f_X10_support_B16 (T : gT) (M : gM) (a0 : Nat) (i1 : Int32) (i2 : Int32) (i3 : Int32) (a4 : Nat) (i5 : Int32) (i6 : Int32) : Option (((Int32 × gT × gM) ⊕ (Int32 × Int32 × gT × gM)) × Nat × Nat) :=
  (gkd T a0 16).bind fun _ =>
  (gkd T a4 11).bind fun _ =>
  if i5 ≤ i6 then
  (
    some (.inl (i3, T, M), 0, 0)
  )
  else
  (
    (ald T M a4 i6).bind fun v9 =>
    (f_X10_vote T M a0 v9 i2).bind fun x10 =>
    if ¬ x10 = i1 then
    (
      f_X10_support_50 T M a0 i1 i2 i3 a4 i5 i6
    )
    else
    (
      (f_X10_weight T M a0 v9).bind fun x12 => cadd x12.2.1 x12.2.2 <|
      f_X10_support_50 x12.1.2.1 x12.1.2.2 a0 i1 i2 (i3 + x12.1.1) a4 i5 i6
    )
  )
def f_X10_support (T : gT) (M : gM) (a0 : Nat) (i1 : Int32) (i2 : Int32) : Option ((Int32 × gT × gM) × Nat × Nat) :=
  (ldr T M a0 3 11).bind fun b15 =>
  (gloopc (fun x => f_X10_support_B16 x.2.2.1 x.2.2.2 a0 i1 i2 x.1 b15 (Int32.ofNat (alen T b15)) x.2.1) gFU ((0 : Int32), (0 : Int32), T, M)).bind fun x16 => cadd x16.2.1 x16.2.2 <|
  some ((x16.1.1, x16.1.2.1, x16.1.2.2), 0, 0)
def f_X10_winner_60 (T : gT) (M : gM) (a0 : Nat) (i1 : Int32) (i2 : Int32) (a3 : Nat) (i4 : Int32) (i5 : Int32) : Option (((Int32 × gT × gM) ⊕ (Int32 × Int32 × gT × gM)) × Nat × Nat) :=
  some (.inr (i2, (i5 + (1 : Int32)), T, M), 0, 0)
def f_X10_winner_57 (T : gT) (M : gM) (a0 : Nat) (i1 : Int32) (a3 : Nat) (i4 : Int32) (i5 : Int32) (i6 : Int32) : Option (((Int32 × gT × gM) ⊕ (Int32 × Int32 × gT × gM)) × Nat × Nat) :=
  f_X10_winner_60 T M a0 i1 i6 a3 i4 i5
def f_X10_winner_B14 (T : gT) (M : gM) (a0 : Nat) (i1 : Int32) (i2 : Int32) (a3 : Nat) (i4 : Int32) (i5 : Int32) : Option (((Int32 × gT × gM) ⊕ (Int32 × Int32 × gT × gM)) × Nat × Nat) :=
  (gkd T a0 16).bind fun _ =>
  (gkd T a3 11).bind fun _ =>
  if i4 ≤ i5 then
  (
    some (.inl (i2, T, M), 0, 0)
  )
  else
  (
    (ald T M a3 i5).bind fun v8 =>
    (f_X10_isCandidate T M a0 v8 i1).bind fun x9 =>
    if x9 = 0 then
    (
      f_X10_winner_60 T M a0 i1 i2 a3 i4 i5
    )
    else
    (
      if i2 < 0 then
      (
        f_X10_winner_57 T M a0 i1 a3 i4 i5 v8
      )
      else
      (
        (f_X10_support T M a0 v8 i1).bind fun x12 => cadd x12.2.1 x12.2.2 <|
        (f_X10_support x12.1.2.1 x12.1.2.2 a0 i2 i1).bind fun x15 => cadd x15.2.1 x15.2.2 <|
        if x12.1.1 ≤ x15.1.1 then
        (
          f_X10_winner_60 x15.1.2.1 x15.1.2.2 a0 i1 i2 a3 i4 i5
        )
        else
        (
          f_X10_winner_57 x15.1.2.1 x15.1.2.2 a0 i1 a3 i4 i5 v8
        )
      )
    )
  )
def f_X10_winner (T : gT) (M : gM) (a0 : Nat) (i1 : Int32) : Option ((Int32 × gT × gM) × Nat × Nat) :=
  (ldr T M a0 3 11).bind fun b19 =>
  (gloopc (fun x => f_X10_winner_B14 x.2.2.1 x.2.2.2 a0 i1 x.1 b19 (Int32.ofNat (alen T b19)) x.2.1) gFU ((-1 : Int32), (0 : Int32), T, M)).bind fun x20 => cadd x20.2.1 x20.2.2 <|
  some ((x20.1.1, x20.1.2.1, x20.1.2.2), 0, 0)
def f_X10_binding_60 (T : gT) (M : gM) (a0 : Nat) (i1 : Int32) (i2 : Int32) (i3 : Int32) (a4 : Nat) (i5 : Int32) (i6 : Int32) : Option (((Int32 × gT × gM) ⊕ (Int32 × Int32 × gT × gM)) × Nat × Nat) :=
  some (.inr (i3, (i6 + (1 : Int32)), T, M), 0, 0)
def f_X10_binding_B26 (T : gT) (M : gM) (a0 : Nat) (i1 : Int32) (i2 : Int32) (i3 : Int32) (a4 : Nat) (i5 : Int32) (i6 : Int32) : Option (((Int32 × gT × gM) ⊕ (Int32 × Int32 × gT × gM)) × Nat × Nat) :=
  (gkd T a0 16).bind fun _ =>
  (gkd T a4 11).bind fun _ =>
  if i5 ≤ i6 then
  (
    some (.inl (i3, T, M), 0, 0)
  )
  else
  (
    (ald T M a4 i6).bind fun v9 =>
    (f_X10_isCandidate T M a0 v9 i2).bind fun x10 =>
    if x10 = 0 then
    (
      f_X10_binding_60 T M a0 i1 i2 i3 a4 i5 i6
    )
    else
    (
      (f_X10_support T M a0 v9 i2).bind fun x12 => cadd x12.2.1 x12.2.2 <|
      f_X10_binding_60 x12.1.2.1 x12.1.2.2 a0 i1 i2 (i3 + x12.1.1) a4 i5 i6
    )
  )
def f_X10_binding_120 (T : gT) (M : gM) (k0 : Int32) : Option ((Int32 × gT × gM) × Nat × Nat) :=
  some ((k0, T, M), 0, 0)
def f_X10_binding_115 (T : gT) (M : gM) (a0 : Nat) (i2 : Int32) : Option ((Int32 × gT × gM) × Nat × Nat) :=
  (f_X10_winner T M a0 i2).bind fun x15 => cadd x15.2.1 x15.2.2 <|
  f_X10_binding_120 x15.1.2.1 x15.1.2.2 x15.1.1
def f_X10_binding (T : gT) (M : gM) (a0 : Nat) (i1 : Int32) (i2 : Int32) : Option ((Int32 × gT × gM) × Nat × Nat) :=
  (f_X10_rank T M a0 i1).bind fun x17 =>
  if 0 ≤ x17 then
  (
    (ldr T M a0 3 11).bind fun b19 =>
    (gloopc (fun x => f_X10_binding_B26 x.2.2.1 x.2.2.2 a0 i1 i2 x.1 b19 (Int32.ofNat (alen T b19)) x.2.1) gFU ((0 : Int32), (0 : Int32), T, M)).bind fun x20 => cadd x20.2.1 x20.2.2 <|
    (f_X10_vote x20.1.2.1 x20.1.2.2 a0 i1 i2).bind fun x23 =>
    (ldr x20.1.2.1 x20.1.2.2 a0 2 21).bind fun b24 =>
    (aldr x20.1.2.1 x20.1.2.2 b24 i1 9).bind fun b25 =>
    if (gi x20.1.2.2 b25 1) = 0 then
    (
      f_X10_binding_115 x20.1.2.1 x20.1.2.2 a0 i2
    )
    else
    (
      if x23 < 0 then
      (
        f_X10_binding_115 x20.1.2.1 x20.1.2.2 a0 i2
      )
      else
      (
        (f_X10_support x20.1.2.1 x20.1.2.2 a0 x23 i2).bind fun x28 => cadd x28.2.1 x28.2.2 <|
        if ((100 : Int32) * x28.1.1) < ((gi x28.1.2.2 a0 1) * x20.1.1) then
        (
          f_X10_binding_115 x28.1.2.1 x28.1.2.2 a0 i2
        )
        else
        (
          f_X10_binding_120 x28.1.2.1 x28.1.2.2 x23
        )
      )
    )
  )
  else
  (
    some (((-1 : Int32), T, M), 0, 0)
  )
def f_X10_bindings_B27 (T : gT) (M : gM) (a0 : Nat) (a1 : Nat) (i2 : Int32) (i3 : Int32) : Option (((gT × gM) ⊕ (Int32 × gT × gM)) × Nat × Nat) :=
  (gkd T a0 16).bind fun _ =>
  (gkd T a1 15).bind fun _ =>
  if (gi M a0 0) ≤ i3 then
  (
    some (.inl (T, M), 0, 0)
  )
  else
  (
    (aldr T M a1 i2 11).bind fun b6 =>
    (f_X10_binding T M a0 i2 i3).bind fun x7 => cadd x7.2.1 x7.2.2 <|
    (ast x7.1.2.1 x7.1.2.2 b6 i3 x7.1.1).bind fun M11 =>
    some (.inr ((i3 + (1 : Int32)), x7.1.2.1, M11), 0, 0)
  )
def f_X10_bindings_B16 (T : gT) (M : gM) (a0 : Nat) (a1 : Nat) (i2 : Int32) : Option (((gT × gM) ⊕ (Int32 × gT × gM)) × Nat × Nat) :=
  (gkd T a0 16).bind fun _ =>
  (gkd T a1 15).bind fun _ =>
  (ldr T M a0 2 21).bind fun b15 =>
  if (Int32.ofNat (alen T b15)) ≤ i2 then
  (
    some (.inl (T, M), 0, 0)
  )
  else
  (
    (gloopc (fun x => f_X10_bindings_B27 x.2.1 x.2.2 a0 a1 i2 x.1) gFU ((0 : Int32), T, M)).bind fun x17 => cadd x17.2.1 x17.2.2 <|
    some (.inr ((i2 + (1 : Int32)), x17.1.1, x17.1.2), 0, 0)
  )
def f_X10_bindings (T : gT) (M : gM) (a0 : Nat) : Option ((Nat × gT × gM) × Nat × Nat) :=
  (ldr T M a0 2 21).bind fun b20 =>
  (gnewmI T M (Int32.ofNat (alen T b20)) (gi M a0 0)).bind fun x21 => cadd (1 + ((Int32.ofNat (alen T b20))).toNatClampNeg) (((Int32.ofNat (alen T b20))).toNatClampNeg + ((Int32.ofNat (alen T b20))).toNatClampNeg * ((gi M a0 0)).toNatClampNeg) <|
  (gloopc (fun x => f_X10_bindings_B16 x.2.1 x.2.2 a0 x21.1 x.1) gFU ((0 : Int32), x21.2.1, x21.2.2)).bind fun x23 => cadd x23.2.1 x23.2.2 <|
  some ((x21.1, x23.1.1, x23.1.2), 0, 0)
def f_L_with_B9 (T : gT) (M : gM) (a0 : Nat) (i1 : Int32) (a2 : Nat) (i3 : Int32) : Option ((gM) ⊕ (Int32 × gM)) :=
  if (Int32.ofNat (alen T a0)) ≤ i3 then
  (
    some (.inl M)
  )
  else
  (
    (ald T M a0 i3).bind fun v2 =>
    (ast T M a2 i3 v2).bind fun M3 =>
    some (.inr ((i3 + (1 : Int32)), M3))
  )
def f_L_with (T : gT) (M : gM) (a0 : Nat) (i1 : Int32) : Option ((Nat × gT × gM) × Nat × Nat) :=
  (gnewa T M 11 ((Int32.ofNat (alen T a0)) + (1 : Int32)) 100000).bind fun x4 => cadd 1 (((Int32.ofNat (alen T a0)) + (1 : Int32))).toNatClampNeg <|
  (gloop (fun x => f_L_with_B9 x4.2.1 x.2 a0 i1 x4.1 x.1) gFU ((0 : Int32), x4.2.2)).bind fun x6 =>
  (ast x4.2.1 x6 x4.1 (Int32.ofNat (alen x4.2.1 a0)) i1).bind fun M7 =>
  some ((x4.1, x4.2.1, M7), 0, 0)
def f_X10_call_B14 (T : gT) (M : gM) (a0 : Nat) (a1 : Nat) (a4 : Nat) (i5 : Int32) (i6 : Int32) (i7 : Int32) : Option (((Nat × gT × gM) ⊕ (Nat × Int32 × Int32 × Int32 × gT × gM)) × Nat × Nat) :=
  (gkd T a0 16).bind fun _ =>
  (gkd T a1 15).bind fun _ =>
  (gkd T a4 11).bind fun _ =>
  (f_L_has T M a4 (((100 : Int32) * i5) + i6)).bind fun x7 =>
  if ¬ x7 = 0 then
  (
    (gnew T M (11, 2)).bind fun x9 => cadd 1 2 <|
    (ast x9.2.1 x9.2.2 x9.1 (0 : Int32) (-2 : Int32)).bind fun M13 =>
    (ast x9.2.1 M13 x9.1 (1 : Int32) i7).bind fun M14 =>
    some (.inl (x9.1, x9.2.1, M14), 0, 0)
  )
  else
  (
    (f_L_with T M a4 (((100 : Int32) * i5) + i6)).bind fun x15 => cadd x15.2.1 x15.2.2 <|
    (gkd x15.1.2.1 x15.1.1 11).bind fun _ =>
    (aldr x15.1.2.1 x15.1.2.2 a1 i5 11).bind fun b20 =>
    (ald x15.1.2.1 x15.1.2.2 b20 i6).bind fun v21 =>
    if 0 ≤ v21 then
    (
      (ldr x15.1.2.1 x15.1.2.2 a0 2 21).bind fun b23 =>
      (aldr x15.1.2.1 x15.1.2.2 b23 v21 9).bind fun b24 =>
      (ldr x15.1.2.1 x15.1.2.2 b24 3 11).bind fun b25 =>
      (ald x15.1.2.1 x15.1.2.2 b25 i6).bind fun v26 =>
      if v26 < 0 then
      (
        some (.inr (x15.1.1, v21, ((-2 : Int32) - v26), (i7 + (1 : Int32)), x15.1.2.1, x15.1.2.2), 0, 0)
      )
      else
      (
        (gnew x15.1.2.1 x15.1.2.2 (11, 2)).bind fun x28 => cadd 1 2 <|
        (ast x28.2.1 x28.2.2 x28.1 (0 : Int32) v26).bind fun M32 =>
        (ast x28.2.1 M32 x28.1 (1 : Int32) (i7 + (1 : Int32))).bind fun M33 =>
        some (.inl (x28.1, x28.2.1, M33), 0, 0)
      )
    )
    else
    (
      (gnew x15.1.2.1 x15.1.2.2 (11, 2)).bind fun x34 => cadd 1 2 <|
      (ast x34.2.1 x34.2.2 x34.1 (0 : Int32) (-1 : Int32)).bind fun M38 =>
      (ast x34.2.1 M38 x34.1 (1 : Int32) i7).bind fun M39 =>
      some (.inl (x34.1, x34.2.1, M39), 0, 0)
    )
  )
def f_X10_call (T : gT) (M : gM) (a0 : Nat) (a1 : Nat) (i2 : Int32) (i3 : Int32) : Option ((Nat × gT × gM) × Nat × Nat) :=
  (gnew T M (11, 0)).bind fun x40 => cadd 1 0 <|
  (gloopc (fun x => f_X10_call_B14 x.2.2.2.2.1 x.2.2.2.2.2 a0 a1 x.1 x.2.1 x.2.2.1 x.2.2.2.1) gFU (x40.1, i2, i3, (0 : Int32), x40.2.1, x40.2.2)).bind fun x43 => cadd x43.2.1 x43.2.2 <|
  some (x43.1, 0, 0)
def f_X10_changed_69 (T : gT) (M : gM) (a0 : Nat) (a1 : Nat) (i2 : Int32) (i3 : Int32) (a4 : Nat) (i5 : Int32) (i6 : Int32) (i7 : Int32) (i8 : Int32) : Option (((Int32 × gT × gM) ⊕ (Int32 × Int32 × gT × gM)) × Nat × Nat) :=
  some (.inr (i3, (i8 + (1 : Int32)), T, M), 0, 0)
def f_X10_changed_B33 (T : gT) (M : gM) (a0 : Nat) (a1 : Nat) (i2 : Int32) (i3 : Int32) (a4 : Nat) (i5 : Int32) (i6 : Int32) (i7 : Int32) (i8 : Int32) : Option (((Int32 × gT × gM) ⊕ (Int32 × Int32 × gT × gM)) × Nat × Nat) :=
  (gkd T a0 16).bind fun _ =>
  (gkd T a1 15).bind fun _ =>
  (gkd T a4 11).bind fun _ =>
  if (gi M a0 0) ≤ i8 then
  (
    some (.inl (i3, T, M), 0, 0)
  )
  else
  (
    if i7 = i2 then
    (
      some (.inl (i3, T, M), 0, 0)
    )
    else
    (
      (f_X10_binding T M a0 i7 i8).bind fun x12 => cadd x12.2.1 x12.2.2 <|
      (aldr x12.1.2.1 x12.1.2.2 a1 i7 11).bind fun b16 =>
      (ald x12.1.2.1 x12.1.2.2 b16 i8).bind fun v17 =>
      if x12.1.1 = v17 then
      (
        f_X10_changed_69 x12.1.2.1 x12.1.2.2 a0 a1 i2 i3 a4 i5 i6 i7 i8
      )
      else
      (
        f_X10_changed_69 x12.1.2.1 x12.1.2.2 a0 a1 i2 (i3 + (1 : Int32)) a4 i5 i6 i7 i8
      )
    )
  )
def f_X10_changed_B16 (T : gT) (M : gM) (a0 : Nat) (a1 : Nat) (i2 : Int32) (i3 : Int32) (a4 : Nat) (i5 : Int32) (i6 : Int32) : Option (((Int32 × gT × gM) ⊕ (Int32 × Int32 × gT × gM)) × Nat × Nat) :=
  (gkd T a0 16).bind fun _ =>
  (gkd T a1 15).bind fun _ =>
  (gkd T a4 11).bind fun _ =>
  if i5 ≤ i6 then
  (
    some (.inl (i3, T, M), 0, 0)
  )
  else
  (
    (ald T M a4 i6).bind fun v27 =>
    (gloopc (fun x => f_X10_changed_B33 x.2.2.1 x.2.2.2 a0 a1 i2 x.1 a4 i5 i6 v27 x.2.1) gFU (i3, (0 : Int32), T, M)).bind fun x28 => cadd x28.2.1 x28.2.2 <|
    some (.inr (x28.1.1, (i6 + (1 : Int32)), x28.1.2.1, x28.1.2.2), 0, 0)
  )
def f_X10_changed (T : gT) (M : gM) (a0 : Nat) (a1 : Nat) (i2 : Int32) : Option ((Int32 × gT × gM) × Nat × Nat) :=
  (ldr T M a0 3 11).bind fun b32 =>
  (gloopc (fun x => f_X10_changed_B16 x.2.2.1 x.2.2.2 a0 a1 i2 x.1 b32 (Int32.ofNat (alen T b32)) x.2.1) gFU ((0 : Int32), (0 : Int32), T, M)).bind fun x33 => cadd x33.2.1 x33.2.2 <|
  some ((x33.1.1, x33.1.2.1, x33.1.2.2), 0, 0)
def f_X10_told_81 (T : gT) (M : gM) (k0 : Int32) : Option ((Int32 × gT × gM) × Nat × Nat) :=
  some ((k0, T, M), 0, 0)
def f_X10_told (T : gT) (M : gM) (a0 : Nat) (i1 : Int32) (i2 : Int32) : Option ((Int32 × gT × gM) × Nat × Nat) :=
  (ldr T M a0 2 21).bind fun b1 =>
  (aldr T M b1 i1 9).bind fun b2 =>
  if ¬ i2 = 0 then
  (
    if ¬ i2 = (1 : Int32) then
    (
      if ¬ i2 = (2 : Int32) then
      (
        if ¬ i2 = (3 : Int32) then
        (
          if ¬ i2 = (4 : Int32) then
          (
            (f_X10_weight T M a0 i1).bind fun x8 => cadd x8.2.1 x8.2.2 <|
            f_X10_told_81 x8.1.2.1 x8.1.2.2 x8.1.1
          )
          else
          (
            (ldr T M b2 2 11).bind fun b11 =>
            f_X10_told_81 T M (Int32.ofNat (alen T b11))
          )
        )
        else
        (
          (f_X9_offered T M b2).bind fun x12 =>
          f_X10_told_81 T M x12
        )
      )
      else
      (
        (f_X10_rank T M a0 i1).bind fun x13 =>
        f_X10_told_81 T M x13
      )
    )
    else
    (
      if (gi M b2 1) = 0 then
      (
        f_X10_told_81 T M (0 : Int32)
      )
      else
      (
        f_X10_told_81 T M (1 : Int32)
      )
    )
  )
  else
  (
    f_X10_told_81 T M (gi M b2 0)
  )
def f_X10_sum_B59 (T : gT) (M : gM) (a0 : Nat) (a1 : Nat) (j2 : Int64) (i4 : Int32) (i5 : Int32) : Option (((Int64 × gT × gM) ⊕ (Int64 × Int32 × gT × gM)) × Nat × Nat) :=
  (gkd T a0 16).bind fun _ =>
  (gkd T a1 15).bind fun _ =>
  if (gi M a0 0) ≤ i5 then
  (
    some (.inl (j2, T, M), 0, 0)
  )
  else
  (
    (ldr T M a0 2 21).bind fun b7 =>
    (aldr T M b7 i4 9).bind fun b8 =>
    (ldr T M b8 3 11).bind fun b9 =>
    (ald T M b9 i5).bind fun v10 =>
    (aldr T M a1 i4 11).bind fun b11 =>
    (ald T M b11 i5).bind fun v12 =>
    (f_X10_call T M a0 a1 i4 i5).bind fun x13 => cadd x13.2.1 x13.2.2 <|
    (gkd x13.1.2.1 x13.1.1 11).bind fun _ =>
    (ald x13.1.2.1 x13.1.2.2 x13.1.1 (0 : Int32)).bind fun v17 =>
    some (.inr ((((31 : Int64) * (((31 : Int64) * (((31 : Int64) * j2) + ((v10).toInt64))) + ((v12).toInt64))) + ((v17).toInt64)), (i5 + (1 : Int32)), x13.1.2.1, x13.1.2.2), 0, 0)
  )
def f_X10_sum_B27 (T : gT) (M : gM) (a0 : Nat) (a1 : Nat) (j2 : Int64) (i4 : Int32) (i5 : Int32) : Option (((Int64 × gT × gM) ⊕ (Int64 × Int32 × gT × gM)) × Nat × Nat) :=
  (gkd T a0 16).bind fun _ =>
  (gkd T a1 15).bind fun _ =>
  if (6 : Int32) ≤ i5 then
  (
    some (.inl (j2, T, M), 0, 0)
  )
  else
  (
    (f_X10_told T M a0 i4 i5).bind fun x24 => cadd x24.2.1 x24.2.2 <|
    some (.inr ((((31 : Int64) * j2) + ((x24.1.1).toInt64)), (i5 + (1 : Int32)), x24.1.2.1, x24.1.2.2), 0, 0)
  )
def f_X10_sum_B14 (T : gT) (M : gM) (a0 : Nat) (a1 : Nat) (j2 : Int64) (i4 : Int32) : Option (((Int64 × gT × gM) ⊕ (Int64 × Int32 × gT × gM)) × Nat × Nat) :=
  (gkd T a0 16).bind fun _ =>
  (gkd T a1 15).bind fun _ =>
  (ldr T M a0 2 21).bind fun b31 =>
  if (Int32.ofNat (alen T b31)) ≤ i4 then
  (
    some (.inl (j2, T, M), 0, 0)
  )
  else
  (
    (gloopc (fun x => f_X10_sum_B27 x.2.2.1 x.2.2.2 a0 a1 x.1 i4 x.2.1) gFU (j2, (0 : Int32), T, M)).bind fun x33 => cadd x33.2.1 x33.2.2 <|
    (gloopc (fun x => f_X10_sum_B59 x.2.2.1 x.2.2.2 a0 a1 x.1 i4 x.2.1) gFU (x33.1.1, (0 : Int32), x33.1.2.1, x33.1.2.2)).bind fun x36 => cadd x36.2.1 x36.2.2 <|
    some (.inr (x36.1.1, (i4 + (1 : Int32)), x36.1.2.1, x36.1.2.2), 0, 0)
  )
def f_X10_sum (T : gT) (M : gM) (a0 : Nat) : Option ((Int64 × gT × gM) × Nat × Nat) :=
  (f_X10_bindings T M a0).bind fun x39 => cadd x39.2.1 x39.2.2 <|
  (gkd x39.1.2.1 x39.1.1 15).bind fun _ =>
  (gloopc (fun x => f_X10_sum_B14 x.2.2.1 x.2.2.2 a0 x39.1.1 x.1 x.2.1) gFU (((gi x39.1.2.2 a0 1)).toInt64, (0 : Int32), x39.1.2.1, x39.1.2.2)).bind fun x42 => cadd x42.2.1 x42.2.2 <|
  some ((x42.1.1, x42.1.2.1, x42.1.2.2), 0, 0)
def f_X11_init (T : gT) (M : gM) (a0 : Nat) : Option (Unit) :=
  some ()
def f_X12_below (T : gT) (M : gM) (a0 : Nat) (i1 : Int32) : Option (Int32 × gM) :=
  (chk (¬ i1 = 0)).bind fun _ =>
  some ((irem (iushr (gi (si M a0 0 (((1103515245 : Int32) * (gi M a0 0)) + (12345 : Int32))) a0 0) (16 : Int32)) i1), (si M a0 0 (((1103515245 : Int32) * (gi M a0 0)) + (12345 : Int32))))
abbrev gRecT_X11_random : Type := gT → gM → Nat → Int32 → Option ((Nat × gT × gM) × Nat × Nat)
def f_X11_random_67 (rec : gRecT_X11_random) (T : gT) (M : gM) (a0 : Nat) (i1 : Int32) (a2 : Nat) (b0 : Nat) (k1 : Int32) : Option ((Nat × gT × gM) × Nat × Nat) :=
  if (gi (si M b0 1 k1) a2 0) ≤ (1 : Int32) then
  (
    some ((a2, T, (si M b0 1 k1)), 0, 0)
  )
  else
  (
    (rec T (si M b0 1 k1) a0 (i1 - (1 : Int32))).bind fun x2 => cadd x2.2.1 x2.2.2 <|
    (gkd x2.1.2.1 x2.1.1 17).bind fun _ =>
    (rec x2.1.2.1 (sr x2.1.2.2 a2 2 (some x2.1.1)) a0 (i1 - (1 : Int32))).bind fun x6 => cadd x6.2.1 x6.2.2 <|
    (gkd x6.1.2.1 x6.1.1 17).bind fun _ =>
    some ((a2, x6.1.2.1, (sr x6.1.2.2 a2 3 (some x6.1.1))), 0, 0)
  )
def f_X11_random_56 (rec : gRecT_X11_random) (T : gT) (M : gM) (a0 : Nat) (i1 : Int32) (a2 : Nat) (b0 : Nat) (b1 : Nat) (k2 : Int32) : Option ((Nat × gT × gM) × Nat × Nat) :=
  (f_X12_below T M b1 k2).bind fun x10 =>
  f_X11_random_67 rec T x10.2 a0 i1 a2 b0 x10.1
def f_X11_random_27 (rec : gRecT_X11_random) (T : gT) (M : gM) (a0 : Nat) (i1 : Int32) (a2 : Nat) (b0 : Nat) (k1 : Int32) : Option ((Nat × gT × gM) × Nat × Nat) :=
  if ¬ (gi (si M b0 0 k1) a2 0) = 0 then
  (
    (f_X12_below T (si M b0 0 k1) a0 (4 : Int32)).bind fun x12 =>
    f_X11_random_67 rec T x12.2 a0 i1 a2 a2 x12.1
  )
  else
  (
    (f_X12_below T (si M b0 0 k1) a0 (8 : Int32)).bind fun x13 =>
    if ¬ x13.1 = 0 then
    (
      f_X11_random_56 rec T x13.2 a0 i1 a2 a2 a0 (9 : Int32)
    )
    else
    (
      f_X11_random_56 rec T x13.2 a0 i1 a2 a2 a0 (10000 : Int32)
    )
  )
def f_X11_random (rec : gRecT_X11_random) (T : gT) (M : gM) (a0 : Nat) (i1 : Int32) : Option ((Nat × gT × gM) × Nat × Nat) :=
  (gnew T M (17, 0)).bind fun x15 => cadd 1 4 <|
  (f_X11_init x15.2.1 x15.2.2 x15.1).bind fun x17 =>
  if ¬ i1 = 0 then
  (
    (f_X12_below x15.2.1 x15.2.2 a0 (6 : Int32)).bind fun x19 =>
    f_X11_random_27 rec x15.2.1 x19.2 a0 i1 x15.1 x15.1 x19.1
  )
  else
  (
    (f_X12_below x15.2.1 x15.2.2 a0 (2 : Int32)).bind fun x20 =>
    f_X11_random_27 rec x15.2.1 x20.2 a0 i1 x15.1 x15.1 x20.1
  )
def g_X11_random : Nat → gRecT_X11_random
  | 0 => fun _ _ _ _ => none
  | n + 1 => f_X11_random (g_X11_random n)
def f_X11_random_c : gRecT_X11_random := g_X11_random 6
abbrev gRecT_X11_text : Type := gT → gM → Nat → Int32 → Option ((Nat × gT × gM) × Nat × Nat)
def f_X11_text_173 (rec : gRecT_X11_text) (T : gT) (M : gM) (z0 : Nat) : Option ((Nat × gT × gM) × Nat × Nat) :=
  some ((z0, T, M), 0, 0)
def f_X11_text_120 (rec : gRecT_X11_text) (T : gT) (M : gM) (a0 : Nat) (i1 : Int32) (i2 : Int32) (b0 : Nat) (z1 : Nat) : Option ((Nat × gT × gM) × Nat × Nat) :=
  (f_J4_append_15ec4 T M b0 z1).bind fun x1 => cadd x1.2.1 x1.2.2 <|
  (gkd x1.1.2.1 x1.1.1 20).bind fun _ =>
  (ldr x1.1.2.1 x1.1.2.2 a0 3 17).bind fun b4 =>
  (rec x1.1.2.1 x1.1.2.2 b4 (i2 + (1 : Int32))).bind fun x5 => cadd x5.2.1 x5.2.2 <|
  (gks x5.1.2.1 x5.1.1).bind fun _ =>
  (f_J4_append_15ec4 x5.1.2.1 x5.1.2.2 x1.1.1 x5.1.1).bind fun x9 => cadd x9.2.1 x9.2.2 <|
  (gkd x9.1.2.1 x9.1.1 20).bind fun _ =>
  (f_J4_toString_0e30d x9.1.2.1 x9.1.2.2 x9.1.1).bind fun x12 => cadd x12.2.1 x12.2.2 <|
  (gks x12.1.2.1 x12.1.1).bind fun _ =>
  if i1 ≤ i2 then
  (
    f_X11_text_173 rec x12.1.2.1 x12.1.2.2 x12.1.1
  )
  else
  (
    (gnew x12.1.2.1 x12.1.2.2 (20, 0)).bind fun x16 => cadd 1 4 <|
    (f_J4_init_da8c8 x16.2.1 x16.2.2 x16.1).bind fun x19 => cadd x19.2.1 x19.2.2 <|
    (f_J4_append_15ec4 x19.1.1 x19.1.2 x16.1 (gSB + 32)).bind fun x23 => cadd x23.2.1 x23.2.2 <|
    (gkd x23.1.2.1 x23.1.1 20).bind fun _ =>
    (f_J4_append_15ec4 x23.1.2.1 x23.1.2.2 x23.1.1 x12.1.1).bind fun x27 => cadd x27.2.1 x27.2.2 <|
    (gkd x27.1.2.1 x27.1.1 20).bind fun _ =>
    (f_J4_append_15ec4 x27.1.2.1 x27.1.2.2 x27.1.1 (gSB + 33)).bind fun x31 => cadd x31.2.1 x31.2.2 <|
    (gkd x31.1.2.1 x31.1.1 20).bind fun _ =>
    (f_J4_toString_0e30d x31.1.2.1 x31.1.2.2 x31.1.1).bind fun x35 => cadd x35.2.1 x35.2.2 <|
    (gks x35.1.2.1 x35.1.1).bind fun _ =>
    f_X11_text_173 rec x35.1.2.1 x35.1.2.2 x35.1.1
  )
def f_X11_text_60 (rec : gRecT_X11_text) (T : gT) (M : gM) (a0 : Nat) (i1 : Int32) (k0 : Int32) : Option ((Nat × gT × gM) × Nat × Nat) :=
  (gnew T M (20, 0)).bind fun x39 => cadd 1 4 <|
  (f_J4_init_da8c8 x39.2.1 x39.2.2 x39.1).bind fun x41 => cadd x41.2.1 x41.2.2 <|
  (ldr x41.1.1 x41.1.2 a0 2 17).bind fun b44 =>
  (rec x41.1.1 x41.1.2 b44 k0).bind fun x45 => cadd x45.2.1 x45.2.2 <|
  (gks x45.1.2.1 x45.1.1).bind fun _ =>
  (f_J4_append_15ec4 x45.1.2.1 x45.1.2.2 x39.1 x45.1.1).bind fun x49 => cadd x49.2.1 x49.2.2 <|
  (gkd x49.1.2.1 x49.1.1 20).bind fun _ =>
  if ¬ (gi x49.1.2.2 a0 0) = (2 : Int32) then
  (
    if ¬ (gi x49.1.2.2 a0 0) = (3 : Int32) then
    (
      if ¬ (gi x49.1.2.2 a0 0) = (4 : Int32) then
      (
        f_X11_text_120 rec x49.1.2.1 x49.1.2.2 a0 i1 k0 x49.1.1 (gSB + 31)
      )
      else
      (
        f_X11_text_120 rec x49.1.2.1 x49.1.2.2 a0 i1 k0 x49.1.1 (gSB + 30)
      )
    )
    else
    (
      f_X11_text_120 rec x49.1.2.1 x49.1.2.2 a0 i1 k0 x49.1.1 (gSB + 29)
    )
  )
  else
  (
    f_X11_text_120 rec x49.1.2.1 x49.1.2.2 a0 i1 k0 x49.1.1 (gSB + 28)
  )
def f_X11_text (rec : gRecT_X11_text) (T : gT) (M : gM) (a0 : Nat) (i1 : Int32) : Option ((Nat × gT × gM) × Nat × Nat) :=
  if ¬ (gi M a0 0) = 0 then
  (
    if ¬ (gi M a0 0) = (1 : Int32) then
    (
      if (4 : Int32) ≤ (gi M a0 0) then
      (
        f_X11_text_60 rec T M a0 i1 (2 : Int32)
      )
      else
      (
        f_X11_text_60 rec T M a0 i1 (1 : Int32)
      )
    )
    else
    (
      (chk (¬ ((gi M a0 1) < 0 ∨ 4 ≤ ((gi M a0 1)).toNatClampNeg))).bind fun _ =>
      some (((gSB + 9 + ((gi M a0 1)).toNatClampNeg), T, M), 0, 0)
    )
  )
  else
  (
    (gnew T M (20, 0)).bind fun x59 => cadd 1 4 <|
    (f_J4_init_da8c8 x59.2.1 x59.2.2 x59.1).bind fun x61 => cadd x61.2.1 x61.2.2 <|
    (f_J4_append_15ec4 x61.1.1 x61.1.2 x59.1 (gSB + 20)).bind fun x64 => cadd x64.2.1 x64.2.2 <|
    (gkd x64.1.2.1 x64.1.1 20).bind fun _ =>
    (f_J4_append_bf812 x64.1.2.1 x64.1.2.2 x64.1.1 (gi x64.1.2.2 a0 1)).bind fun x67 => cadd x67.2.1 x67.2.2 <|
    (gkd x67.1.2.1 x67.1.1 20).bind fun _ =>
    (f_J4_toString_0e30d x67.1.2.1 x67.1.2.2 x67.1.1).bind fun x70 => cadd x70.2.1 x70.2.2 <|
    (gks x70.1.2.1 x70.1.1).bind fun _ =>
    some ((x70.1.1, x70.1.2.1, x70.1.2.2), 0, 0)
  )
def g_X11_text : Nat → gRecT_X11_text
  | 0 => fun _ _ _ _ => none
  | n + 1 => f_X11_text (g_X11_text n)
def f_X11_text_c : gRecT_X11_text := g_X11_text 6
def f_X12_init (T : gT) (M : gM) (a0 : Nat) (i1 : Int32) : Option (gM) :=
  some (si M a0 0 i1)
def f_L_flush_B22 (T : gT) (M : gM) (a1 : Nat) (i2 : Int32) : Option ((gM) ⊕ (Int32 × gM)) :=
  if (6 : Int32) ≤ i2 then
  (
    some (.inl M)
  )
  else
  (
    (ast T M a1 i2 (0 : Int32)).bind fun M2 =>
    some (.inr ((i2 + (1 : Int32)), M2))
  )
def f_L_flush (T : gT) (M : gM) (a0 : Nat) (a1 : Nat) : Option (gM) :=
  (ald T M a1 (1 : Int32)).bind fun v3 =>
  (ald T M a1 (2 : Int32)).bind fun v4 =>
  (ald T M a1 (3 : Int32)).bind fun v5 =>
  (ald T M a1 (4 : Int32)).bind fun v6 =>
  (ald T M a1 (5 : Int32)).bind fun v7 =>
  (f_X8_append T M a0 v3 v4 v5 v6 v7).bind fun x8 =>
  (gloop (fun x => f_L_flush_B22 T x.2 a1 x.1) gFU ((1 : Int32), x8.2)).bind fun x9 =>
  some x9
def f_L_put (T : gT) (M : gM) (a0 : Nat) (a1 : Nat) (i2 : Int32) : Option (gM) :=
  (ald T M a1 (0 : Int32)).bind fun v1 =>
  (ald T M a1 ((1 : Int32) + ((irem v1 (20 : Int32)) / (4 : Int32)))).bind fun v2 =>
  (ald T M a1 (0 : Int32)).bind fun v3 =>
  (ast T M a1 ((1 : Int32) + ((irem v1 (20 : Int32)) / (4 : Int32))) (v2 ||| (i2 <<< (((24 : Int32) - ((8 : Int32) * (irem v3 (4 : Int32)))) &&& 31)))).bind fun M4 =>
  (ald T M4 a1 (0 : Int32)).bind fun v5 =>
  (ast T M4 a1 (0 : Int32) (v5 + (1 : Int32))).bind fun M6 =>
  (ald T M6 a1 (0 : Int32)).bind fun v7 =>
  if ¬ (irem v7 (20 : Int32)) = 0 then
  (
    some M6
  )
  else
  (
    (f_L_flush T M6 a0 a1).bind fun x9 =>
    some x9
  )
def f_L_loadText_16 (T : gT) (M : gM) (a0 : Nat) (a1 : Nat) (i2 : Int32) : Option ((Int32 × gT × gM) × Nat × Nat) :=
  (ast T M a1 (0 : Int32) (0 : Int32)).bind fun M1 =>
  (f_L_load T M1 a0 i2).bind fun x2 => cadd 3 813 <|
  some ((x2.1, x2.2.1, x2.2.2), 0, 0)
def f_L_loadText (T : gT) (M : gM) (a0 : Nat) (a1 : Nat) : Option ((Int32 × gT × gM) × Nat × Nat) :=
  (ald T M a1 (0 : Int32)).bind fun v5 =>
  if (irem v5 (20 : Int32)) ≤ 0 then
  (
    f_L_loadText_16 T M a0 a1 v5
  )
  else
  (
    (f_L_flush T M a0 a1).bind fun x7 =>
    f_L_loadText_16 T x7 a0 a1 v5
  )
def f_L_write_B2 (T : gT) (M : gM) (a0 : Nat) (a1 : Nat) (s2 : Nat) (i3 : Int32) : Option ((gM) ⊕ (Int32 × gM)) :=
  (fS_length T M s2).bind fun v1 =>
  if v1 ≤ i3 then
  (
    some (.inl M)
  )
  else
  (
    (fS_charAt T M s2 i3).bind fun v3 =>
    (f_L_put T M a0 a1 v3).bind fun x4 =>
    some (.inr ((i3 + (1 : Int32)), x4))
  )
def f_L_write (T : gT) (M : gM) (a0 : Nat) (a1 : Nat) (s2 : Nat) : Option (gM) :=
  (gloop (fun x => f_L_write_B2 T x.2 a0 a1 s2 x.1) gFU ((0 : Int32), M)).bind fun x5 =>
  some x5
def f_L_writeNumber_B18 (T : gT) (M : gM) (a0 : Nat) (a1 : Nat) (i2 : Int32) (i3 : Int32) : Option ((gM) ⊕ (Int32 × gM)) :=
  if i3 ≤ 0 then
  (
    some (.inl M)
  )
  else
  (
    (chk (¬ i3 = 0)).bind fun _ =>
    (f_L_put T M a0 a1 ((48 : Int32) + (irem (i2 / i3) (10 : Int32)))).bind fun x3 =>
    some (.inr ((i3 / (10 : Int32)), x3))
  )
def f_L_writeNumber_B2 (T : gT) (M : gM) (a0 : Nat) (a1 : Nat) (i2 : Int32) (i3 : Int32) : Option ((Int32) ⊕ (Int32)) :=
  if (i2 / (10 : Int32)) < i3 then
  (
    some (.inl i3)
  )
  else
  (
    some (.inr (i3 * (10 : Int32)))
  )
def f_L_writeNumber (T : gT) (M : gM) (a0 : Nat) (a1 : Nat) (i2 : Int32) : Option (gM) :=
  (gloop (fun x => f_L_writeNumber_B2 T M a0 a1 i2 x) gFU (1 : Int32)).bind fun x5 =>
  (gloop (fun x => f_L_writeNumber_B18 T x.2 a0 a1 i2 x.1) gFU (x5, M)).bind fun x6 =>
  some x6
def f_L_wordOf_72 (T : gT) (M : gM) (z0 : Nat) : Option ((Nat × gT × gM) × Nat × Nat) :=
  some ((z0, T, M), 0, 0)
def f_L_wordOf (T : gT) (M : gM) (i0 : Int32) (i1 : Int32) : Option ((Nat × gT × gM) × Nat × Nat) :=
  if i1 = 0 then
  (
    if ¬ i0 = (1 : Int32) then
    (
      (gnew T M (20, 0)).bind fun x3 => cadd 1 4 <|
      (f_J4_init_da8c8 x3.2.1 x3.2.2 x3.1).bind fun x4 => cadd x4.2.1 x4.2.2 <|
      (f_J4_append_15ec4 x4.1.1 x4.1.2 x3.1 (gSB + 16)).bind fun x6 => cadd x6.2.1 x6.2.2 <|
      (gkd x6.1.2.1 x6.1.1 20).bind fun _ =>
      (f_J4_append_cf468 x6.1.2.1 x6.1.2.2 x6.1.1 (((((97 : Int32) + i0)).toUInt32 % 65536).toInt32)).bind fun x8 => cadd x8.2.1 x8.2.2 <|
      (gkd x8.1.2.1 x8.1.1 20).bind fun _ =>
      (f_J4_toString_0e30d x8.1.2.1 x8.1.2.2 x8.1.1).bind fun x10 => cadd x10.2.1 x10.2.2 <|
      (gks x10.1.2.1 x10.1.1).bind fun _ =>
      f_L_wordOf_72 x10.1.2.1 x10.1.2.2 x10.1.1
    )
    else
    (
      f_L_wordOf_72 T M (gSB + 7)
    )
  )
  else
  (
    if ¬ i0 = 0 then
    (
      (gnew T M (20, 0)).bind fun x13 => cadd 1 4 <|
      (f_J4_init_da8c8 x13.2.1 x13.2.2 x13.1).bind fun x14 => cadd x14.2.1 x14.2.2 <|
      (f_J4_append_15ec4 x14.1.1 x14.1.2 x13.1 (gSB + 15)).bind fun x16 => cadd x16.2.1 x16.2.2 <|
      (gkd x16.1.2.1 x16.1.1 20).bind fun _ =>
      (f_J4_append_cf468 x16.1.2.1 x16.1.2.2 x16.1.1 (((((97 : Int32) + i0)).toUInt32 % 65536).toInt32)).bind fun x18 => cadd x18.2.1 x18.2.2 <|
      (gkd x18.1.2.1 x18.1.1 20).bind fun _ =>
      (f_J4_toString_0e30d x18.1.2.1 x18.1.2.2 x18.1.1).bind fun x20 => cadd x20.2.1 x20.2.2 <|
      (gks x20.1.2.1 x20.1.1).bind fun _ =>
      f_L_wordOf_72 x20.1.2.1 x20.1.2.2 x20.1.1
    )
    else
    (
      f_L_wordOf_72 T M (gSB + 8)
    )
  )
def f_L_randomLinker_B169 (T : gT) (M : gM) (a0 : Nat) (a1 : Nat) (a2 : Nat) (a5 : Nat) (i6 : Int32) (i7 : Int32) (a8 : Nat) (i9 : Int32) : Option ((gM) ⊕ (Int32 × gM)) :=
  if (gi M a5 0) ≤ i9 then
  (
    some (.inl M)
  )
  else
  (
    (ldr T M a8 3 11).bind fun b2 =>
    (ast T M b2 i9 (-1 : Int32)).bind fun M3 =>
    some (.inr ((i9 + (1 : Int32)), M3))
  )
def f_L_randomLinker_633 (T : gT) (M : gM) (a0 : Nat) (a1 : Nat) (a2 : Nat) (a5 : Nat) (i6 : Int32) (i7 : Int32) : Option (((gT × gM) ⊕ (Int32 × gT × gM)) × Nat × Nat) :=
  some (.inr ((i7 + (-1 : Int32)), T, M), 0, 0)
def f_L_randomLinker_493 (T : gT) (M : gM) (a0 : Nat) (a1 : Nat) (a2 : Nat) (a5 : Nat) (i6 : Int32) (i7 : Int32) : Option (((gT × gM) ⊕ (Int32 × gT × gM)) × Nat × Nat) :=
  some (.inr ((i7 + (-1 : Int32)), T, M), 0, 0)
def f_L_randomLinker_486 (T : gT) (M : gM) (a0 : Nat) (a1 : Nat) (a2 : Nat) (a5 : Nat) (i6 : Int32) (i7 : Int32) : Option (((gT × gM) ⊕ (Int32 × gT × gM)) × Nat × Nat) :=
  (f_L_write T M a0 a1 (gSB + 17)).bind fun x4 =>
  f_L_randomLinker_493 T x4 a0 a1 a2 a5 i6 i7
def f_L_randomLinker_389 (T : gT) (M : gM) (a0 : Nat) (a1 : Nat) (a2 : Nat) (a5 : Nat) (i6 : Int32) (i7 : Int32) (i8 : Int32) (i9 : Int32) (k0 : Int32) : Option (((gT × gM) ⊕ (Int32 × gT × gM)) × Nat × Nat) :=
  (ldr T M a5 2 21).bind fun b5 =>
  (aldr T M b5 i8 9).bind fun b6 =>
  (ldr T M b6 3 11).bind fun b7 =>
  (ast T M b7 i9 k0).bind fun M8 =>
  (f_L_write T M8 a0 a1 (gSB + 22)).bind fun x9 =>
  (f_L_wordOf T x9 i8 (0 : Int32)).bind fun x10 => cadd x10.2.1 x10.2.2 <|
  (gks x10.1.2.1 x10.1.1).bind fun _ =>
  (f_L_write x10.1.2.1 x10.1.2.2 a0 a1 x10.1.1).bind fun x16 =>
  (f_L_write x10.1.2.1 x16 a0 a1 (gSB + 19)).bind fun x17 =>
  (f_L_wordOf x10.1.2.1 x17 i9 (1 : Int32)).bind fun x18 => cadd x18.2.1 x18.2.2 <|
  (gks x18.1.2.1 x18.1.1).bind fun _ =>
  (f_L_write x18.1.2.1 x18.1.2.2 a0 a1 x18.1.1).bind fun x24 =>
  (f_L_write x18.1.2.1 x24 a0 a1 (gSB + 19)).bind fun x25 =>
  if 0 ≤ k0 then
  (
    (f_L_writeNumber x18.1.2.1 x25 a0 a1 k0).bind fun x27 =>
    f_L_randomLinker_486 x18.1.2.1 x27 a0 a1 a2 a5 i6 i7
  )
  else
  (
    (f_L_write x18.1.2.1 x25 a0 a1 (gSB + 23)).bind fun x28 =>
    (f_L_wordOf x18.1.2.1 x28 ((-2 : Int32) - k0) (1 : Int32)).bind fun x29 => cadd x29.2.1 x29.2.2 <|
    (gks x29.1.2.1 x29.1.1).bind fun _ =>
    (f_L_write x29.1.2.1 x29.1.2.2 a0 a1 x29.1.1).bind fun x35 =>
    f_L_randomLinker_486 x29.1.2.1 x35 a0 a1 a2 a5 i6 i7
  )
def f_L_randomLinker_259 (T : gT) (M : gM) (a0 : Nat) (a1 : Nat) (a2 : Nat) (a5 : Nat) (i6 : Int32) (i7 : Int32) (a8 : Nat) (b0 : Nat) (b1 : Nat) (z2 : Nat) : Option (((gT × gM) ⊕ (Int32 × gT × gM)) × Nat × Nat) :=
  (f_L_write T M b0 b1 z2).bind fun x36 =>
  (ldr T x36 a5 2 21).bind fun b37 =>
  (astr T x36 b37 i7 a8).bind fun M38 =>
  (ldr T M38 a5 3 11).bind fun b39 =>
  (f_L_with T M38 b39 i7).bind fun x40 => cadd x40.2.1 x40.2.2 <|
  (gkd x40.1.2.1 x40.1.1 11).bind fun _ =>
  some (.inr ((i7 + (1 : Int32)), x40.1.2.1, (sr x40.1.2.2 a5 3 (some x40.1.1))), 0, 0)
def f_L_randomLinker_229 (T : gT) (M : gM) (a0 : Nat) (a1 : Nat) (a2 : Nat) (a5 : Nat) (i6 : Int32) (i7 : Int32) (a8 : Nat) (b0 : Nat) (b1 : Nat) (z2 : Nat) : Option (((gT × gM) ⊕ (Int32 × gT × gM)) × Nat × Nat) :=
  (f_L_write T M b0 b1 z2).bind fun x47 =>
  (f_L_writeNumber T x47 a0 a1 (gi x47 a8 0)).bind fun x48 =>
  if (gi x48 a8 1) = 0 then
  (
    f_L_randomLinker_259 T x48 a0 a1 a2 a5 i6 i7 a8 a0 a1 (gSB + 17)
  )
  else
  (
    f_L_randomLinker_259 T x48 a0 a1 a2 a5 i6 i7 a8 a0 a1 (gSB + 21)
  )
def f_L_randomLinker_151 (T : gT) (M : gM) (a0 : Nat) (a1 : Nat) (a2 : Nat) (a5 : Nat) (i6 : Int32) (i7 : Int32) (a8 : Nat) (b0 : Nat) (k1 : Int32) : Option (((gT × gM) ⊕ (Int32 × gT × gM)) × Nat × Nat) :=
  (chk (k1 = 0 ∨ k1 = 1)).bind fun _ =>
  (gnewa T (si M b0 1 k1) 11 (gi (si M b0 1 k1) a5 0) 100000).bind fun x51 => cadd 1 ((gi (si M b0 1 k1) a5 0)).toNatClampNeg <|
  (gloop (fun x => f_L_randomLinker_B169 x51.2.1 x.2 a0 a1 a2 a5 i6 i7 a8 x.1) gFU ((0 : Int32), (sr x51.2.2 a8 3 (some x51.1)))).bind fun x57 =>
  (f_L_write x51.2.1 x57 a0 a1 (gSB + 18)).bind fun x58 =>
  (f_L_wordOf x51.2.1 x58 i7 (0 : Int32)).bind fun x59 => cadd x59.2.1 x59.2.2 <|
  (gks x59.1.2.1 x59.1.1).bind fun _ =>
  (f_L_write x59.1.2.1 x59.1.2.2 a0 a1 x59.1.1).bind fun x66 =>
  (f_X12_below x59.1.2.1 x66 a2 (2 : Int32)).bind fun x67 =>
  if ¬ x67.1 = 0 then
  (
    f_L_randomLinker_229 x59.1.2.1 x67.2 a0 a1 a2 a5 i6 i7 a8 a0 a1 (gSB + 20)
  )
  else
  (
    f_L_randomLinker_229 x59.1.2.1 x67.2 a0 a1 a2 a5 i6 i7 a8 a0 a1 (gSB + 19)
  )
def f_L_randomLinker_130 (T : gT) (M : gM) (a0 : Nat) (a1 : Nat) (a2 : Nat) (a5 : Nat) (i6 : Int32) (i7 : Int32) (a8 : Nat) (b0 : Nat) (b1 : Nat) (k2 : Int32) : Option (((gT × gM) ⊕ (Int32 × gT × gM)) × Nat × Nat) :=
  (f_X12_below T M b1 k2).bind fun x69 =>
  (f_X12_below T (si x69.2 b0 0 x69.1) a2 (2 : Int32)).bind fun x70 =>
  if ¬ x70.1 = 0 then
  (
    f_L_randomLinker_151 T x70.2 a0 a1 a2 a5 i6 i7 a8 a8 (0 : Int32)
  )
  else
  (
    f_L_randomLinker_151 T x70.2 a0 a1 a2 a5 i6 i7 a8 a8 (1 : Int32)
  )
def f_L_randomLinker_B507 (T : gT) (M : gM) (a0 : Nat) (a1 : Nat) (a2 : Nat) (a5 : Nat) (i6 : Int32) (i7 : Int32) : Option (((gT × gM) ⊕ (Int32 × gT × gM)) × Nat × Nat) :=
  (gkd T a0 8).bind fun _ =>
  (gkd T a1 11).bind fun _ =>
  (gkd T a2 18).bind fun _ =>
  (gkd T a5 16).bind fun _ =>
  if i7 ≤ 0 then
  (
    some (.inl (T, M), 0, 0)
  )
  else
  (
    if i6 ≤ (1 : Int32) then
    (
      some (.inl (T, M), 0, 0)
    )
    else
    (
      (f_X12_below T M a2 i6).bind fun x80 =>
      (f_X12_below T x80.2 a2 i6).bind fun x81 =>
      if x80.1 = x81.1 then
      (
        f_L_randomLinker_633 T x81.2 a0 a1 a2 a5 i6 i7
      )
      else
      (
        (ldr T x81.2 a5 2 21).bind fun b83 =>
        (aldr T x81.2 b83 x80.1 9).bind fun b84 =>
        (ldr T x81.2 b84 2 11).bind fun b85 =>
        (f_L_has T x81.2 b85 x81.1).bind fun x86 =>
        if x86 = 0 then
        (
          (ldr T x81.2 a5 2 21).bind fun b88 =>
          (aldr T x81.2 b88 x80.1 9).bind fun b89 =>
          (ldr T x81.2 a5 2 21).bind fun b90 =>
          (aldr T x81.2 b90 x80.1 9).bind fun b91 =>
          (ldr T x81.2 b91 2 11).bind fun b92 =>
          (f_L_with T x81.2 b92 x81.1).bind fun x93 => cadd x93.2.1 x93.2.2 <|
          (gkd x93.1.2.1 x93.1.1 11).bind fun _ =>
          (f_L_write x93.1.2.1 (sr x93.1.2.2 b89 2 (some x93.1.1)) a0 a1 (gSB + 24)).bind fun x100 =>
          (f_L_wordOf x93.1.2.1 x100 x80.1 (0 : Int32)).bind fun x101 => cadd x101.2.1 x101.2.2 <|
          (gks x101.1.2.1 x101.1.1).bind fun _ =>
          (f_L_write x101.1.2.1 x101.1.2.2 a0 a1 x101.1.1).bind fun x107 =>
          (f_L_write x101.1.2.1 x107 a0 a1 (gSB + 19)).bind fun x108 =>
          (f_L_wordOf x101.1.2.1 x108 x81.1 (0 : Int32)).bind fun x109 => cadd x109.2.1 x109.2.2 <|
          (gks x109.1.2.1 x109.1.1).bind fun _ =>
          (f_L_write x109.1.2.1 x109.1.2.2 a0 a1 x109.1.1).bind fun x115 =>
          (f_L_write x109.1.2.1 x115 a0 a1 (gSB + 25)).bind fun x116 =>
          f_L_randomLinker_633 x109.1.2.1 x116 a0 a1 a2 a5 i6 i7
        )
        else
        (
          f_L_randomLinker_633 T x81.2 a0 a1 a2 a5 i6 i7
        )
      )
    )
  )
def f_L_randomLinker_B301 (T : gT) (M : gM) (a0 : Nat) (a1 : Nat) (a2 : Nat) (a5 : Nat) (i6 : Int32) (i7 : Int32) : Option (((gT × gM) ⊕ (Int32 × gT × gM)) × Nat × Nat) :=
  (gkd T a0 8).bind fun _ =>
  (gkd T a1 11).bind fun _ =>
  (gkd T a2 18).bind fun _ =>
  (gkd T a5 16).bind fun _ =>
  if i7 ≤ 0 then
  (
    some (.inl (T, M), 0, 0)
  )
  else
  (
    if i6 ≤ 0 then
    (
      some (.inl (T, M), 0, 0)
    )
    else
    (
      if (gi M a5 0) ≤ 0 then
      (
        some (.inl (T, M), 0, 0)
      )
      else
      (
        (f_X12_below T M a2 i6).bind fun x126 =>
        (f_X12_below T x126.2 a2 (gi x126.2 a5 0)).bind fun x127 =>
        (ldr T x127.2 a5 2 21).bind fun b128 =>
        (aldr T x127.2 b128 x126.1 9).bind fun b129 =>
        (ldr T x127.2 b129 3 11).bind fun b130 =>
        (ald T x127.2 b130 x127.1).bind fun v131 =>
        if v131 = (-1 : Int32) then
        (
          (f_X12_below T x127.2 a2 (2 : Int32)).bind fun x133 =>
          if ¬ x133.1 = 0 then
          (
            (f_X12_below T x133.2 a2 (gi x133.2 a5 0)).bind fun x135 =>
            f_L_randomLinker_389 T x135.2 a0 a1 a2 a5 i6 i7 x126.1 x127.1 ((-2 : Int32) - x135.1)
          )
          else
          (
            (f_X12_below T x133.2 a2 (10000 : Int32)).bind fun x136 =>
            f_L_randomLinker_389 T x136.2 a0 a1 a2 a5 i6 i7 x126.1 x127.1 x136.1
          )
        )
        else
        (
          f_L_randomLinker_493 T x127.2 a0 a1 a2 a5 i6 i7
        )
      )
    )
  )
def f_L_randomLinker_B95 (T : gT) (M : gM) (a0 : Nat) (a1 : Nat) (a2 : Nat) (a5 : Nat) (i6 : Int32) (i7 : Int32) : Option (((gT × gM) ⊕ (Int32 × gT × gM)) × Nat × Nat) :=
  (gkd T a0 8).bind fun _ =>
  (gkd T a1 11).bind fun _ =>
  (gkd T a2 18).bind fun _ =>
  (gkd T a5 16).bind fun _ =>
  if i6 ≤ i7 then
  (
    some (.inl (T, M), 0, 0)
  )
  else
  (
    (gnew T M (9, 0)).bind fun x144 => cadd 1 4 <|
    (f_X9_init x144.2.1 x144.2.2 x144.1).bind fun x149 => cadd x149.2.1 x149.2.2 <|
    (f_X12_below x149.1.1 x149.1.2 a2 (3 : Int32)).bind fun x155 =>
    if ¬ x155.1 = 0 then
    (
      f_L_randomLinker_130 x149.1.1 x155.2 a0 a1 a2 a5 i6 i7 x144.1 x144.1 a2 (6 : Int32)
    )
    else
    (
      f_L_randomLinker_130 x149.1.1 x155.2 a0 a1 a2 a5 i6 i7 x144.1 x144.1 a2 (1000 : Int32)
    )
  )
def f_L_randomLinker_B31 (T : gT) (M : gM) (a0 : Nat) (a1 : Nat) (a2 : Nat) (i4 : Int32) (a5 : Nat) (i6 : Int32) : Option (((gT × gM) ⊕ (Int32 × gT × gM)) × Nat × Nat) :=
  (gkd T a0 8).bind fun _ =>
  (gkd T a1 11).bind fun _ =>
  (gkd T a2 18).bind fun _ =>
  (gkd T a5 16).bind fun _ =>
  if (gi M a5 0) ≤ i6 then
  (
    some (.inl (T, M), 0, 0)
  )
  else
  (
    (f_L_write T M a0 a1 (gSB + 14)).bind fun x164 =>
    (f_L_wordOf T x164 i6 (1 : Int32)).bind fun x165 => cadd x165.2.1 x165.2.2 <|
    (gks x165.1.2.1 x165.1.1).bind fun _ =>
    (f_L_write x165.1.2.1 x165.1.2.2 a0 a1 x165.1.1).bind fun x171 =>
    (f_L_write x165.1.2.1 x171 a0 a1 (gSB + 17)).bind fun x172 =>
    some (.inr ((i6 + (1 : Int32)), x165.1.2.1, x172), 0, 0)
  )
def f_L_randomLinker_748 (T : gT) (M : gM) (u0 : Option Nat) : Option ((Nat × gT × gM) × Nat × Nat) :=
  (gsm T u0 16).bind fun b173 =>
  some ((b173, T, M), 0, 0)
def f_L_randomLinker_732 (T : gT) (M : gM) (a0 : Nat) (a1 : Nat) (a5 : Nat) (i6 : Int32) : Option ((Nat × gT × gM) × Nat × Nat) :=
  (f_L_loadText T M a0 a1).bind fun x174 => cadd x174.2.1 x174.2.2 <|
  if ¬ x174.1.1 = i6 then
  (
    f_L_randomLinker_748 x174.1.2.1 x174.1.2.2 none
  )
  else
  (
    f_L_randomLinker_748 x174.1.2.1 x174.1.2.2 (some a5)
  )
def f_L_randomLinker_682 (T : gT) (M : gM) (a0 : Nat) (a1 : Nat) (a2 : Nat) (a5 : Nat) (i6 : Int32) : Option ((Nat × gT × gM) × Nat × Nat) :=
  (f_X12_below T M a2 (2 : Int32)).bind fun x179 =>
  if ¬ x179.1 = 0 then
  (
    f_L_randomLinker_732 T x179.2 a0 a1 a5 i6
  )
  else
  (
    (f_X12_below T x179.2 a2 (3 : Int32)).bind fun x181 =>
    (f_X11_random_c T x181.2 a2 x181.1).bind fun x182 => cadd x182.2.1 x182.2.2 <|
    (gkd x182.1.2.1 x182.1.1 17).bind fun _ =>
    (f_L_write x182.1.2.1 (sr x182.1.2.2 a5 4 (some x182.1.1)) a0 a1 (gSB + 27)).bind fun x188 =>
    (gko x182.1.2.1 (gr x188 a5 4) 17).bind fun _ =>
    (gsm x182.1.2.1 (gr x188 a5 4) 17).bind fun b191 =>
    (f_X11_text_c x182.1.2.1 x188 b191 (0 : Int32)).bind fun x190 => cadd x190.2.1 x190.2.2 <|
    (gks x190.1.2.1 x190.1.1).bind fun _ =>
    (f_L_write x190.1.2.1 x190.1.2.2 a0 a1 x190.1.1).bind fun x197 =>
    (f_L_write x190.1.2.1 x197 a0 a1 (gSB + 17)).bind fun x198 =>
    f_L_randomLinker_732 x190.1.2.1 x198 a0 a1 a5 i6
  )
def f_L_randomLinker (T : gT) (M : gM) (a0 : Nat) (a1 : Nat) (a2 : Nat) (i3 : Int32) (i4 : Int32) : Option ((Nat × gT × gM) × Nat × Nat) :=
  (gnew T M (16, 0)).bind fun x199 => cadd 1 5 <|
  (f_X10_init x199.2.1 x199.2.2 x199.1).bind fun x203 => cadd x203.2.1 x203.2.2 <|
  (f_X12_below x203.1.1 x203.1.2 a2 (i3 + (1 : Int32))).bind fun x208 =>
  (f_L_write x203.1.1 (si x208.2 x199.1 0 x208.1) a0 a1 (gSB + 13)).bind fun x209 =>
  (gloopc (fun x => f_L_randomLinker_B31 x.2.1 x.2.2 a0 a1 a2 i4 x199.1 x.1) gFU ((0 : Int32), x203.1.1, x209)).bind fun x210 => cadd x210.2.1 x210.2.2 <|
  (f_X12_below x210.1.1 x210.1.2 a2 (i4 + (1 : Int32))).bind fun x215 =>
  (gnewa x210.1.1 x215.2 21 x215.1 100000).bind fun x216 => cadd 1 (x215.1).toNatClampNeg <|
  (gloopc (fun x => f_L_randomLinker_B95 x.2.1 x.2.2 a0 a1 a2 x199.1 x215.1 x.1) gFU ((0 : Int32), x216.2.1, (sr x216.2.2 x199.1 2 (some x216.1)))).bind fun x221 => cadd x221.2.1 x221.2.2 <|
  (f_X12_below x221.1.1 x221.1.2 a2 (9 : Int32)).bind fun x226 =>
  (gloopc (fun x => f_L_randomLinker_B301 x.2.1 x.2.2 a0 a1 a2 x199.1 x215.1 x.1) gFU (x226.1, x221.1.1, x226.2)).bind fun x227 => cadd x227.2.1 x227.2.2 <|
  (f_X12_below x227.1.1 x227.1.2 a2 (8 : Int32)).bind fun x232 =>
  (gloopc (fun x => f_L_randomLinker_B507 x.2.1 x.2.2 a0 a1 a2 x199.1 x215.1 x.1) gFU (x232.1, x227.1.1, x232.2)).bind fun x233 => cadd x233.2.1 x233.2.2 <|
  (f_X12_below x233.1.1 x233.1.2 a2 (2 : Int32)).bind fun x238 =>
  if ¬ x238.1 = 0 then
  (
    f_L_randomLinker_682 x233.1.1 x238.2 a0 a1 a2 x199.1 x215.1
  )
  else
  (
    (f_X12_below x233.1.1 x238.2 a2 (101 : Int32)).bind fun x240 =>
    (f_L_write x233.1.1 (si x240.2 x199.1 1 x240.1) a0 a1 (gSB + 26)).bind fun x241 =>
    (f_L_writeNumber x233.1.1 x241 a0 a1 (gi x241 x199.1 1)).bind fun x242 =>
    (f_L_write x233.1.1 x242 a0 a1 (gSB + 17)).bind fun x243 =>
    f_L_randomLinker_682 x233.1.1 x243 a0 a1 a2 x199.1 x215.1
  )
def f_L_agrees_182 (T : gT) (M : gM) (a0 : Nat) (a1 : Nat) (a3 : Nat) (i4 : Int32) (i5 : Int32) (k0 : Int32) : Option (((Int32 × gT × gM) ⊕ (Int32 × Int32 × gT × gM)) × Nat × Nat) :=
  some (.inr (k0, (i5 + (1 : Int32)), T, M), 0, 0)
def f_L_agrees_181 (T : gT) (M : gM) (a0 : Nat) (a1 : Nat) (a3 : Nat) (i4 : Int32) (i5 : Int32) : Option (((Int32 × gT × gM) ⊕ (Int32 × Int32 × gT × gM)) × Nat × Nat) :=
  f_L_agrees_182 T M a0 a1 a3 i4 i5 (0 : Int32)
def f_L_agrees_112 (T : gT) (M : gM) (a0 : Nat) (a1 : Nat) (a3 : Nat) (i4 : Int32) (i5 : Int32) (k0 : Int32) : Option (((Int32 × gT × gM) ⊕ (Int32 × Int32 × gT × gM)) × Nat × Nat) :=
  some (.inr (k0, (i5 + (1 : Int32)), T, M), 0, 0)
def f_L_agrees_B122 (T : gT) (M : gM) (a0 : Nat) (a1 : Nat) (i2 : Int32) (a3 : Nat) (i4 : Int32) (i5 : Int32) : Option (((Int32 × gT × gM) ⊕ (Int32 × Int32 × gT × gM)) × Nat × Nat) :=
  (gkd T a0 8).bind fun _ =>
  (gkd T a1 16).bind fun _ =>
  (gkd T a3 15).bind fun _ =>
  if (gi M a1 0) ≤ i5 then
  (
    some (.inl (i2, T, M), 0, 0)
  )
  else
  (
    if i2 = 0 then
    (
      some (.inl (i2, T, M), 0, 0)
    )
    else
    (
      (f_L_offer T M a0 i4 i5).bind fun x9 => cadd 1 6 <|
      (ldr T M a1 2 21).bind fun b10 =>
      (aldr T M b10 i4 9).bind fun b11 =>
      (ldr T M b11 3 11).bind fun b12 =>
      (ald T M b12 i5).bind fun v13 =>
      if ¬ x9 = v13 then
      (
        f_L_agrees_181 T M a0 a1 a3 i4 i5
      )
      else
      (
        (f_L_binding T M a0 i4 i5).bind fun x15 => cadd 1 6 <|
        (aldr T M a3 i4 11).bind fun b16 =>
        (ald T M b16 i5).bind fun v17 =>
        if ¬ x15 = v17 then
        (
          f_L_agrees_181 T M a0 a1 a3 i4 i5
        )
        else
        (
          f_L_agrees_182 T M a0 a1 a3 i4 i5 (1 : Int32)
        )
      )
    )
  )
def f_L_agrees_B77 (T : gT) (M : gM) (a0 : Nat) (a1 : Nat) (i2 : Int32) (a3 : Nat) (i4 : Int32) (i5 : Int32) : Option (((Int32 × gT × gM) ⊕ (Int32 × Int32 × gT × gM)) × Nat × Nat) :=
  (gkd T a0 8).bind fun _ =>
  (gkd T a1 16).bind fun _ =>
  (gkd T a3 15).bind fun _ =>
  if (6 : Int32) ≤ i5 then
  (
    some (.inl (i2, T, M), 0, 0)
  )
  else
  (
    if i2 = 0 then
    (
      some (.inl (i2, T, M), 0, 0)
    )
    else
    (
      (f_L_library T M a0 i4 i5).bind fun x27 => cadd 1 6 <|
      (f_X10_told T M a1 i4 i5).bind fun x28 => cadd x28.2.1 x28.2.2 <|
      if ¬ x27 = x28.1.1 then
      (
        f_L_agrees_112 x28.1.2.1 x28.1.2.2 a0 a1 a3 i4 i5 (0 : Int32)
      )
      else
      (
        f_L_agrees_112 x28.1.2.1 x28.1.2.2 a0 a1 a3 i4 i5 (1 : Int32)
      )
    )
  )
def f_L_agrees_B60 (T : gT) (M : gM) (a0 : Nat) (a1 : Nat) (i2 : Int32) (a3 : Nat) (i4 : Int32) : Option (((Int32 × gT × gM) ⊕ (Int32 × Int32 × gT × gM)) × Nat × Nat) :=
  (gkd T a0 8).bind fun _ =>
  (gkd T a1 16).bind fun _ =>
  (gkd T a3 15).bind fun _ =>
  (ldr T M a1 2 21).bind fun b38 =>
  if (Int32.ofNat (alen T b38)) ≤ i4 then
  (
    some (.inl (i2, T, M), 0, 0)
  )
  else
  (
    if i2 = 0 then
    (
      some (.inl (i2, T, M), 0, 0)
    )
    else
    (
      (gloopc (fun x => f_L_agrees_B77 x.2.2.1 x.2.2.2 a0 a1 x.1 a3 i4 x.2.1) gFU (i2, (0 : Int32), T, M)).bind fun x41 => cadd x41.2.1 x41.2.2 <|
      (gloopc (fun x => f_L_agrees_B122 x.2.2.1 x.2.2.2 a0 a1 x.1 a3 i4 x.2.1) gFU (x41.1.1, (0 : Int32), x41.1.2.1, x41.1.2.2)).bind fun x45 => cadd x45.2.1 x45.2.2 <|
      some (.inr (x45.1.1, (i4 + (1 : Int32)), x45.1.2.1, x45.1.2.2), 0, 0)
    )
  )
def f_L_agrees_232 (T : gT) (M : gM) (k0 : Int32) : Option ((Int32 × gT × gM) × Nat × Nat) :=
  (chk (k0 = 0 ∨ k0 = 1)).bind fun _ =>
  some ((k0, T, M), 0, 0)
def f_L_agrees_231 (T : gT) (M : gM)  : Option ((Int32 × gT × gM) × Nat × Nat) :=
  f_L_agrees_232 T M (0 : Int32)
def f_L_agrees_51 (T : gT) (M : gM) (a0 : Nat) (a1 : Nat) (k0 : Int32) : Option ((Int32 × gT × gM) × Nat × Nat) :=
  (f_X10_bindings T M a1).bind fun x50 => cadd x50.2.1 x50.2.2 <|
  (gkd x50.1.2.1 x50.1.1 15).bind fun _ =>
  (gloopc (fun x => f_L_agrees_B60 x.2.2.1 x.2.2.2 a0 a1 x.1 x50.1.1 x.2.1) gFU (k0, (0 : Int32), x50.1.2.1, x50.1.2.2)).bind fun x54 => cadd x54.2.1 x54.2.2 <|
  if x54.1.1 = 0 then
  (
    f_L_agrees_231 x54.1.2.1 x54.1.2.2 
  )
  else
  (
    (ldr x54.1.2.1 x54.1.2.2 a1 2 21).bind fun b59 =>
    (f_L_library x54.1.2.1 x54.1.2.2 a0 (Int32.ofNat (alen x54.1.2.1 b59)) (0 : Int32)).bind fun x60 => cadd 1 6 <|
    if ¬ x60 = (-2000000097 : Int32) then
    (
      f_L_agrees_231 x54.1.2.1 x54.1.2.2 
    )
    else
    (
      (f_L_winner x54.1.2.1 x54.1.2.2 a0 (gi x54.1.2.2 a1 0)).bind fun x62 => cadd 1 6 <|
      if ¬ x62 = (-2000000097 : Int32) then
      (
        f_L_agrees_231 x54.1.2.1 x54.1.2.2 
      )
      else
      (
        f_L_agrees_232 x54.1.2.1 x54.1.2.2 (1 : Int32)
      )
    )
  )
def f_L_agrees_50 (T : gT) (M : gM) (a0 : Nat) (a1 : Nat) : Option ((Int32 × gT × gM) × Nat × Nat) :=
  f_L_agrees_51 T M a0 a1 (0 : Int32)
def f_L_agrees (T : gT) (M : gM) (a0 : Nat) (a1 : Nat) : Option ((Int32 × gT × gM) × Nat × Nat) :=
  (f_X8_libraries T M a0).bind fun x64 =>
  (ldr T M a1 2 21).bind fun b65 =>
  if ¬ x64 = (Int32.ofNat (alen T b65)) then
  (
    f_L_agrees_50 T M a0 a1
  )
  else
  (
    (f_X8_names T M a0).bind fun x67 =>
    if ¬ x67 = (gi M a1 0) then
    (
      f_L_agrees_50 T M a0 a1
    )
    else
    (
      (f_X8_share T M a0).bind fun x69 =>
      if ¬ x69 = (gi M a1 1) then
      (
        f_L_agrees_50 T M a0 a1
      )
      else
      (
        (f_X8_checksum T M a0).bind fun x71 =>
        (f_X10_sum T x71.2 a1).bind fun x72 => cadd x72.2.1 x72.2.2 <|
        if ¬ (lg_cmp x71.1 x72.1.1) = 0 then
        (
          f_L_agrees_50 x72.1.2.1 x72.1.2.2 a0 a1
        )
        else
        (
          f_L_agrees_51 x72.1.2.1 x72.1.2.2 a0 a1 (1 : Int32)
        )
      )
    )
  )
def f_L_law_1007 (n : Nat) (f : Nat → Int32) (T : gT) (M : gM) (i2 : Int32) (a3 : Nat) (a5 : Nat) (a6 : Nat) (a7 : Nat) (i8 : Int32) (i9 : Int32) (a10 : Nat) (a11 : Nat) (i12 : Int32) (i15 : Int32) (a26 : Nat) (a27 : Nat) (i28 : Int32) (i29 : Int32) : Option (((Nat × gT × gM) ⊕ (Nat × Int32 × gT × gM)) × Nat × Nat) :=
  some (.inr (a26, (i29 + (1 : Int32)), T, M), 0, 0)
def f_L_law_B1138 (n : Nat) (f : Nat → Int32) (T : gT) (M : gM) (i1 : Int32) (i2 : Int32) (a3 : Nat) (a5 : Nat) (a6 : Nat) (a7 : Nat) (i8 : Int32) (i9 : Int32) (a10 : Nat) (i20 : Int32) : Option ((gM) ⊕ (Int32 × gM)) :=
  if i20 ≤ 0 then
  (
    some (.inl M)
  )
  else
  (
    (aldo T M a7 (i20 - (1 : Int32))).bind fun o2 => (gko T o2 16).bind fun _ =>
    (astro T M a7 i20 o2).bind fun M3 =>
    some (.inr ((i20 + (-1 : Int32)), M3))
  )
def f_L_law_B977 (n : Nat) (f : Nat → Int32) (T : gT) (M : gM) (i2 : Int32) (a3 : Nat) (a5 : Nat) (a6 : Nat) (a7 : Nat) (i8 : Int32) (i9 : Int32) (a10 : Nat) (a11 : Nat) (i12 : Int32) (i15 : Int32) (a26 : Nat) (a27 : Nat) (i28 : Int32) (i29 : Int32) : Option (((Nat × gT × gM) ⊕ (Nat × Int32 × gT × gM)) × Nat × Nat) :=
  (gkd T a3 8).bind fun _ =>
  (gkd T a5 18).bind fun _ =>
  (gkd T a6 16).bind fun _ =>
  (gkd T a7 22).bind fun _ =>
  (gkd T a10 16).bind fun _ =>
  (gkd T a11 15).bind fun _ =>
  (gkd T a26 11).bind fun _ =>
  (gkd T a27 11).bind fun _ =>
  if i28 ≤ i29 then
  (
    some (.inl (a26, T, M), 0, 0)
  )
  else
  (
    (ald T M a27 i29).bind fun v21 =>
    if v21 = i15 then
    (
      f_L_law_1007 n f T M i2 a3 a5 a6 a7 i8 i9 a10 a11 i12 i15 a26 a27 i28 i29
    )
    else
    (
      (f_L_with T M a26 v21).bind fun x23 => cadd x23.2.1 x23.2.2 <|
      (gkd x23.1.2.1 x23.1.1 11).bind fun _ =>
      f_L_law_1007 n f x23.1.2.1 x23.1.2.2 i2 a3 a5 a6 a7 i8 i9 a10 a11 i12 i15 x23.1.1 a27 i28 i29
    )
  )
def f_L_law_1240 (n : Nat) (f : Nat → Int32) (T : gT) (M : gM) (i2 : Int32) (a3 : Nat) (a7 : Nat) (i8 : Int32) (i9 : Int32) (k0 : Int32) : Option (((Int32 × gT × gM) ⊕ (Int32 × Int32 × gT × gM)) × Nat × Nat) :=
  some (.inr (k0, (i9 + (1 : Int32)), T, M), 0, 0)
def f_L_law_1239 (n : Nat) (f : Nat → Int32) (T : gT) (M : gM) (i2 : Int32) (a3 : Nat) (a7 : Nat) (i8 : Int32) (i9 : Int32) : Option (((Int32 × gT × gM) ⊕ (Int32 × Int32 × gT × gM)) × Nat × Nat) :=
  f_L_law_1240 n f T M i2 a3 a7 i8 i9 (0 : Int32)
def f_L_law_1188 (n : Nat) (f : Nat → Int32) (T : gT) (M : gM) (i2 : Int32) (a3 : Nat) (a5 : Nat) (a6 : Nat) (a7 : Nat) (i8 : Int32) (i9 : Int32) (k0 : Int32) : Option (((Int32 × Int32 × gT × gM) ⊕ (Int32 × Int32 × Int32 × gT × gM)) × Nat × Nat) :=
  some (.inr (k0, i8, (i9 + (1 : Int32)), T, M), 0, 0)
def f_L_law_1187 (n : Nat) (f : Nat → Int32) (T : gT) (M : gM) (i2 : Int32) (a3 : Nat) (a5 : Nat) (a6 : Nat) (a7 : Nat) (i8 : Int32) (i9 : Int32) : Option (((Int32 × Int32 × gT × gM) ⊕ (Int32 × Int32 × Int32 × gT × gM)) × Nat × Nat) :=
  f_L_law_1188 n f T M i2 a3 a5 a6 a7 i8 i9 (0 : Int32)
def f_L_law_1170 (n : Nat) (f : Nat → Int32) (T : gT) (M : gM) (i1 : Int32) (i2 : Int32) (a3 : Nat) (a5 : Nat) (a6 : Nat) (a7 : Nat) (i8 : Int32) (i9 : Int32) : Option (((Int32 × Int32 × gT × gM) ⊕ (Int32 × Int32 × Int32 × gT × gM)) × Nat × Nat) :=
  if i1 = 0 then
  (
    f_L_law_1187 n f T M i2 a3 a5 a6 a7 i8 i9
  )
  else
  (
    (f_L_agrees T M a3 a6).bind fun x34 => cadd x34.2.1 x34.2.2 <|
    if x34.1.1 = 0 then
    (
      f_L_law_1187 n f x34.1.2.1 x34.1.2.2 i2 a3 a5 a6 a7 i8 i9
    )
    else
    (
      f_L_law_1188 n f x34.1.2.1 x34.1.2.2 i2 a3 a5 a6 a7 i8 i9 (1 : Int32)
    )
  )
def f_L_law_1129 (n : Nat) (f : Nat → Int32) (T : gT) (M : gM) (i1 : Int32) (i2 : Int32) (a3 : Nat) (a5 : Nat) (a6 : Nat) (a7 : Nat) (i8 : Int32) (i9 : Int32) (a10 : Nat) (i12 : Int32) : Option (((Int32 × Int32 × gT × gM) ⊕ (Int32 × Int32 × Int32 × gT × gM)) × Nat × Nat) :=
  if i12 = 0 then
  (
    f_L_law_1170 n f T M i1 i2 a3 a5 a6 a7 i8 i9
  )
  else
  (
    (gloop (fun x => f_L_law_B1138 n f T x.2 i1 i2 a3 a5 a6 a7 i8 i9 a10 x.1) gFU ((8 : Int32), M)).bind fun x41 =>
    (astro T x41 a7 (0 : Int32) (some a10)).bind fun M42 =>
    f_L_law_1170 n f T M42 i1 i2 a3 a5 a6 a7 (i8 + (1 : Int32)) i9
  )
def f_L_law_1128 (n : Nat) (f : Nat → Int32) (T : gT) (M : gM) (i2 : Int32) (a3 : Nat) (a5 : Nat) (a6 : Nat) (a7 : Nat) (i8 : Int32) (i9 : Int32) (a10 : Nat) (i12 : Int32) (k0 : Int32) : Option (((Int32 × Int32 × gT × gM) ⊕ (Int32 × Int32 × Int32 × gT × gM)) × Nat × Nat) :=
  f_L_law_1129 n f T M k0 i2 a3 a5 a6 a7 i8 i9 a10 i12
def f_L_law_1112 (n : Nat) (f : Nat → Int32) (T : gT) (M : gM) (i2 : Int32) (a3 : Nat) (a5 : Nat) (a6 : Nat) (a7 : Nat) (i8 : Int32) (i9 : Int32) (a10 : Nat) (i12 : Int32) (i13 : Int32) (i15 : Int32) : Option (((Int32 × Int32 × gT × gM) ⊕ (Int32 × Int32 × Int32 × gT × gM)) × Nat × Nat) :=
  (f_L_reload T M a3 i15).bind fun x43 => cadd 1 6 <|
  if ¬ x43.1 = i13 then
  (
    f_L_law_1128 n f T x43.2 i2 a3 a5 a6 a7 i8 i9 a10 i12 (0 : Int32)
  )
  else
  (
    f_L_law_1128 n f T x43.2 i2 a3 a5 a6 a7 i8 i9 a10 i12 (1 : Int32)
  )
def f_L_law_1081 (n : Nat) (f : Nat → Int32) (T : gT) (M : gM) (i2 : Int32) (a3 : Nat) (a5 : Nat) (a6 : Nat) (a7 : Nat) (i8 : Int32) (i9 : Int32) (a10 : Nat) (a11 : Nat) (i12 : Int32) (i13 : Int32) (i15 : Int32) : Option (((Int32 × Int32 × gT × gM) ⊕ (Int32 × Int32 × Int32 × gT × gM)) × Nat × Nat) :=
  if i12 = 0 then
  (
    f_L_law_1112 n f T M i2 a3 a5 a6 a7 i8 i9 a10 i12 i13 i15
  )
  else
  (
    (ldr T M a6 3 11).bind fun b46 =>
    (f_L_with T M b46 i15).bind fun x47 => cadd x47.2.1 x47.2.2 <|
    (gkd x47.1.2.1 x47.1.1 11).bind fun _ =>
    (f_X10_changed x47.1.2.1 (sr x47.1.2.2 a6 3 (some x47.1.1)) a6 a11 i15).bind fun x55 => cadd x55.2.1 x55.2.2 <|
    f_L_law_1112 n f x55.1.2.1 x55.1.2.2 i2 a3 a5 a6 a7 i8 i9 a10 i12 x55.1.1 i15
  )
def f_L_law_1070 (n : Nat) (f : Nat → Int32) (T : gT) (M : gM) (i2 : Int32) (a3 : Nat) (a5 : Nat) (a6 : Nat) (a7 : Nat) (i8 : Int32) (i9 : Int32) (a10 : Nat) (a11 : Nat) (i13 : Int32) (i15 : Int32) (i17 : Int32) (k0 : Int32) : Option (((Int32 × Int32 × gT × gM) ⊕ (Int32 × Int32 × Int32 × gT × gM)) × Nat × Nat) :=
  if i17 = 0 then
  (
    f_L_law_1081 n f T M i2 a3 a5 a6 a7 i8 i9 a10 a11 k0 i13 i15
  )
  else
  (
    f_L_law_1081 n f T M i2 a3 a5 a6 a7 i8 i9 a10 a11 k0 (-2000000099 : Int32) i15
  )
def f_L_law_1069 (n : Nat) (f : Nat → Int32) (T : gT) (M : gM) (i2 : Int32) (a3 : Nat) (a5 : Nat) (a6 : Nat) (a7 : Nat) (i8 : Int32) (i9 : Int32) (a10 : Nat) (a11 : Nat) (i13 : Int32) (i15 : Int32) (i17 : Int32) : Option (((Int32 × Int32 × gT × gM) ⊕ (Int32 × Int32 × Int32 × gT × gM)) × Nat × Nat) :=
  f_L_law_1070 n f T M i2 a3 a5 a6 a7 i8 i9 a10 a11 i13 i15 i17 (0 : Int32)
def f_L_law_1046 (n : Nat) (f : Nat → Int32) (T : gT) (M : gM) (i2 : Int32) (a3 : Nat) (a5 : Nat) (a6 : Nat) (a7 : Nat) (i8 : Int32) (i9 : Int32) (a10 : Nat) (i12 : Int32) (k0 : Int32) : Option (((Int32 × Int32 × gT × gM) ⊕ (Int32 × Int32 × Int32 × gT × gM)) × Nat × Nat) :=
  f_L_law_1129 n f T M k0 i2 a3 a5 a6 a7 i8 i9 a10 i12
def f_L_law_1030 (n : Nat) (f : Nat → Int32) (T : gT) (M : gM) (i2 : Int32) (a3 : Nat) (a5 : Nat) (a6 : Nat) (a7 : Nat) (i8 : Int32) (i9 : Int32) (a10 : Nat) (i12 : Int32) (i13 : Int32) (i15 : Int32) : Option (((Int32 × Int32 × gT × gM) ⊕ (Int32 × Int32 × Int32 × gT × gM)) × Nat × Nat) :=
  (f_L_unload T M a3 i15).bind fun x63 => cadd 1 6 <|
  if ¬ x63.1 = i13 then
  (
    f_L_law_1046 n f T x63.2 i2 a3 a5 a6 a7 i8 i9 a10 i12 (0 : Int32)
  )
  else
  (
    f_L_law_1046 n f T x63.2 i2 a3 a5 a6 a7 i8 i9 a10 i12 (1 : Int32)
  )
def f_L_law_952 (n : Nat) (f : Nat → Int32) (T : gT) (M : gM) (i2 : Int32) (a3 : Nat) (a5 : Nat) (a6 : Nat) (a7 : Nat) (i8 : Int32) (i9 : Int32) (a10 : Nat) (a11 : Nat) (i12 : Int32) (i13 : Int32) (i15 : Int32) : Option (((Int32 × Int32 × gT × gM) ⊕ (Int32 × Int32 × Int32 × gT × gM)) × Nat × Nat) :=
  if i12 = 0 then
  (
    f_L_law_1030 n f T M i2 a3 a5 a6 a7 i8 i9 a10 i12 i13 i15
  )
  else
  (
    (gnew T M (11, 0)).bind fun x66 => cadd 1 0 <|
    (ldr x66.2.1 x66.2.2 a6 3 11).bind fun b73 =>
    (gloopc (fun x => f_L_law_B977 n f x.2.2.1 x.2.2.2 i2 a3 a5 a6 a7 i8 i9 a10 a11 i12 i15 x.1 b73 (Int32.ofNat (alen x66.2.1 b73)) x.2.1) gFU (x66.1, (0 : Int32), x66.2.1, x66.2.2)).bind fun x74 => cadd x74.2.1 x74.2.2 <|
    (gkd x74.1.2.1 x74.1.1 11).bind fun _ =>
    (f_X10_changed x74.1.2.1 (sr x74.1.2.2 a6 3 (some x74.1.1)) a6 a11 (-1 : Int32)).bind fun x84 => cadd x84.2.1 x84.2.2 <|
    f_L_law_1030 n f x84.1.2.1 x84.1.2.2 i2 a3 a5 a6 a7 i8 i9 a10 i12 x84.1.1 i15
  )
def f_L_law_941 (n : Nat) (f : Nat → Int32) (T : gT) (M : gM) (i2 : Int32) (a3 : Nat) (a5 : Nat) (a6 : Nat) (a7 : Nat) (i8 : Int32) (i9 : Int32) (a10 : Nat) (a11 : Nat) (i13 : Int32) (i15 : Int32) (i17 : Int32) (k0 : Int32) : Option (((Int32 × Int32 × gT × gM) ⊕ (Int32 × Int32 × Int32 × gT × gM)) × Nat × Nat) :=
  if i17 = 0 then
  (
    f_L_law_952 n f T M i2 a3 a5 a6 a7 i8 i9 a10 a11 k0 i13 i15
  )
  else
  (
    f_L_law_952 n f T M i2 a3 a5 a6 a7 i8 i9 a10 a11 k0 (-2000000099 : Int32) i15
  )
def f_L_law_940 (n : Nat) (f : Nat → Int32) (T : gT) (M : gM) (i2 : Int32) (a3 : Nat) (a5 : Nat) (a6 : Nat) (a7 : Nat) (i8 : Int32) (i9 : Int32) (a10 : Nat) (a11 : Nat) (i13 : Int32) (i15 : Int32) (i17 : Int32) : Option (((Int32 × Int32 × gT × gM) ⊕ (Int32 × Int32 × Int32 × gT × gM)) × Nat × Nat) :=
  f_L_law_941 n f T M i2 a3 a5 a6 a7 i8 i9 a10 a11 i13 i15 i17 (0 : Int32)
def f_L_law_917 (n : Nat) (f : Nat → Int32) (T : gT) (M : gM) (i2 : Int32) (a3 : Nat) (a5 : Nat) (a6 : Nat) (a7 : Nat) (i8 : Int32) (i9 : Int32) (a10 : Nat) (i12 : Int32) (k0 : Int32) : Option (((Int32 × Int32 × gT × gM) ⊕ (Int32 × Int32 × Int32 × gT × gM)) × Nat × Nat) :=
  f_L_law_1129 n f T M k0 i2 a3 a5 a6 a7 i8 i9 a10 i12
def f_L_law_907 (n : Nat) (f : Nat → Int32) (T : gT) (M : gM) (i2 : Int32) (a3 : Nat) (a5 : Nat) (a6 : Nat) (a7 : Nat) (i8 : Int32) (i9 : Int32) (a10 : Nat) (i12 : Int32) (i13 : Int32) (k0 : Int32) : Option (((Int32 × Int32 × gT × gM) ⊕ (Int32 × Int32 × Int32 × gT × gM)) × Nat × Nat) :=
  if ¬ k0 = i13 then
  (
    f_L_law_917 n f T M i2 a3 a5 a6 a7 i8 i9 a10 i12 (0 : Int32)
  )
  else
  (
    f_L_law_917 n f T M i2 a3 a5 a6 a7 i8 i9 a10 i12 (1 : Int32)
  )
def f_L_law_879 (n : Nat) (f : Nat → Int32) (T : gT) (M : gM) (i2 : Int32) (a3 : Nat) (a5 : Nat) (a6 : Nat) (a7 : Nat) (i8 : Int32) (i9 : Int32) (a10 : Nat) (i12 : Int32) (i13 : Int32) (i15 : Int32) (i16 : Int32) (i23 : Int32) (i24 : Int32) (i25 : Int32) : Option (((Int32 × Int32 × gT × gM) ⊕ (Int32 × Int32 × Int32 × gT × gM)) × Nat × Nat) :=
  if i24 = 0 then
  (
    (f_L_offerValue T M a3 i15 i16 i25).bind fun x95 => cadd 1 6 <|
    f_L_law_907 n f T x95.2 i2 a3 a5 a6 a7 i8 i9 a10 i12 i13 x95.1
  )
  else
  (
    (f_L_offerForward T M a3 i15 i16 i23).bind fun x96 => cadd 1 6 <|
    f_L_law_907 n f T x96.2 i2 a3 a5 a6 a7 i8 i9 a10 i12 i13 x96.1
  )
def f_L_law_869 (n : Nat) (f : Nat → Int32) (T : gT) (M : gM) (i2 : Int32) (a3 : Nat) (a5 : Nat) (a6 : Nat) (a7 : Nat) (i8 : Int32) (i9 : Int32) (a10 : Nat) (i12 : Int32) (i15 : Int32) (i16 : Int32) (i23 : Int32) (i24 : Int32) (i25 : Int32) (b0 : Nat) (k1 : Int32) (k2 : Int32) : Option (((Int32 × Int32 × gT × gM) ⊕ (Int32 × Int32 × Int32 × gT × gM)) × Nat × Nat) :=
  (ast T M b0 k1 k2).bind fun M97 =>
  (f_X10_winner T M97 a6 i16).bind fun x98 => cadd x98.2.1 x98.2.2 <|
  f_L_law_879 n f x98.1.2.1 x98.1.2.2 i2 a3 a5 a6 a7 i8 i9 a10 i12 x98.1.1 i15 i16 i23 i24 i25
def f_L_law_842 (n : Nat) (f : Nat → Int32) (T : gT) (M : gM) (i2 : Int32) (a3 : Nat) (a5 : Nat) (a6 : Nat) (a7 : Nat) (i8 : Int32) (i9 : Int32) (a10 : Nat) (i12 : Int32) (i13 : Int32) (i15 : Int32) (i16 : Int32) (o19 : Option Nat) (i23 : Int32) (i24 : Int32) (i25 : Int32) : Option (((Int32 × Int32 × gT × gM) ⊕ (Int32 × Int32 × Int32 × gT × gM)) × Nat × Nat) :=
  if i12 = 0 then
  (
    f_L_law_879 n f T M i2 a3 a5 a6 a7 i8 i9 a10 i12 i13 i15 i16 i23 i24 i25
  )
  else
  (
    (gsm T o19 9).bind fun b105 =>
    (ldr T M b105 3 11).bind fun b106 =>
    if i24 = 0 then
    (
      f_L_law_869 n f T M i2 a3 a5 a6 a7 i8 i9 a10 i12 i15 i16 i23 i24 i25 b106 i16 i25
    )
    else
    (
      f_L_law_869 n f T M i2 a3 a5 a6 a7 i8 i9 a10 i12 i15 i16 i23 i24 i25 b106 i16 ((-2 : Int32) - i23)
    )
  )
def f_L_law_826 (n : Nat) (f : Nat → Int32) (T : gT) (M : gM) (i2 : Int32) (a3 : Nat) (a5 : Nat) (a6 : Nat) (a7 : Nat) (i8 : Int32) (i9 : Int32) (a10 : Nat) (i13 : Int32) (i15 : Int32) (i16 : Int32) (i18 : Int32) (o19 : Option Nat) (i23 : Int32) (i24 : Int32) (i25 : Int32) (k0 : Int32) : Option (((Int32 × Int32 × gT × gM) ⊕ (Int32 × Int32 × Int32 × gT × gM)) × Nat × Nat) :=
  if i18 = 0 then
  (
    f_L_law_842 n f T M i2 a3 a5 a6 a7 i8 i9 a10 k0 i13 i15 i16 o19 i23 i24 i25
  )
  else
  (
    if ¬ i24 = 0 then
    (
      f_L_law_842 n f T M i2 a3 a5 a6 a7 i8 i9 a10 k0 i13 i15 i16 o19 i23 i24 i25
    )
    else
    (
      f_L_law_842 n f T M i2 a3 a5 a6 a7 i8 i9 a10 k0 (-2000000098 : Int32) i15 i16 o19 i23 i24 i25
    )
  )
def f_L_law_825 (n : Nat) (f : Nat → Int32) (T : gT) (M : gM) (i2 : Int32) (a3 : Nat) (a5 : Nat) (a6 : Nat) (a7 : Nat) (i8 : Int32) (i9 : Int32) (a10 : Nat) (i13 : Int32) (i15 : Int32) (i16 : Int32) (i18 : Int32) (o19 : Option Nat) (i23 : Int32) (i24 : Int32) (i25 : Int32) : Option (((Int32 × Int32 × gT × gM) ⊕ (Int32 × Int32 × Int32 × gT × gM)) × Nat × Nat) :=
  f_L_law_826 n f T M i2 a3 a5 a6 a7 i8 i9 a10 i13 i15 i16 i18 o19 i23 i24 i25 (0 : Int32)
def f_L_law_821 (n : Nat) (f : Nat → Int32) (T : gT) (M : gM) (i2 : Int32) (a3 : Nat) (a5 : Nat) (a6 : Nat) (a7 : Nat) (i8 : Int32) (i9 : Int32) (a10 : Nat) (i13 : Int32) (i15 : Int32) (i16 : Int32) (i18 : Int32) (o19 : Option Nat) (i23 : Int32) (i24 : Int32) (i25 : Int32) : Option (((Int32 × Int32 × gT × gM) ⊕ (Int32 × Int32 × Int32 × gT × gM)) × Nat × Nat) :=
  f_L_law_826 n f T M i2 a3 a5 a6 a7 i8 i9 a10 i13 i15 i16 i18 o19 i23 i24 i25 (1 : Int32)
def f_L_law_785 (n : Nat) (f : Nat → Int32) (T : gT) (M : gM) (i2 : Int32) (a3 : Nat) (a5 : Nat) (a6 : Nat) (a7 : Nat) (i8 : Int32) (i9 : Int32) (a10 : Nat) (i13 : Int32) (i15 : Int32) (i16 : Int32) (i18 : Int32) (o19 : Option Nat) (i23 : Int32) (i24 : Int32) (b0 : Nat) (k1 : Int32) : Option (((Int32 × Int32 × gT × gM) ⊕ (Int32 × Int32 × Int32 × gT × gM)) × Nat × Nat) :=
  (f_X12_below T M b0 k1).bind fun x110 =>
  if i18 = 0 then
  (
    f_L_law_825 n f T x110.2 i2 a3 a5 a6 a7 i8 i9 a10 i13 i15 i16 i18 o19 i23 i24 x110.1
  )
  else
  (
    if i24 = 0 then
    (
      if (10000 : Int32) ≤ x110.1 then
      (
        f_L_law_825 n f T x110.2 i2 a3 a5 a6 a7 i8 i9 a10 i13 i15 i16 i18 o19 i23 i24 x110.1
      )
      else
      (
        f_L_law_821 n f T x110.2 i2 a3 a5 a6 a7 i8 i9 a10 i13 i15 i16 i18 o19 i23 i24 x110.1
      )
    )
    else
    (
      if (gi x110.2 a6 0) ≤ i23 then
      (
        f_L_law_825 n f T x110.2 i2 a3 a5 a6 a7 i8 i9 a10 i13 i15 i16 i18 o19 i23 i24 x110.1
      )
      else
      (
        f_L_law_821 n f T x110.2 i2 a3 a5 a6 a7 i8 i9 a10 i13 i15 i16 i18 o19 i23 i24 x110.1
      )
    )
  )
def f_L_law_762 (n : Nat) (f : Nat → Int32) (T : gT) (M : gM) (i2 : Int32) (a3 : Nat) (a5 : Nat) (a6 : Nat) (a7 : Nat) (i8 : Int32) (i9 : Int32) (a10 : Nat) (i13 : Int32) (i15 : Int32) (i16 : Int32) (i18 : Int32) (o19 : Option Nat) (i23 : Int32) (k0 : Int32) : Option (((Int32 × Int32 × gT × gM) ⊕ (Int32 × Int32 × Int32 × gT × gM)) × Nat × Nat) :=
  (f_X12_below T M a5 (9 : Int32)).bind fun x115 =>
  if ¬ x115.1 = 0 then
  (
    f_L_law_785 n f T x115.2 i2 a3 a5 a6 a7 i8 i9 a10 i13 i15 i16 i18 o19 i23 k0 a5 (10000 : Int32)
  )
  else
  (
    f_L_law_785 n f T x115.2 i2 a3 a5 a6 a7 i8 i9 a10 i13 i15 i16 i18 o19 i23 k0 a5 (12000 : Int32)
  )
def f_L_law_730 (n : Nat) (f : Nat → Int32) (T : gT) (M : gM) (i2 : Int32) (a3 : Nat) (a5 : Nat) (a6 : Nat) (a7 : Nat) (i8 : Int32) (i9 : Int32) (a10 : Nat) (i12 : Int32) (k0 : Int32) : Option (((Int32 × Int32 × gT × gM) ⊕ (Int32 × Int32 × Int32 × gT × gM)) × Nat × Nat) :=
  f_L_law_1129 n f T M k0 i2 a3 a5 a6 a7 i8 i9 a10 i12
def f_L_law_712 (n : Nat) (f : Nat → Int32) (T : gT) (M : gM) (i2 : Int32) (a3 : Nat) (a5 : Nat) (a6 : Nat) (a7 : Nat) (i8 : Int32) (i9 : Int32) (a10 : Nat) (i12 : Int32) (i13 : Int32) (i15 : Int32) (i16 : Int32) : Option (((Int32 × Int32 × gT × gM) ⊕ (Int32 × Int32 × Int32 × gT × gM)) × Nat × Nat) :=
  (f_L_withdraw T M a3 i15 i16).bind fun x117 => cadd 1 6 <|
  if ¬ x117.1 = i13 then
  (
    f_L_law_730 n f T x117.2 i2 a3 a5 a6 a7 i8 i9 a10 i12 (0 : Int32)
  )
  else
  (
    f_L_law_730 n f T x117.2 i2 a3 a5 a6 a7 i8 i9 a10 i12 (1 : Int32)
  )
def f_L_law_689 (n : Nat) (f : Nat → Int32) (T : gT) (M : gM) (i2 : Int32) (a3 : Nat) (a5 : Nat) (a6 : Nat) (a7 : Nat) (i8 : Int32) (i9 : Int32) (a10 : Nat) (i12 : Int32) (i13 : Int32) (i15 : Int32) (i16 : Int32) (o19 : Option Nat) : Option (((Int32 × Int32 × gT × gM) ⊕ (Int32 × Int32 × Int32 × gT × gM)) × Nat × Nat) :=
  if i12 = 0 then
  (
    f_L_law_712 n f T M i2 a3 a5 a6 a7 i8 i9 a10 i12 i13 i15 i16
  )
  else
  (
    (gsm T o19 9).bind fun b120 =>
    (ldr T M b120 3 11).bind fun b121 =>
    (ast T M b121 i16 (-1 : Int32)).bind fun M122 =>
    (f_X10_winner T M122 a6 i16).bind fun x123 => cadd x123.2.1 x123.2.2 <|
    f_L_law_712 n f x123.1.2.1 x123.1.2.2 i2 a3 a5 a6 a7 i8 i9 a10 i12 x123.1.1 i15 i16
  )
def f_L_law_678 (n : Nat) (f : Nat → Int32) (T : gT) (M : gM) (i2 : Int32) (a3 : Nat) (a5 : Nat) (a6 : Nat) (a7 : Nat) (i8 : Int32) (i9 : Int32) (a10 : Nat) (i13 : Int32) (i15 : Int32) (i16 : Int32) (i18 : Int32) (o19 : Option Nat) (k0 : Int32) : Option (((Int32 × Int32 × gT × gM) ⊕ (Int32 × Int32 × Int32 × gT × gM)) × Nat × Nat) :=
  if i18 = 0 then
  (
    f_L_law_689 n f T M i2 a3 a5 a6 a7 i8 i9 a10 k0 i13 i15 i16 o19
  )
  else
  (
    f_L_law_689 n f T M i2 a3 a5 a6 a7 i8 i9 a10 k0 (-2000000099 : Int32) i15 i16 o19
  )
def f_L_law_677 (n : Nat) (f : Nat → Int32) (T : gT) (M : gM) (i2 : Int32) (a3 : Nat) (a5 : Nat) (a6 : Nat) (a7 : Nat) (i8 : Int32) (i9 : Int32) (a10 : Nat) (i13 : Int32) (i15 : Int32) (i16 : Int32) (i18 : Int32) (o19 : Option Nat) : Option (((Int32 × Int32 × gT × gM) ⊕ (Int32 × Int32 × Int32 × gT × gM)) × Nat × Nat) :=
  f_L_law_678 n f T M i2 a3 a5 a6 a7 i8 i9 a10 i13 i15 i16 i18 o19 (0 : Int32)
def f_L_law_652 (n : Nat) (f : Nat → Int32) (T : gT) (M : gM) (i2 : Int32) (a3 : Nat) (a5 : Nat) (a6 : Nat) (a7 : Nat) (i8 : Int32) (i9 : Int32) (a10 : Nat) (i12 : Int32) (k0 : Int32) : Option (((Int32 × Int32 × gT × gM) ⊕ (Int32 × Int32 × Int32 × gT × gM)) × Nat × Nat) :=
  f_L_law_1129 n f T M k0 i2 a3 a5 a6 a7 i8 i9 a10 i12
def f_L_law_634 (n : Nat) (f : Nat → Int32) (T : gT) (M : gM) (i2 : Int32) (a3 : Nat) (a5 : Nat) (a6 : Nat) (a7 : Nat) (i8 : Int32) (i9 : Int32) (a10 : Nat) (i12 : Int32) (i13 : Int32) (i15 : Int32) (i22 : Int32) : Option (((Int32 × Int32 × gT × gM) ⊕ (Int32 × Int32 × Int32 × gT × gM)) × Nat × Nat) :=
  (f_L_setTrust T M a3 i15 i22).bind fun x131 => cadd 1 6 <|
  if ¬ x131.1 = i13 then
  (
    f_L_law_652 n f T x131.2 i2 a3 a5 a6 a7 i8 i9 a10 i12 (0 : Int32)
  )
  else
  (
    f_L_law_652 n f T x131.2 i2 a3 a5 a6 a7 i8 i9 a10 i12 (1 : Int32)
  )
def f_L_law_622 (n : Nat) (f : Nat → Int32) (T : gT) (M : gM) (i2 : Int32) (a3 : Nat) (a5 : Nat) (a6 : Nat) (a7 : Nat) (i8 : Int32) (i9 : Int32) (a10 : Nat) (i12 : Int32) (i13 : Int32) (i15 : Int32) (o19 : Option Nat) (i22 : Int32) : Option (((Int32 × Int32 × gT × gM) ⊕ (Int32 × Int32 × Int32 × gT × gM)) × Nat × Nat) :=
  if i12 = 0 then
  (
    f_L_law_634 n f T M i2 a3 a5 a6 a7 i8 i9 a10 i12 i13 i15 i22
  )
  else
  (
    (gsm T o19 9).bind fun b134 =>
    f_L_law_634 n f T (si M b134 0 i22) i2 a3 a5 a6 a7 i8 i9 a10 i12 i13 i15 i22
  )
def f_L_law_620 (n : Nat) (f : Nat → Int32) (T : gT) (M : gM) (i2 : Int32) (a3 : Nat) (a5 : Nat) (a6 : Nat) (a7 : Nat) (i8 : Int32) (i9 : Int32) (a10 : Nat) (i12 : Int32) (i15 : Int32) (o19 : Option Nat) (i22 : Int32) (k0 : Int32) : Option (((Int32 × Int32 × gT × gM) ⊕ (Int32 × Int32 × Int32 × gT × gM)) × Nat × Nat) :=
  f_L_law_622 n f T M i2 a3 a5 a6 a7 i8 i9 a10 i12 k0 i15 o19 i22
def f_L_law_598 (n : Nat) (f : Nat → Int32) (T : gT) (M : gM) (i2 : Int32) (a3 : Nat) (a5 : Nat) (a6 : Nat) (a7 : Nat) (i8 : Int32) (i9 : Int32) (a10 : Nat) (i13 : Int32) (i15 : Int32) (i17 : Int32) (o19 : Option Nat) (i22 : Int32) (k0 : Int32) : Option (((Int32 × Int32 × gT × gM) ⊕ (Int32 × Int32 × Int32 × gT × gM)) × Nat × Nat) :=
  if i17 = 0 then
  (
    f_L_law_622 n f T M i2 a3 a5 a6 a7 i8 i9 a10 k0 i13 i15 o19 i22
  )
  else
  (
    if k0 = 0 then
    (
      f_L_law_620 n f T M i2 a3 a5 a6 a7 i8 i9 a10 k0 i15 o19 i22 (-2000000098 : Int32)
    )
    else
    (
      (gsm T o19 9).bind fun b137 =>
      f_L_law_620 n f T M i2 a3 a5 a6 a7 i8 i9 a10 k0 i15 o19 i22 (gi M b137 0)
    )
  )
def f_L_law_597 (n : Nat) (f : Nat → Int32) (T : gT) (M : gM) (i2 : Int32) (a3 : Nat) (a5 : Nat) (a6 : Nat) (a7 : Nat) (i8 : Int32) (i9 : Int32) (a10 : Nat) (i13 : Int32) (i15 : Int32) (i17 : Int32) (o19 : Option Nat) (i22 : Int32) : Option (((Int32 × Int32 × gT × gM) ⊕ (Int32 × Int32 × Int32 × gT × gM)) × Nat × Nat) :=
  f_L_law_598 n f T M i2 a3 a5 a6 a7 i8 i9 a10 i13 i15 i17 o19 i22 (0 : Int32)
def f_L_law_575 (n : Nat) (f : Nat → Int32) (T : gT) (M : gM) (i2 : Int32) (a3 : Nat) (a5 : Nat) (a6 : Nat) (a7 : Nat) (i8 : Int32) (i9 : Int32) (a10 : Nat) (i13 : Int32) (i15 : Int32) (i17 : Int32) (o19 : Option Nat) (b0 : Nat) (k1 : Int32) : Option (((Int32 × Int32 × gT × gM) ⊕ (Int32 × Int32 × Int32 × gT × gM)) × Nat × Nat) :=
  (f_X12_below T M b0 k1).bind fun x138 =>
  if i17 = 0 then
  (
    f_L_law_597 n f T x138.2 i2 a3 a5 a6 a7 i8 i9 a10 i13 i15 i17 o19 x138.1
  )
  else
  (
    if (1000 : Int32) ≤ x138.1 then
    (
      f_L_law_597 n f T x138.2 i2 a3 a5 a6 a7 i8 i9 a10 i13 i15 i17 o19 x138.1
    )
    else
    (
      f_L_law_598 n f T x138.2 i2 a3 a5 a6 a7 i8 i9 a10 i13 i15 i17 o19 x138.1 (1 : Int32)
    )
  )
def f_L_law_551 (n : Nat) (f : Nat → Int32) (T : gT) (M : gM) (i2 : Int32) (a3 : Nat) (a5 : Nat) (a6 : Nat) (a7 : Nat) (i8 : Int32) (i9 : Int32) (a10 : Nat) (i12 : Int32) (k0 : Int32) : Option (((Int32 × Int32 × gT × gM) ⊕ (Int32 × Int32 × Int32 × gT × gM)) × Nat × Nat) :=
  f_L_law_1129 n f T M k0 i2 a3 a5 a6 a7 i8 i9 a10 i12
def f_L_law_533 (n : Nat) (f : Nat → Int32) (T : gT) (M : gM) (i2 : Int32) (a3 : Nat) (a5 : Nat) (a6 : Nat) (a7 : Nat) (i8 : Int32) (i9 : Int32) (a10 : Nat) (i12 : Int32) (i13 : Int32) (i15 : Int32) (i21 : Int32) : Option (((Int32 × Int32 × gT × gM) ⊕ (Int32 × Int32 × Int32 × gT × gM)) × Nat × Nat) :=
  (f_L_setKeeps T M a3 i15 i21).bind fun x141 => cadd 1 6 <|
  if ¬ x141.1 = i13 then
  (
    f_L_law_551 n f T x141.2 i2 a3 a5 a6 a7 i8 i9 a10 i12 (0 : Int32)
  )
  else
  (
    f_L_law_551 n f T x141.2 i2 a3 a5 a6 a7 i8 i9 a10 i12 (1 : Int32)
  )
def f_L_law_505 (n : Nat) (f : Nat → Int32) (T : gT) (M : gM) (i2 : Int32) (a3 : Nat) (a5 : Nat) (a6 : Nat) (a7 : Nat) (i8 : Int32) (i9 : Int32) (a10 : Nat) (a11 : Nat) (i13 : Int32) (i15 : Int32) (i17 : Int32) (o19 : Option Nat) (k0 : Int32) : Option (((Int32 × Int32 × gT × gM) ⊕ (Int32 × Int32 × Int32 × gT × gM)) × Nat × Nat) :=
  if i17 = 0 then
  (
    f_L_law_533 n f T M i2 a3 a5 a6 a7 i8 i9 a10 i17 i13 i15 k0
  )
  else
  (
    (gsm T o19 9).bind fun b144 =>
    (chk (k0 = 0 ∨ k0 = 1)).bind fun _ =>
    (f_X10_changed T (si M b144 1 k0) a6 a11 (-1 : Int32)).bind fun x146 => cadd x146.2.1 x146.2.2 <|
    f_L_law_533 n f x146.1.2.1 x146.1.2.2 i2 a3 a5 a6 a7 i8 i9 a10 i17 x146.1.1 i15 k0
  )
def f_L_law_487 (n : Nat) (f : Nat → Int32) (T : gT) (M : gM) (i2 : Int32) (a3 : Nat) (a5 : Nat) (a6 : Nat) (a7 : Nat) (i8 : Int32) (i9 : Int32) (a10 : Nat) (i12 : Int32) (k0 : Int32) : Option (((Int32 × Int32 × gT × gM) ⊕ (Int32 × Int32 × Int32 × gT × gM)) × Nat × Nat) :=
  f_L_law_1129 n f T M k0 i2 a3 a5 a6 a7 i8 i9 a10 i12
def f_L_law_479 (n : Nat) (f : Nat → Int32) (T : gT) (M : gM) (i2 : Int32) (a3 : Nat) (a5 : Nat) (a6 : Nat) (a7 : Nat) (i8 : Int32) (i9 : Int32) (a10 : Nat) (i12 : Int32) (k0 : Int32) (k1 : Int32) : Option (((Int32 × Int32 × gT × gM) ⊕ (Int32 × Int32 × Int32 × gT × gM)) × Nat × Nat) :=
  if ¬ k0 = k1 then
  (
    f_L_law_487 n f T M i2 a3 a5 a6 a7 i8 i9 a10 i12 (0 : Int32)
  )
  else
  (
    f_L_law_487 n f T M i2 a3 a5 a6 a7 i8 i9 a10 i12 (1 : Int32)
  )
def f_L_law_455 (n : Nat) (f : Nat → Int32) (T : gT) (M : gM) (i2 : Int32) (a3 : Nat) (a5 : Nat) (a6 : Nat) (a7 : Nat) (i8 : Int32) (i9 : Int32) (a10 : Nat) (a11 : Nat) (i12 : Int32) (i20 : Int32) : Option (((Int32 × Int32 × gT × gM) ⊕ (Int32 × Int32 × Int32 × gT × gM)) × Nat × Nat) :=
  (f_L_setShare T M a3 i20).bind fun x155 => cadd 1 6 <|
  if i12 = 0 then
  (
    f_L_law_479 n f T x155.2 i2 a3 a5 a6 a7 i8 i9 a10 i12 x155.1 (-2000000098 : Int32)
  )
  else
  (
    (f_X10_changed T x155.2 a6 a11 (-1 : Int32)).bind fun x157 => cadd x157.2.1 x157.2.2 <|
    f_L_law_479 n f x157.1.2.1 x157.1.2.2 i2 a3 a5 a6 a7 i8 i9 a10 i12 x155.1 x157.1.1
  )
def f_L_law_441 (n : Nat) (f : Nat → Int32) (T : gT) (M : gM) (i2 : Int32) (a3 : Nat) (a5 : Nat) (a6 : Nat) (a7 : Nat) (i8 : Int32) (i9 : Int32) (a10 : Nat) (a11 : Nat) (i20 : Int32) (k0 : Int32) : Option (((Int32 × Int32 × gT × gM) ⊕ (Int32 × Int32 × Int32 × gT × gM)) × Nat × Nat) :=
  if k0 = 0 then
  (
    f_L_law_455 n f T M i2 a3 a5 a6 a7 i8 i9 a10 a11 k0 i20
  )
  else
  (
    f_L_law_455 n f T (si M a6 1 i20) i2 a3 a5 a6 a7 i8 i9 a10 a11 k0 i20
  )
def f_L_law_424 (n : Nat) (f : Nat → Int32) (T : gT) (M : gM) (i2 : Int32) (a3 : Nat) (a5 : Nat) (a6 : Nat) (a7 : Nat) (i8 : Int32) (i9 : Int32) (a10 : Nat) (a11 : Nat) (b0 : Nat) (k1 : Int32) : Option (((Int32 × Int32 × gT × gM) ⊕ (Int32 × Int32 × Int32 × gT × gM)) × Nat × Nat) :=
  (f_X12_below T M b0 k1).bind fun x165 =>
  if (101 : Int32) ≤ x165.1 then
  (
    f_L_law_441 n f T x165.2 i2 a3 a5 a6 a7 i8 i9 a10 a11 x165.1 (0 : Int32)
  )
  else
  (
    f_L_law_441 n f T x165.2 i2 a3 a5 a6 a7 i8 i9 a10 a11 x165.1 (1 : Int32)
  )
def f_L_law_351 (n : Nat) (f : Nat → Int32) (T : gT) (M : gM) (i2 : Int32) (a3 : Nat) (a5 : Nat) (a6 : Nat) (a7 : Nat) (i8 : Int32) (i9 : Int32) (a10 : Nat) (a11 : Nat) (i13 : Int32) (i15 : Int32) (i16 : Int32) (i17 : Int32) (i18 : Int32) (u0 : Option Nat) : Option (((Int32 × Int32 × gT × gM) ⊕ (Int32 × Int32 × Int32 × gT × gM)) × Nat × Nat) :=
  (f_X12_below T M a5 (9 : Int32)).bind fun x167 =>
  if x167.1 = (0 : Int32) then
  (
    (f_X12_below T x167.2 a5 (9 : Int32)).bind fun x169 =>
    if ¬ x169.1 = 0 then
    (
      f_L_law_424 n f T x169.2 i2 a3 a5 a6 a7 i8 i9 a10 a11 a5 (101 : Int32)
    )
    else
    (
      f_L_law_424 n f T x169.2 i2 a3 a5 a6 a7 i8 i9 a10 a11 a5 (200 : Int32)
    )
  )
  else (
  if x167.1 = (1 : Int32) then
  (
    (f_X12_below T x167.2 a5 (2 : Int32)).bind fun x171 =>
    if ¬ x171.1 = 0 then
    (
      f_L_law_505 n f T x171.2 i2 a3 a5 a6 a7 i8 i9 a10 a11 i13 i15 i17 u0 (0 : Int32)
    )
    else
    (
      f_L_law_505 n f T x171.2 i2 a3 a5 a6 a7 i8 i9 a10 a11 i13 i15 i17 u0 (1 : Int32)
    )
  )
  else (
  if x167.1 = (2 : Int32) then
  (
    (f_X12_below T x167.2 a5 (9 : Int32)).bind fun x173 =>
    if ¬ x173.1 = 0 then
    (
      f_L_law_575 n f T x173.2 i2 a3 a5 a6 a7 i8 i9 a10 i13 i15 i17 u0 a5 (12 : Int32)
    )
    else
    (
      f_L_law_575 n f T x173.2 i2 a3 a5 a6 a7 i8 i9 a10 i13 i15 i17 u0 a5 (1003 : Int32)
    )
  )
  else (
  if x167.1 = (3 : Int32) then
  (
    if i18 = 0 then
    (
      f_L_law_677 n f T x167.2 i2 a3 a5 a6 a7 i8 i9 a10 i13 i15 i16 i18 u0
    )
    else
    (
      (gsm T u0 9).bind fun b176 =>
      (ldr T x167.2 b176 3 11).bind fun b177 =>
      (ald T x167.2 b177 i16).bind fun v178 =>
      if v178 = (-1 : Int32) then
      (
        f_L_law_677 n f T x167.2 i2 a3 a5 a6 a7 i8 i9 a10 i13 i15 i16 i18 u0
      )
      else
      (
        f_L_law_678 n f T x167.2 i2 a3 a5 a6 a7 i8 i9 a10 i13 i15 i16 i18 u0 (1 : Int32)
      )
    )
  )
  else (
  if x167.1 = (4 : Int32) then
  (
    (f_X12_below T x167.2 a5 ((gi x167.2 a6 0) + (1 : Int32))).bind fun x180 =>
    (f_X12_below T x180.2 a5 (2 : Int32)).bind fun x181 =>
    if ¬ x181.1 = 0 then
    (
      f_L_law_762 n f T x181.2 i2 a3 a5 a6 a7 i8 i9 a10 i13 i15 i16 i18 u0 x180.1 (0 : Int32)
    )
    else
    (
      f_L_law_762 n f T x181.2 i2 a3 a5 a6 a7 i8 i9 a10 i13 i15 i16 i18 u0 x180.1 (1 : Int32)
    )
  )
  else (
  if x167.1 = (5 : Int32) then
  (
    (f_X12_below T x167.2 a5 ((gi x167.2 a6 0) + (1 : Int32))).bind fun x183 =>
    (f_X12_below T x183.2 a5 (2 : Int32)).bind fun x184 =>
    if ¬ x184.1 = 0 then
    (
      f_L_law_762 n f T x184.2 i2 a3 a5 a6 a7 i8 i9 a10 i13 i15 i16 i18 u0 x183.1 (0 : Int32)
    )
    else
    (
      f_L_law_762 n f T x184.2 i2 a3 a5 a6 a7 i8 i9 a10 i13 i15 i16 i18 u0 x183.1 (1 : Int32)
    )
  )
  else (
  if x167.1 = (6 : Int32) then
  (
    if i17 = 0 then
    (
      f_L_law_940 n f T x167.2 i2 a3 a5 a6 a7 i8 i9 a10 a11 i13 i15 i17
    )
    else
    (
      (f_X10_rank T x167.2 a6 i15).bind fun x187 =>
      if x187 < 0 then
      (
        f_L_law_940 n f T x167.2 i2 a3 a5 a6 a7 i8 i9 a10 a11 i13 i15 i17
      )
      else
      (
        f_L_law_941 n f T x167.2 i2 a3 a5 a6 a7 i8 i9 a10 a11 i13 i15 i17 (1 : Int32)
      )
    )
  )
  else (
    if i17 = 0 then
    (
      f_L_law_1069 n f T x167.2 i2 a3 a5 a6 a7 i8 i9 a10 a11 i13 i15 i17
    )
    else
    (
      (f_X10_rank T x167.2 a6 i15).bind fun x190 =>
      if 0 ≤ x190 then
      (
        f_L_law_1069 n f T x167.2 i2 a3 a5 a6 a7 i8 i9 a10 a11 i13 i15 i17
      )
      else
      (
        f_L_law_1070 n f T x167.2 i2 a3 a5 a6 a7 i8 i9 a10 a11 i13 i15 i17 (1 : Int32)
      )
    )
  )))))))
def f_L_law_332 (n : Nat) (f : Nat → Int32) (T : gT) (M : gM) (i2 : Int32) (a3 : Nat) (a5 : Nat) (a6 : Nat) (a7 : Nat) (i8 : Int32) (i9 : Int32) (a10 : Nat) (a11 : Nat) (i13 : Int32) (i15 : Int32) (i16 : Int32) (i17 : Int32) (k0 : Int32) : Option (((Int32 × Int32 × gT × gM) ⊕ (Int32 × Int32 × Int32 × gT × gM)) × Nat × Nat) :=
  if i17 = 0 then
  (
    f_L_law_351 n f T M i2 a3 a5 a6 a7 i8 i9 a10 a11 i13 i15 i16 i17 k0 none
  )
  else
  (
    (ldr T M a6 2 21).bind fun b193 =>
    (aldr T M b193 i15 9).bind fun b194 =>
    f_L_law_351 n f T M i2 a3 a5 a6 a7 i8 i9 a10 a11 i13 i15 i16 i17 k0 (some b194)
  )
def f_L_law_331 (n : Nat) (f : Nat → Int32) (T : gT) (M : gM) (i2 : Int32) (a3 : Nat) (a5 : Nat) (a6 : Nat) (a7 : Nat) (i8 : Int32) (i9 : Int32) (a10 : Nat) (a11 : Nat) (i13 : Int32) (i15 : Int32) (i16 : Int32) (i17 : Int32) : Option (((Int32 × Int32 × gT × gM) ⊕ (Int32 × Int32 × Int32 × gT × gM)) × Nat × Nat) :=
  f_L_law_332 n f T M i2 a3 a5 a6 a7 i8 i9 a10 a11 i13 i15 i16 i17 (0 : Int32)
def f_L_law_310 (n : Nat) (f : Nat → Int32) (T : gT) (M : gM) (i2 : Int32) (a3 : Nat) (a5 : Nat) (a6 : Nat) (a7 : Nat) (i8 : Int32) (i9 : Int32) (a10 : Nat) (a11 : Nat) (i13 : Int32) (i15 : Int32) (i16 : Int32) (k0 : Int32) : Option (((Int32 × Int32 × gT × gM) ⊕ (Int32 × Int32 × Int32 × gT × gM)) × Nat × Nat) :=
  if k0 = 0 then
  (
    f_L_law_331 n f T M i2 a3 a5 a6 a7 i8 i9 a10 a11 i13 i15 i16 k0
  )
  else
  (
    if (gi M a6 0) ≤ i16 then
    (
      f_L_law_331 n f T M i2 a3 a5 a6 a7 i8 i9 a10 a11 i13 i15 i16 k0
    )
    else
    (
      f_L_law_332 n f T M i2 a3 a5 a6 a7 i8 i9 a10 a11 i13 i15 i16 k0 (1 : Int32)
    )
  )
def f_L_law_292 (n : Nat) (f : Nat → Int32) (T : gT) (M : gM) (i2 : Int32) (a3 : Nat) (a5 : Nat) (a6 : Nat) (a7 : Nat) (i8 : Int32) (i9 : Int32) (a10 : Nat) (a11 : Nat) (i13 : Int32) (i14 : Int32) (i15 : Int32) (b0 : Nat) (k1 : Int32) (k2 : Int32) : Option (((Int32 × Int32 × gT × gM) ⊕ (Int32 × Int32 × Int32 × gT × gM)) × Nat × Nat) :=
  (f_X12_below T M b0 (k1 + k2)).bind fun x197 =>
  if i14 ≤ i15 then
  (
    f_L_law_310 n f T x197.2 i2 a3 a5 a6 a7 i8 i9 a10 a11 i13 i15 x197.1 (0 : Int32)
  )
  else
  (
    f_L_law_310 n f T x197.2 i2 a3 a5 a6 a7 i8 i9 a10 a11 i13 i15 x197.1 (1 : Int32)
  )
def f_L_law_287 (n : Nat) (f : Nat → Int32) (T : gT) (M : gM) (i2 : Int32) (a3 : Nat) (a5 : Nat) (a6 : Nat) (a7 : Nat) (i8 : Int32) (i9 : Int32) (a10 : Nat) (a11 : Nat) (i13 : Int32) (i14 : Int32) (i15 : Int32) (b0 : Nat) (k1 : Int32) : Option (((Int32 × Int32 × gT × gM) ⊕ (Int32 × Int32 × Int32 × gT × gM)) × Nat × Nat) :=
  f_L_law_292 n f T M i2 a3 a5 a6 a7 i8 i9 a10 a11 i13 i14 i15 b0 k1 (1 : Int32)
def f_L_law_256 (n : Nat) (f : Nat → Int32) (T : gT) (M : gM) (i2 : Int32) (a3 : Nat) (a5 : Nat) (a6 : Nat) (a7 : Nat) (i8 : Int32) (i9 : Int32) (a10 : Nat) (a11 : Nat) (i13 : Int32) (i14 : Int32) (b0 : Nat) (k1 : Int32) (k2 : Int32) : Option (((Int32 × Int32 × gT × gM) ⊕ (Int32 × Int32 × Int32 × gT × gM)) × Nat × Nat) :=
  (f_X12_below T M b0 (k1 + k2)).bind fun x199 =>
  (f_X12_below T x199.2 a5 (12 : Int32)).bind fun x200 =>
  if x200.1 = 0 then
  (
    f_L_law_287 n f T x200.2 i2 a3 a5 a6 a7 i8 i9 a10 a11 i13 i14 x199.1 a5 (gi x199.2 a6 0)
  )
  else
  (
    if ¬ (gi x200.2 a6 0) = 0 then
    (
      f_L_law_292 n f T x200.2 i2 a3 a5 a6 a7 i8 i9 a10 a11 i13 i14 x199.1 a5 (gi x199.2 a6 0) (0 : Int32)
    )
    else
    (
      f_L_law_287 n f T x200.2 i2 a3 a5 a6 a7 i8 i9 a10 a11 i13 i14 x199.1 a5 (gi x199.2 a6 0)
    )
  )
def f_L_law_251 (n : Nat) (f : Nat → Int32) (T : gT) (M : gM) (i2 : Int32) (a3 : Nat) (a5 : Nat) (a6 : Nat) (a7 : Nat) (i8 : Int32) (i9 : Int32) (a10 : Nat) (a11 : Nat) (i13 : Int32) (i14 : Int32) (b0 : Nat) (k1 : Int32) : Option (((Int32 × Int32 × gT × gM) ⊕ (Int32 × Int32 × Int32 × gT × gM)) × Nat × Nat) :=
  f_L_law_256 n f T M i2 a3 a5 a6 a7 i8 i9 a10 a11 i13 i14 b0 k1 (1 : Int32)
def f_L_law_B1198 (n : Nat) (f : Nat → Int32) (T : gT) (M : gM) (i1 : Int32) (i2 : Int32) (a3 : Nat) (a7 : Nat) (i8 : Int32) (i9 : Int32) : Option (((Int32 × gT × gM) ⊕ (Int32 × Int32 × gT × gM)) × Nat × Nat) :=
  (gkd T a3 8).bind fun _ =>
  (gkd T a7 22).bind fun _ =>
  if (8 : Int32) ≤ i9 then
  (
    some (.inl (i1, T, M), 0, 0)
  )
  else
  (
    if i8 ≤ i9 then
    (
      some (.inl (i1, T, M), 0, 0)
    )
    else
    (
      if i1 = 0 then
      (
        some (.inl (i1, T, M), 0, 0)
      )
      else
      (
        (f_X8_undo T M a3).bind fun x213 =>
        if x213.1 < 0 then
        (
          f_L_law_1239 n f T x213.2 i2 a3 a7 i8 i9
        )
        else
        (
          (aldo T x213.2 a7 i9).bind fun o215 => (gko T o215 16).bind fun _ =>
          (gsm T o215 16).bind fun b217 =>
          (f_L_agrees T x213.2 a3 b217).bind fun x216 => cadd x216.2.1 x216.2.2 <|
          if x216.1.1 = 0 then
          (
            f_L_law_1239 n f x216.1.2.1 x216.1.2.2 i2 a3 a7 i8 i9
          )
          else
          (
            f_L_law_1240 n f x216.1.2.1 x216.1.2.2 i2 a3 a7 i8 i9 (1 : Int32)
          )
        )
      )
    )
  )
def f_L_law_B192 (n : Nat) (f : Nat → Int32) (T : gT) (M : gM) (i1 : Int32) (i2 : Int32) (a3 : Nat) (a5 : Nat) (a6 : Nat) (a7 : Nat) (i8 : Int32) (i9 : Int32) : Option (((Int32 × Int32 × gT × gM) ⊕ (Int32 × Int32 × Int32 × gT × gM)) × Nat × Nat) :=
  (gkd T a3 8).bind fun _ =>
  (gkd T a5 18).bind fun _ =>
  (gkd T a6 16).bind fun _ =>
  (gkd T a7 22).bind fun _ =>
  if (35 : Int32) ≤ i9 then
  (
    some (.inl (i1, i8, T, M), 0, 0)
  )
  else
  (
    if i1 = 0 then
    (
      some (.inl (i1, i8, T, M), 0, 0)
    )
    else
    (
      (f_X10_copy T M a6).bind fun x232 => cadd x232.2.1 x232.2.2 <|
      (gkd x232.1.2.1 x232.1.1 16).bind fun _ =>
      (f_X10_bindings x232.1.2.1 x232.1.2.2 a6).bind fun x238 => cadd x238.2.1 x238.2.2 <|
      (gkd x238.1.2.1 x238.1.1 15).bind fun _ =>
      (ldr x238.1.2.1 x238.1.2.2 a6 2 21).bind fun b245 =>
      (f_X12_below x238.1.2.1 x238.1.2.2 a5 (12 : Int32)).bind fun x246 =>
      if x246.1 = 0 then
      (
        f_L_law_251 n f x238.1.2.1 x246.2 i2 a3 a5 a6 a7 i8 i9 x232.1.1 x238.1.1 (-2000000097 : Int32) (Int32.ofNat (alen x238.1.2.1 b245)) a5 (Int32.ofNat (alen x238.1.2.1 b245))
      )
      else
      (
        if ¬ (Int32.ofNat (alen x238.1.2.1 b245)) = 0 then
        (
          f_L_law_256 n f x238.1.2.1 x246.2 i2 a3 a5 a6 a7 i8 i9 x232.1.1 x238.1.1 (-2000000097 : Int32) (Int32.ofNat (alen x238.1.2.1 b245)) a5 (Int32.ofNat (alen x238.1.2.1 b245)) (0 : Int32)
        )
        else
        (
          f_L_law_251 n f x238.1.2.1 x246.2 i2 a3 a5 a6 a7 i8 i9 x232.1.1 x238.1.1 (-2000000097 : Int32) (Int32.ofNat (alen x238.1.2.1 b245)) a5 (Int32.ofNat (alen x238.1.2.1 b245))
        )
      )
    )
  )
def f_L_law_1310 (n : Nat) (f : Nat → Int32) (T : gT) (M : gM) (i2 : Int32) (k0 : Int32) : Option (((Int32) ⊕ (Int32 × Int32)) × Nat × Nat) :=
  some (.inr (k0, (i2 + (1 : Int32))), 0, 0)
def f_L_law_1309 (n : Nat) (f : Nat → Int32) (T : gT) (M : gM) (i2 : Int32) : Option (((Int32) ⊕ (Int32 × Int32)) × Nat × Nat) :=
  f_L_law_1310 n f T M i2 (0 : Int32)
def f_L_law_178 (n : Nat) (f : Nat → Int32) (T : gT) (M : gM) (i2 : Int32) (a3 : Nat) (a5 : Nat) (a6 : Nat) (k0 : Int32) : Option (((Int32) ⊕ (Int32 × Int32)) × Nat × Nat) :=
  (gnew T M (22, 9)).bind fun x249 => cadd 1 9 <|
  (gloopc (fun x => f_L_law_B192 n f x.2.2.2.1 x.2.2.2.2 x.1 i2 a3 a5 a6 x249.1 x.2.1 x.2.2.1) gFU (k0, (0 : Int32), (0 : Int32), x249.2.1, x249.2.2)).bind fun x253 => cadd x253.2.1 x253.2.2 <|
  (gloopc (fun x => f_L_law_B1198 n f x.2.2.1 x.2.2.2 x.1 i2 a3 x249.1 x253.1.2.1 x.2.1) gFU (x253.1.1, (0 : Int32), x253.1.2.2.1, x253.1.2.2.2)).bind fun x258 => cadd x258.2.1 x258.2.2 <|
  if x258.1.1 = 0 then
  (
    f_L_law_1309 n f x258.1.2.1 x258.1.2.2 i2
  )
  else
  (
    (f_L_load x258.1.2.1 x258.1.2.2 a3 (1 : Int32)).bind fun x262 => cadd 3 813 <|
    if ¬ x262.1 = (-2000000098 : Int32) then
    (
      f_L_law_1309 n f x262.2.1 x262.2.2 i2
    )
    else
    (
      (f_L_setTrust x262.2.1 x262.2.2 a3 (-1 : Int32) (-1 : Int32)).bind fun x265 => cadd 1 6 <|
      if ¬ x265.1 = (-2000000097 : Int32) then
      (
        f_L_law_1309 n f x262.2.1 x265.2 i2
      )
      else
      (
        (f_L_call x262.2.1 x265.2 a3 (0 : Int32) (12 : Int32)).bind fun x267 => cadd 1 6 <|
        if ¬ x267.1 = (-2000000097 : Int32) then
        (
          f_L_law_1309 n f x262.2.1 x267.2 i2
        )
        else
        (
          (f_L_candidates x262.2.1 x267.2 a3 (-1 : Int32)).bind fun x269 => cadd 1 6 <|
          if ¬ x269 = (-2000000097 : Int32) then
          (
            f_L_law_1309 n f x262.2.1 x267.2 i2
          )
          else
          (
            (f_L_minority x262.2.1 x267.2 a3 (12 : Int32)).bind fun x271 => cadd 1 6 <|
            if ¬ x271 = (-2000000097 : Int32) then
            (
              f_L_law_1309 n f x262.2.1 x267.2 i2
            )
            else
            (
              f_L_law_1310 n f x262.2.1 x267.2 i2 (1 : Int32)
            )
          )
        )
      )
    )
  )
def f_L_law_177 (n : Nat) (f : Nat → Int32) (T : gT) (M : gM) (i2 : Int32) (a3 : Nat) (a5 : Nat) (a6 : Nat) : Option (((Int32) ⊕ (Int32 × Int32)) × Nat × Nat) :=
  f_L_law_178 n f T M i2 a3 a5 a6 (0 : Int32)
def f_L_law_140 (n : Nat) (f : Nat → Int32) (T : gT) (M : gM) (i2 : Int32) (a3 : Nat) (a4 : Nat) (a5 : Nat) (k0 : Int32) : Option (((Int32) ⊕ (Int32 × Int32)) × Nat × Nat) :=
  (f_L_randomLinker T M a3 a4 a5 (4 : Int32) (5 : Int32)).bind fun x273 => cadd x273.2.1 x273.2.2 <|
  (gkd x273.1.2.1 x273.1.1 16).bind fun _ =>
  if k0 = 0 then
  (
    f_L_law_177 n f x273.1.2.1 x273.1.2.2 i2 a3 a5 x273.1.1
  )
  else
  (
    (f_L_agrees x273.1.2.1 x273.1.2.2 a3 x273.1.1).bind fun x279 => cadd x279.2.1 x279.2.2 <|
    if x279.1.1 = 0 then
    (
      f_L_law_177 n f x279.1.2.1 x279.1.2.2 i2 a3 a5 x273.1.1
    )
    else
    (
      f_L_law_178 n f x279.1.2.1 x279.1.2.2 i2 a3 a5 x273.1.1 (1 : Int32)
    )
  )
def f_L_law_139 (n : Nat) (f : Nat → Int32) (T : gT) (M : gM) (i2 : Int32) (a3 : Nat) (a4 : Nat) (a5 : Nat) : Option (((Int32) ⊕ (Int32 × Int32)) × Nat × Nat) :=
  f_L_law_140 n f T M i2 a3 a4 a5 (0 : Int32)
def f_L_law_B4 (n : Nat) (f : Nat → Int32) (i1 : Int32) (i2 : Int32) : Option (((Int32) ⊕ (Int32 × Int32)) × Nat × Nat) :=
  if (Int32.ofNat n) ≤ i2 then
  (
    (chk (i1 = 0 ∨ i1 = 1)).bind fun _ =>
    some (.inl i1, 0, 0)
  )
  else
  (
    if (2 : Int32) ≤ i2 then
    (
      (chk (i1 = 0 ∨ i1 = 1)).bind fun _ =>
      some (.inl i1, 0, 0)
    )
    else
    (
      if i1 = 0 then
      (
        (chk (i1 = 0 ∨ i1 = 1)).bind fun _ =>
        some (.inl i1, 0, 0)
      )
      else
      (
        (gnew ([]) gM0 (8, 0)).bind fun x294 => cadd 1 9 <|
        (f_X8_init x294.2.1 x294.2.2 x294.1).bind fun x295 => cadd 310 5334 <|
        (gnew x295.1 x295.2 (11, 8)).bind fun x297 => cadd 1 8 <|
        (gnew x297.2.1 x297.2.2 (18, 0)).bind fun x299 => cadd 1 1 <|
        (scr n f i2).bind fun v302 =>
        (f_X12_init x299.2.1 x299.2.2 x299.1 v302).bind fun x303 =>
        (gnew x299.2.1 x303 (16, 0)).bind fun x304 => cadd 1 5 <|
        (f_X10_init x304.2.1 x304.2.2 x304.1).bind fun x308 => cadd x308.2.1 x308.2.2 <|
        (f_L_agrees x308.1.1 x308.1.2 x294.1 x304.1).bind fun x313 => cadd x313.2.1 x313.2.2 <|
        if x313.1.1 = 0 then
        (
          f_L_law_139 n f x313.1.2.1 x313.1.2.2 i2 x294.1 x297.1 x299.1
        )
        else
        (
          (f_X8_errorOffset x313.1.2.1 x313.1.2.2 x294.1).bind fun x318 =>
          if ¬ x318 = (-1 : Int32) then
          (
            f_L_law_139 n f x313.1.2.1 x313.1.2.2 i2 x294.1 x297.1 x299.1
          )
          else
          (
            (f_X8_undo x313.1.2.1 x313.1.2.2 x294.1).bind fun x320 =>
            if ¬ x320.1 = (-1 : Int32) then
            (
              f_L_law_139 n f x313.1.2.1 x320.2 i2 x294.1 x297.1 x299.1
            )
            else
            (
              (f_L_unload x313.1.2.1 x320.2 x294.1 (0 : Int32)).bind fun x322 => cadd 1 6 <|
              if ¬ x322.1 = (-2000000097 : Int32) then
              (
                f_L_law_139 n f x313.1.2.1 x322.2 i2 x294.1 x297.1 x299.1
              )
              else
              (
                (f_L_offerValue x313.1.2.1 x322.2 x294.1 (0 : Int32) (0 : Int32) (10000 : Int32)).bind fun x324 => cadd 1 6 <|
                if ¬ x324.1 = (-2000000097 : Int32) then
                (
                  f_L_law_139 n f x313.1.2.1 x324.2 i2 x294.1 x297.1 x299.1
                )
                else
                (
                  (f_L_setShare x313.1.2.1 x324.2 x294.1 (101 : Int32)).bind fun x326 => cadd 1 6 <|
                  if ¬ x326.1 = (-2000000098 : Int32) then
                  (
                    f_L_law_139 n f x313.1.2.1 x326.2 i2 x294.1 x297.1 x299.1
                  )
                  else
                  (
                    (f_L_setShare x313.1.2.1 x326.2 x294.1 (100 : Int32)).bind fun x328 => cadd 1 6 <|
                    if ¬ x328.1 = 0 then
                    (
                      f_L_law_139 n f x313.1.2.1 x328.2 i2 x294.1 x297.1 x299.1
                    )
                    else
                    (
                      (f_X8_share x313.1.2.1 x328.2 x294.1).bind fun x330 =>
                      if ¬ x330 = (100 : Int32) then
                      (
                        f_L_law_139 n f x313.1.2.1 x328.2 i2 x294.1 x297.1 x299.1
                      )
                      else
                      (
                        (f_X8_undo x313.1.2.1 x328.2 x294.1).bind fun x332 =>
                        if ¬ x332.1 = 0 then
                        (
                          f_L_law_139 n f x313.1.2.1 x332.2 i2 x294.1 x297.1 x299.1
                        )
                        else
                        (
                          f_L_law_140 n f x313.1.2.1 x332.2 i2 x294.1 x297.1 x299.1 (1 : Int32)
                        )
                      )
                    )
                  )
                )
              )
            )
          )
        )
      )
    )
  )
def f_L_law (n : Nat) (f : Nat → Int32)  : Option ((Int32) × Nat × Nat) :=
  (gloopc (fun x => f_L_law_B4 n f   x.1 x.2) gFU ((1 : Int32), (0 : Int32))).bind fun x334 => cadd x334.2.1 x334.2.2 <|
  some (x334.1, 0, 0)
