/-! THE WORDS OF THE TABLES, the fields, the methods -/
theorem gC_0 : gC 0 RX0 TX0 5 tyX0 := ⟨rfl, by decide +kernel, tyX0_ok, nmX0, rfl, by decide, trivial⟩
theorem gDf_0 : gDf 0 5 tyX0 := by
  unfold gDf
  decide +kernel
theorem g_own0 {R : String} {TT : u_T} {N : Nat} {ty : Nat → FieldType} (h : gC 0 R TT N ty) : TT = TX0 := congrArg (fun z : vw_C => z.2.1) (Option.some.inj (h.1.symm.trans (rfl : vwCl[0]? = some (RX0, TX0, 5))))
theorem gC_1 : gC 1 RX1 TX1 7 tyX1 := ⟨rfl, by decide +kernel, tyX1_ok, nmX1, rfl, by decide, trivial⟩
theorem gDf_1 : gDf 1 7 tyX1 := by
  unfold gDf
  decide +kernel
theorem g_own1 {R : String} {TT : u_T} {N : Nat} {ty : Nat → FieldType} (h : gC 1 R TT N ty) : TT = TX1 := congrArg (fun z : vw_C => z.2.1) (Option.some.inj (h.1.symm.trans (rfl : vwCl[1]? = some (RX1, TX1, 7))))
theorem gC_2 : gC 2 RX2 TX2 3 tyX2 := ⟨rfl, by decide +kernel, tyX2_ok, nmX2, rfl, by decide, trivial⟩
theorem gDf_2 : gDf 2 3 tyX2 := by
  unfold gDf
  decide +kernel
theorem g_own2 {R : String} {TT : u_T} {N : Nat} {ty : Nat → FieldType} (h : gC 2 R TT N ty) : TT = TX2 := congrArg (fun z : vw_C => z.2.1) (Option.some.inj (h.1.symm.trans (rfl : vwCl[2]? = some (RX2, TX2, 3))))
theorem gC_3 : gC 3 RX3 TX3 6 tyX3 := ⟨rfl, by decide +kernel, tyX3_ok, nmX3, rfl, by decide, trivial⟩
theorem gDf_3 : gDf 3 6 tyX3 := by
  unfold gDf
  decide +kernel
theorem g_own3 {R : String} {TT : u_T} {N : Nat} {ty : Nat → FieldType} (h : gC 3 R TT N ty) : TT = TX3 := congrArg (fun z : vw_C => z.2.1) (Option.some.inj (h.1.symm.trans (rfl : vwCl[3]? = some (RX3, TX3, 6))))
theorem gC_4 : gC 4 RX4 TX4 3 tyX4 := ⟨rfl, by decide +kernel, tyX4_ok, nmX4, rfl, by decide, trivial⟩
theorem gDf_4 : gDf 4 3 tyX4 := by
  unfold gDf
  decide +kernel
theorem g_own4 {R : String} {TT : u_T} {N : Nat} {ty : Nat → FieldType} (h : gC 4 R TT N ty) : TT = TX4 := congrArg (fun z : vw_C => z.2.1) (Option.some.inj (h.1.symm.trans (rfl : vwCl[4]? = some (RX4, TX4, 3))))
theorem gC_5 : gC 5 RX5 TX5 11 tyX5 := ⟨rfl, by decide +kernel, tyX5_ok, nmX5, rfl, by decide, trivial⟩
theorem gDf_5 : gDf 5 11 tyX5 := by
  unfold gDf
  decide +kernel
theorem g_own5 {R : String} {TT : u_T} {N : Nat} {ty : Nat → FieldType} (h : gC 5 R TT N ty) : TT = TX5 := congrArg (fun z : vw_C => z.2.1) (Option.some.inj (h.1.symm.trans (rfl : vwCl[5]? = some (RX5, TX5, 11))))
theorem gC_6 : gC 6 RX6 TX6 8 tyX6 := ⟨rfl, by decide +kernel, tyX6_ok, nmX6, rfl, by decide, trivial⟩
theorem gDf_6 : gDf 6 8 tyX6 := by
  unfold gDf
  decide +kernel
theorem g_own6 {R : String} {TT : u_T} {N : Nat} {ty : Nat → FieldType} (h : gC 6 R TT N ty) : TT = TX6 := congrArg (fun z : vw_C => z.2.1) (Option.some.inj (h.1.symm.trans (rfl : vwCl[6]? = some (RX6, TX6, 8))))
theorem gC_7 : gC 7 RX7 TX7 2 tyX7 := ⟨rfl, by decide +kernel, tyX7_ok, nmX7, rfl, by decide, trivial⟩
theorem gDf_7 : gDf 7 2 tyX7 := by
  unfold gDf
  decide +kernel
theorem g_own7 {R : String} {TT : u_T} {N : Nat} {ty : Nat → FieldType} (h : gC 7 R TT N ty) : TT = TX7 := congrArg (fun z : vw_C => z.2.1) (Option.some.inj (h.1.symm.trans (rfl : vwCl[7]? = some (RX7, TX7, 2))))
theorem gC_8 : gC 8 RX8 TX8 9 tyX8 := ⟨rfl, by decide +kernel, tyX8_ok, nmX8, rfl, by decide, trivial⟩
theorem gDf_8 : gDf 8 9 tyX8 := by
  unfold gDf
  decide +kernel
theorem g_own8 {R : String} {TT : u_T} {N : Nat} {ty : Nat → FieldType} (h : gC 8 R TT N ty) : TT = TX8 := congrArg (fun z : vw_C => z.2.1) (Option.some.inj (h.1.symm.trans (rfl : vwCl[8]? = some (RX8, TX8, 9))))
theorem gC_9 : gC 9 RX9 TX9 4 tyX9 := ⟨rfl, by decide +kernel, tyX9_ok, nmX9, rfl, by decide, trivial⟩
theorem gDf_9 : gDf 9 4 tyX9 := by
  unfold gDf
  decide +kernel
theorem g_own9 {R : String} {TT : u_T} {N : Nat} {ty : Nat → FieldType} (h : gC 9 R TT N ty) : TT = TX9 := congrArg (fun z : vw_C => z.2.1) (Option.some.inj (h.1.symm.trans (rfl : vwCl[9]? = some (RX9, TX9, 4))))
theorem gC_16 : gC 16 RX10 TX10 5 tyX10 := ⟨rfl, by decide +kernel, tyX10_ok, nmX10, rfl, by decide, trivial⟩
theorem gDf_16 : gDf 16 5 tyX10 := by
  unfold gDf
  decide +kernel
theorem g_own16 {R : String} {TT : u_T} {N : Nat} {ty : Nat → FieldType} (h : gC 16 R TT N ty) : TT = TX10 := congrArg (fun z : vw_C => z.2.1) (Option.some.inj (h.1.symm.trans (rfl : vwCl[16]? = some (RX10, TX10, 5))))
theorem gC_17 : gC 17 RX11 TX11 4 tyX11 := ⟨rfl, by decide +kernel, tyX11_ok, nmX11, rfl, by decide, trivial⟩
theorem gDf_17 : gDf 17 4 tyX11 := by
  unfold gDf
  decide +kernel
theorem g_own17 {R : String} {TT : u_T} {N : Nat} {ty : Nat → FieldType} (h : gC 17 R TT N ty) : TT = TX11 := congrArg (fun z : vw_C => z.2.1) (Option.some.inj (h.1.symm.trans (rfl : vwCl[17]? = some (RX11, TX11, 4))))
theorem gC_18 : gC 18 RX12 TX12 1 tyX12 := ⟨rfl, by decide +kernel, tyX12_ok, nmX12, rfl, by decide, trivial⟩
theorem gDf_18 : gDf 18 1 tyX12 := by
  unfold gDf
  decide +kernel
theorem g_own18 {R : String} {TT : u_T} {N : Nat} {ty : Nat → FieldType} (h : gC 18 R TT N ty) : TT = TX12 := congrArg (fun z : vw_C => z.2.1) (Option.some.inj (h.1.symm.trans (rfl : vwCl[18]? = some (RX12, TX12, 1))))
theorem gC_19 : gC 19 RJ0 TJ0 4 tyJ0 := ⟨rfl, by decide +kernel, tyJ0_ok, nmJ0, rfl, by decide, trivial⟩
theorem gDf_19 : gDf 19 4 tyJ0 := by
  unfold gDf
  decide +kernel
theorem g_own19 {R : String} {TT : u_T} {N : Nat} {ty : Nat → FieldType} (h : gC 19 R TT N ty) : TT = TJ0 := congrArg (fun z : vw_C => z.2.1) (Option.some.inj (h.1.symm.trans (rfl : vwCl[19]? = some (RJ0, TJ0, 4))))
theorem gC_20 : gC 20 RJ4 TJ4 4 tyJ4 := ⟨rfl, by decide +kernel, tyJ4_ok, nmJ4, rfl, by decide, trivial⟩
theorem gDf_20 : gDf 20 4 tyJ4 := by
  unfold gDf
  decide +kernel
theorem g_own20 {R : String} {TT : u_T} {N : Nat} {ty : Nat → FieldType} (h : gC 20 R TT N ty) : TT = TJ4 := congrArg (fun z : vw_C => z.2.1) (Option.some.inj (h.1.symm.trans (rfl : vwCl[20]? = some (RJ4, TJ4, 4))))
