theorem dX12_init_0 : decode cX12_init 0 = .ok (.aload_n 0, 1) := by decide +kernel
theorem dX12_init_1 : decode cX12_init 1 = .ok (.invokespecial 1, 3) := by decide +kernel
theorem dX12_init_4 : decode cX12_init 4 = .ok (.aload_n 0, 1) := by decide +kernel
theorem dX12_init_5 : decode cX12_init 5 = .ok (.iload_n 1, 1) := by decide +kernel
theorem dX12_init_6 : decode cX12_init 6 = .ok (.putfield 7, 3) := by decide +kernel
theorem dX12_init_9 : decode cX12_init 9 = .ok (.return_, 1) := by decide +kernel
theorem dX12_below_0 : decode cX12_below 0 = .ok (.aload_n 0, 1) := by decide +kernel
theorem dX12_below_1 : decode cX12_below 1 = .ok (.ldc 13, 2) := by decide +kernel
theorem dX12_below_3 : decode cX12_below 3 = .ok (.aload_n 0, 1) := by decide +kernel
theorem dX12_below_4 : decode cX12_below 4 = .ok (.getfield 7, 3) := by decide +kernel
theorem dX12_below_7 : decode cX12_below 7 = .ok (.imul, 1) := by decide +kernel
theorem dX12_below_8 : decode cX12_below 8 = .ok (.sipush 12345, 3) := by decide +kernel
theorem dX12_below_11 : decode cX12_below 11 = .ok (.iadd, 1) := by decide +kernel
theorem dX12_below_12 : decode cX12_below 12 = .ok (.putfield 7, 3) := by decide +kernel
theorem dX12_below_15 : decode cX12_below 15 = .ok (.aload_n 0, 1) := by decide +kernel
theorem dX12_below_16 : decode cX12_below 16 = .ok (.getfield 7, 3) := by decide +kernel
theorem dX12_below_19 : decode cX12_below 19 = .ok (.bipush 16, 2) := by decide +kernel
theorem dX12_below_21 : decode cX12_below 21 = .ok (.iushr, 1) := by decide +kernel
theorem dX12_below_22 : decode cX12_below 22 = .ok (.iload_n 1, 1) := by decide +kernel
theorem dX12_below_23 : decode cX12_below 23 = .ok (.irem, 1) := by decide +kernel
theorem dX12_below_24 : decode cX12_below 24 = .ok (.ireturn, 1) := by decide +kernel
