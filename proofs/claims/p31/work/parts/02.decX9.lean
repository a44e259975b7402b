theorem dX9_init_0 : decode cX9_init 0 = .ok (.aload_n 0, 1) := by decide +kernel
theorem dX9_init_1 : decode cX9_init 1 = .ok (.invokespecial 1, 3) := by decide +kernel
theorem dX9_init_4 : decode cX9_init 4 = .ok (.aload_n 0, 1) := by decide +kernel
theorem dX9_init_5 : decode cX9_init 5 = .ok (.iconst 0, 1) := by decide +kernel
theorem dX9_init_6 : decode cX9_init 6 = .ok (.newarray .int, 2) := by decide +kernel
theorem dX9_init_8 : decode cX9_init 8 = .ok (.putfield 7, 3) := by decide +kernel
theorem dX9_init_11 : decode cX9_init 11 = .ok (.return_, 1) := by decide +kernel
theorem dX9_copy_0 : decode cX9_copy 0 = .ok (.new 8, 3) := by decide +kernel
theorem dX9_copy_3 : decode cX9_copy 3 = .ok (.dup, 1) := by decide +kernel
theorem dX9_copy_4 : decode cX9_copy 4 = .ok (.invokespecial 13, 3) := by decide +kernel
theorem dX9_copy_7 : decode cX9_copy 7 = .ok (.astore_n 1, 1) := by decide +kernel
theorem dX9_copy_8 : decode cX9_copy 8 = .ok (.aload_n 1, 1) := by decide +kernel
theorem dX9_copy_9 : decode cX9_copy 9 = .ok (.aload_n 0, 1) := by decide +kernel
theorem dX9_copy_10 : decode cX9_copy 10 = .ok (.getfield 14, 3) := by decide +kernel
theorem dX9_copy_13 : decode cX9_copy 13 = .ok (.putfield 14, 3) := by decide +kernel
theorem dX9_copy_16 : decode cX9_copy 16 = .ok (.aload_n 1, 1) := by decide +kernel
theorem dX9_copy_17 : decode cX9_copy 17 = .ok (.aload_n 0, 1) := by decide +kernel
theorem dX9_copy_18 : decode cX9_copy 18 = .ok (.getfield 18, 3) := by decide +kernel
theorem dX9_copy_21 : decode cX9_copy 21 = .ok (.putfield 18, 3) := by decide +kernel
theorem dX9_copy_24 : decode cX9_copy 24 = .ok (.aload_n 1, 1) := by decide +kernel
theorem dX9_copy_25 : decode cX9_copy 25 = .ok (.aload_n 0, 1) := by decide +kernel
theorem dX9_copy_26 : decode cX9_copy 26 = .ok (.getfield 7, 3) := by decide +kernel
theorem dX9_copy_29 : decode cX9_copy 29 = .ok (.putfield 7, 3) := by decide +kernel
theorem dX9_copy_32 : decode cX9_copy 32 = .ok (.aload_n 1, 1) := by decide +kernel
theorem dX9_copy_33 : decode cX9_copy 33 = .ok (.aload_n 0, 1) := by decide +kernel
theorem dX9_copy_34 : decode cX9_copy 34 = .ok (.getfield 22, 3) := by decide +kernel
theorem dX9_copy_37 : decode cX9_copy 37 = .ok (.invokevirtual 25, 3) := by decide +kernel
theorem dX9_copy_40 : decode cX9_copy 40 = .ok (.checkcast 26, 3) := by decide +kernel
theorem dX9_copy_43 : decode cX9_copy 43 = .ok (.putfield 22, 3) := by decide +kernel
theorem dX9_copy_46 : decode cX9_copy 46 = .ok (.aload_n 1, 1) := by decide +kernel
theorem dX9_copy_47 : decode cX9_copy 47 = .ok (.areturn, 1) := by decide +kernel
theorem dX9_offered_0 : decode cX9_offered 0 = .ok (.iconst 0, 1) := by decide +kernel
theorem dX9_offered_1 : decode cX9_offered 1 = .ok (.istore_n 1, 1) := by decide +kernel
theorem dX9_offered_2 : decode cX9_offered 2 = .ok (.aload_n 0, 1) := by decide +kernel
theorem dX9_offered_3 : decode cX9_offered 3 = .ok (.getfield 22, 3) := by decide +kernel
theorem dX9_offered_6 : decode cX9_offered 6 = .ok (.astore_n 2, 1) := by decide +kernel
theorem dX9_offered_7 : decode cX9_offered 7 = .ok (.aload_n 2, 1) := by decide +kernel
theorem dX9_offered_8 : decode cX9_offered 8 = .ok (.arraylength, 1) := by decide +kernel
theorem dX9_offered_9 : decode cX9_offered 9 = .ok (.istore_n 3, 1) := by decide +kernel
theorem dX9_offered_10 : decode cX9_offered 10 = .ok (.iconst 0, 1) := by decide +kernel
theorem dX9_offered_11 : decode cX9_offered 11 = .ok (.istore 4, 2) := by decide +kernel
theorem dX9_offered_13 : decode cX9_offered 13 = .ok (.iload 4, 2) := by decide +kernel
theorem dX9_offered_15 : decode cX9_offered 15 = .ok (.iload_n 3, 1) := by decide +kernel
theorem dX9_offered_16 : decode cX9_offered 16 = .ok (.if_icmp .ge 24, 3) := by decide +kernel
theorem dX9_offered_19 : decode cX9_offered 19 = .ok (.aload_n 2, 1) := by decide +kernel
theorem dX9_offered_20 : decode cX9_offered 20 = .ok (.iload 4, 2) := by decide +kernel
theorem dX9_offered_22 : decode cX9_offered 22 = .ok (.iaload, 1) := by decide +kernel
theorem dX9_offered_23 : decode cX9_offered 23 = .ok (.istore 5, 2) := by decide +kernel
theorem dX9_offered_25 : decode cX9_offered 25 = .ok (.iload 5, 2) := by decide +kernel
theorem dX9_offered_27 : decode cX9_offered 27 = .ok (.iconst (-1), 1) := by decide +kernel
theorem dX9_offered_28 : decode cX9_offered 28 = .ok (.if_icmp .eq 6, 3) := by decide +kernel
theorem dX9_offered_31 : decode cX9_offered 31 = .ok (.iinc 1 1, 3) := by decide +kernel
theorem dX9_offered_34 : decode cX9_offered 34 = .ok (.iinc 4 1, 3) := by decide +kernel
theorem dX9_offered_37 : decode cX9_offered 37 = .ok (.goto (-24), 3) := by decide +kernel
theorem dX9_offered_40 : decode cX9_offered 40 = .ok (.iload_n 1, 1) := by decide +kernel
theorem dX9_offered_41 : decode cX9_offered 41 = .ok (.ireturn, 1) := by decide +kernel
