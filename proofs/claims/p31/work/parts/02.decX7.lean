theorem dX7_init_0 : decode cX7_init 0 = .ok (.aload_n 0, 1) := by decide +kernel
theorem dX7_init_1 : decode cX7_init 1 = .ok (.invokespecial 1, 3) := by decide +kernel
theorem dX7_init_4 : decode cX7_init 4 = .ok (.aload_n 0, 1) := by decide +kernel
theorem dX7_init_5 : decode cX7_init 5 = .ok (.bipush 11, 2) := by decide +kernel
theorem dX7_init_7 : decode cX7_init 7 = .ok (.newarray .int, 2) := by decide +kernel
theorem dX7_init_9 : decode cX7_init 9 = .ok (.putfield 9, 3) := by decide +kernel
theorem dX7_init_12 : decode cX7_init 12 = .ok (.aload_n 0, 1) := by decide +kernel
theorem dX7_init_13 : decode cX7_init 13 = .ok (.aload_n 1, 1) := by decide +kernel
theorem dX7_init_14 : decode cX7_init 14 = .ok (.putfield 13, 3) := by decide +kernel
theorem dX7_init_17 : decode cX7_init 17 = .ok (.return_, 1) := by decide +kernel
theorem dX7_valueOf_0 : decode cX7_valueOf 0 = .ok (.iconst 0, 1) := by decide +kernel
theorem dX7_valueOf_1 : decode cX7_valueOf 1 = .ok (.istore 5, 2) := by decide +kernel
theorem dX7_valueOf_3 : decode cX7_valueOf 3 = .ok (.iconst 0, 1) := by decide +kernel
theorem dX7_valueOf_4 : decode cX7_valueOf 4 = .ok (.istore 6, 2) := by decide +kernel
theorem dX7_valueOf_6 : decode cX7_valueOf 6 = .ok (.iload 6, 2) := by decide +kernel
theorem dX7_valueOf_8 : decode cX7_valueOf 8 = .ok (.aload_n 0, 1) := by decide +kernel
theorem dX7_valueOf_9 : decode cX7_valueOf 9 = .ok (.getfield 13, 3) := by decide +kernel
theorem dX7_valueOf_12 : decode cX7_valueOf 12 = .ok (.arraylength, 1) := by decide +kernel
theorem dX7_valueOf_13 : decode cX7_valueOf 13 = .ok (.if_icmp .ge 96, 3) := by decide +kernel
theorem dX7_valueOf_16 : decode cX7_valueOf 16 = .ok (.aload_n 0, 1) := by decide +kernel
theorem dX7_valueOf_17 : decode cX7_valueOf 17 = .ok (.getfield 13, 3) := by decide +kernel
theorem dX7_valueOf_20 : decode cX7_valueOf 20 = .ok (.iload 6, 2) := by decide +kernel
theorem dX7_valueOf_22 : decode cX7_valueOf 22 = .ok (.iaload, 1) := by decide +kernel
theorem dX7_valueOf_23 : decode cX7_valueOf 23 = .ok (.istore 7, 2) := by decide +kernel
theorem dX7_valueOf_25 : decode cX7_valueOf 25 = .ok (.iload 7, 2) := by decide +kernel
theorem dX7_valueOf_27 : decode cX7_valueOf 27 = .ok (.bipush (-5), 2) := by decide +kernel
theorem dX7_valueOf_29 : decode cX7_valueOf 29 = .ok (.if_icmp .gt 47, 3) := by decide +kernel
theorem dX7_valueOf_32 : decode cX7_valueOf 32 = .ok (.iload 5, 2) := by decide +kernel
theorem dX7_valueOf_34 : decode cX7_valueOf 34 = .ok (.iconst 2, 1) := by decide +kernel
theorem dX7_valueOf_35 : decode cX7_valueOf 35 = .ok (.if_icmp .lt 68, 3) := by decide +kernel
theorem dX7_valueOf_38 : decode cX7_valueOf 38 = .ok (.iinc 5 (-1), 3) := by decide +kernel
theorem dX7_valueOf_41 : decode cX7_valueOf 41 = .ok (.aload_n 0, 1) := by decide +kernel
theorem dX7_valueOf_42 : decode cX7_valueOf 42 = .ok (.getfield 9, 3) := by decide +kernel
theorem dX7_valueOf_45 : decode cX7_valueOf 45 = .ok (.iload 5, 2) := by decide +kernel
theorem dX7_valueOf_47 : decode cX7_valueOf 47 = .ok (.iconst 1, 1) := by decide +kernel
theorem dX7_valueOf_48 : decode cX7_valueOf 48 = .ok (.isub, 1) := by decide +kernel
theorem dX7_valueOf_49 : decode cX7_valueOf 49 = .ok (.iload 7, 2) := by decide +kernel
theorem dX7_valueOf_51 : decode cX7_valueOf 51 = .ok (.aload_n 0, 1) := by decide +kernel
theorem dX7_valueOf_52 : decode cX7_valueOf 52 = .ok (.getfield 9, 3) := by decide +kernel
theorem dX7_valueOf_55 : decode cX7_valueOf 55 = .ok (.iload 5, 2) := by decide +kernel
theorem dX7_valueOf_57 : decode cX7_valueOf 57 = .ok (.iconst 1, 1) := by decide +kernel
theorem dX7_valueOf_58 : decode cX7_valueOf 58 = .ok (.isub, 1) := by decide +kernel
theorem dX7_valueOf_59 : decode cX7_valueOf 59 = .ok (.iaload, 1) := by decide +kernel
theorem dX7_valueOf_60 : decode cX7_valueOf 60 = .ok (.i2l, 1) := by decide +kernel
theorem dX7_valueOf_61 : decode cX7_valueOf 61 = .ok (.aload_n 0, 1) := by decide +kernel
theorem dX7_valueOf_62 : decode cX7_valueOf 62 = .ok (.getfield 9, 3) := by decide +kernel
theorem dX7_valueOf_65 : decode cX7_valueOf 65 = .ok (.iload 5, 2) := by decide +kernel
theorem dX7_valueOf_67 : decode cX7_valueOf 67 = .ok (.iaload, 1) := by decide +kernel
theorem dX7_valueOf_68 : decode cX7_valueOf 68 = .ok (.i2l, 1) := by decide +kernel
theorem dX7_valueOf_69 : decode cX7_valueOf 69 = .ok (.invokestatic 16, 3) := by decide +kernel
theorem dX7_valueOf_72 : decode cX7_valueOf 72 = .ok (.iastore, 1) := by decide +kernel
theorem dX7_valueOf_73 : decode cX7_valueOf 73 = .ok (.goto 30, 3) := by decide +kernel
theorem dX7_valueOf_76 : decode cX7_valueOf 76 = .ok (.iload 5, 2) := by decide +kernel
theorem dX7_valueOf_78 : decode cX7_valueOf 78 = .ok (.bipush 11, 2) := by decide +kernel
theorem dX7_valueOf_80 : decode cX7_valueOf 80 = .ok (.if_icmp .ge 23, 3) := by decide +kernel
theorem dX7_valueOf_83 : decode cX7_valueOf 83 = .ok (.aload_n 0, 1) := by decide +kernel
theorem dX7_valueOf_84 : decode cX7_valueOf 84 = .ok (.getfield 9, 3) := by decide +kernel
theorem dX7_valueOf_87 : decode cX7_valueOf 87 = .ok (.iload 5, 2) := by decide +kernel
theorem dX7_valueOf_89 : decode cX7_valueOf 89 = .ok (.iload 7, 2) := by decide +kernel
theorem dX7_valueOf_91 : decode cX7_valueOf 91 = .ok (.iload_n 1, 1) := by decide +kernel
theorem dX7_valueOf_92 : decode cX7_valueOf 92 = .ok (.iload_n 2, 1) := by decide +kernel
theorem dX7_valueOf_93 : decode cX7_valueOf 93 = .ok (.iload_n 3, 1) := by decide +kernel
theorem dX7_valueOf_94 : decode cX7_valueOf 94 = .ok (.iload 4, 2) := by decide +kernel
theorem dX7_valueOf_96 : decode cX7_valueOf 96 = .ok (.invokestatic 20, 3) := by decide +kernel
theorem dX7_valueOf_99 : decode cX7_valueOf 99 = .ok (.iastore, 1) := by decide +kernel
theorem dX7_valueOf_100 : decode cX7_valueOf 100 = .ok (.iinc 5 1, 3) := by decide +kernel
theorem dX7_valueOf_103 : decode cX7_valueOf 103 = .ok (.iinc 6 1, 3) := by decide +kernel
theorem dX7_valueOf_106 : decode cX7_valueOf 106 = .ok (.goto (-100), 3) := by decide +kernel
theorem dX7_valueOf_109 : decode cX7_valueOf 109 = .ok (.aload_n 0, 1) := by decide +kernel
theorem dX7_valueOf_110 : decode cX7_valueOf 110 = .ok (.getfield 9, 3) := by decide +kernel
theorem dX7_valueOf_113 : decode cX7_valueOf 113 = .ok (.iconst 0, 1) := by decide +kernel
theorem dX7_valueOf_114 : decode cX7_valueOf 114 = .ok (.iaload, 1) := by decide +kernel
theorem dX7_valueOf_115 : decode cX7_valueOf 115 = .ok (.i2l, 1) := by decide +kernel
theorem dX7_valueOf_116 : decode cX7_valueOf 116 = .ok (.iconst 0, 1) := by decide +kernel
theorem dX7_valueOf_117 : decode cX7_valueOf 117 = .ok (.sipush 9999, 3) := by decide +kernel
theorem dX7_valueOf_120 : decode cX7_valueOf 120 = .ok (.invokestatic 24, 3) := by decide +kernel
theorem dX7_valueOf_123 : decode cX7_valueOf 123 = .ok (.ireturn, 1) := by decide +kernel
theorem dX7_factorValue_0 : decode cX7_factorValue 0 = .ok (.iload_n 0, 1) := by decide +kernel
theorem dX7_factorValue_1 : decode cX7_factorValue 1 = .ok (.tableswitch 40 (-4) (-1) #[37, 35, 33, 31], 31) := by decide +kernel
theorem dX7_factorValue_32 : decode cX7_factorValue 32 = .ok (.iload_n 1, 1) := by decide +kernel
theorem dX7_factorValue_33 : decode cX7_factorValue 33 = .ok (.ireturn, 1) := by decide +kernel
theorem dX7_factorValue_34 : decode cX7_factorValue 34 = .ok (.iload_n 2, 1) := by decide +kernel
theorem dX7_factorValue_35 : decode cX7_factorValue 35 = .ok (.ireturn, 1) := by decide +kernel
theorem dX7_factorValue_36 : decode cX7_factorValue 36 = .ok (.iload_n 3, 1) := by decide +kernel
theorem dX7_factorValue_37 : decode cX7_factorValue 37 = .ok (.ireturn, 1) := by decide +kernel
theorem dX7_factorValue_38 : decode cX7_factorValue 38 = .ok (.iload 4, 2) := by decide +kernel
theorem dX7_factorValue_40 : decode cX7_factorValue 40 = .ok (.ireturn, 1) := by decide +kernel
theorem dX7_factorValue_41 : decode cX7_factorValue 41 = .ok (.iload_n 0, 1) := by decide +kernel
theorem dX7_factorValue_42 : decode cX7_factorValue 42 = .ok (.ireturn, 1) := by decide +kernel
theorem dX7_operate_0 : decode cX7_operate 0 = .ok (.iload_n 0, 1) := by decide +kernel
theorem dX7_operate_1 : decode cX7_operate 1 = .ok (.tableswitch 51 (-7) (-5) #[43, 35, 27], 27) := by decide +kernel
theorem dX7_operate_28 : decode cX7_operate 28 = .ok (.lload_n 1, 1) := by decide +kernel
theorem dX7_operate_29 : decode cX7_operate 29 = .ok (.lload_n 3, 1) := by decide +kernel
theorem dX7_operate_30 : decode cX7_operate 30 = .ok (.ladd, 1) := by decide +kernel
theorem dX7_operate_31 : decode cX7_operate 31 = .ok (.lstore 5, 2) := by decide +kernel
theorem dX7_operate_33 : decode cX7_operate 33 = .ok (.goto 34, 3) := by decide +kernel
theorem dX7_operate_36 : decode cX7_operate 36 = .ok (.lload_n 1, 1) := by decide +kernel
theorem dX7_operate_37 : decode cX7_operate 37 = .ok (.lload_n 3, 1) := by decide +kernel
theorem dX7_operate_38 : decode cX7_operate 38 = .ok (.lsub, 1) := by decide +kernel
theorem dX7_operate_39 : decode cX7_operate 39 = .ok (.lstore 5, 2) := by decide +kernel
theorem dX7_operate_41 : decode cX7_operate 41 = .ok (.goto 26, 3) := by decide +kernel
theorem dX7_operate_44 : decode cX7_operate 44 = .ok (.lload_n 1, 1) := by decide +kernel
theorem dX7_operate_45 : decode cX7_operate 45 = .ok (.lload_n 3, 1) := by decide +kernel
theorem dX7_operate_46 : decode cX7_operate 46 = .ok (.lmul, 1) := by decide +kernel
theorem dX7_operate_47 : decode cX7_operate 47 = .ok (.lstore 5, 2) := by decide +kernel
theorem dX7_operate_49 : decode cX7_operate 49 = .ok (.goto 18, 3) := by decide +kernel
theorem dX7_operate_52 : decode cX7_operate 52 = .ok (.lload_n 3, 1) := by decide +kernel
theorem dX7_operate_53 : decode cX7_operate 53 = .ok (.lconst 0, 1) := by decide +kernel
theorem dX7_operate_54 : decode cX7_operate 54 = .ok (.lcmp, 1) := by decide +kernel
theorem dX7_operate_55 : decode cX7_operate 55 = .ok (.ifCond .ne 7, 3) := by decide +kernel
theorem dX7_operate_58 : decode cX7_operate 58 = .ok (.lconst 0, 1) := by decide +kernel
theorem dX7_operate_59 : decode cX7_operate 59 = .ok (.goto 6, 3) := by decide +kernel
theorem dX7_operate_62 : decode cX7_operate 62 = .ok (.lload_n 1, 1) := by decide +kernel
theorem dX7_operate_63 : decode cX7_operate 63 = .ok (.lload_n 3, 1) := by decide +kernel
theorem dX7_operate_64 : decode cX7_operate 64 = .ok (.ldiv, 1) := by decide +kernel
theorem dX7_operate_65 : decode cX7_operate 65 = .ok (.lstore 5, 2) := by decide +kernel
theorem dX7_operate_67 : decode cX7_operate 67 = .ok (.lload 5, 2) := by decide +kernel
theorem dX7_operate_69 : decode cX7_operate 69 = .ok (.ldc 28, 2) := by decide +kernel
theorem dX7_operate_71 : decode cX7_operate 71 = .ok (.ldc 29, 2) := by decide +kernel
theorem dX7_operate_73 : decode cX7_operate 73 = .ok (.invokestatic 24, 3) := by decide +kernel
theorem dX7_operate_76 : decode cX7_operate 76 = .ok (.ireturn, 1) := by decide +kernel
theorem dX7_limited_0 : decode cX7_limited 0 = .ok (.iload_n 2, 1) := by decide +kernel
theorem dX7_limited_1 : decode cX7_limited 1 = .ok (.i2l, 1) := by decide +kernel
theorem dX7_limited_2 : decode cX7_limited 2 = .ok (.iload_n 3, 1) := by decide +kernel
theorem dX7_limited_3 : decode cX7_limited 3 = .ok (.i2l, 1) := by decide +kernel
theorem dX7_limited_4 : decode cX7_limited 4 = .ok (.lload_n 0, 1) := by decide +kernel
theorem dX7_limited_5 : decode cX7_limited 5 = .ok (.invokestatic 30, 3) := by decide +kernel
theorem dX7_limited_8 : decode cX7_limited 8 = .ok (.invokestatic 36, 3) := by decide +kernel
theorem dX7_limited_11 : decode cX7_limited 11 = .ok (.l2i, 1) := by decide +kernel
theorem dX7_limited_12 : decode cX7_limited 12 = .ok (.ireturn, 1) := by decide +kernel
