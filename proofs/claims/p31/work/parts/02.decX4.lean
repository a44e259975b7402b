theorem dX4_init_0 : decode cX4_init 0 = .ok (.aload_n 0, 1) := by decide +kernel
theorem dX4_init_1 : decode cX4_init 1 = .ok (.invokespecial 3, 3) := by decide +kernel
theorem dX4_init_4 : decode cX4_init 4 = .ok (.aload_n 0, 1) := by decide +kernel
theorem dX4_init_5 : decode cX4_init 5 = .ok (.bipush 96, 2) := by decide +kernel
theorem dX4_init_7 : decode cX4_init 7 = .ok (.newarray .int, 2) := by decide +kernel
theorem dX4_init_9 : decode cX4_init 9 = .ok (.putfield 9, 3) := by decide +kernel
theorem dX4_init_12 : decode cX4_init 12 = .ok (.aload_n 0, 1) := by decide +kernel
theorem dX4_init_13 : decode cX4_init 13 = .ok (.iconst (-1), 1) := by decide +kernel
theorem dX4_init_14 : decode cX4_init 14 = .ok (.putfield 15, 3) := by decide +kernel
theorem dX4_init_17 : decode cX4_init 17 = .ok (.aload_n 0, 1) := by decide +kernel
theorem dX4_init_18 : decode cX4_init 18 = .ok (.iconst 0, 1) := by decide +kernel
theorem dX4_init_19 : decode cX4_init 19 = .ok (.putfield 19, 3) := by decide +kernel
theorem dX4_init_22 : decode cX4_init 22 = .ok (.return_, 1) := by decide +kernel
theorem dX4_follow_0 : decode cX4_follow 0 = .ok (.aload_n 0, 1) := by decide +kernel
theorem dX4_follow_1 : decode cX4_follow 1 = .ok (.getfield 9, 3) := by decide +kernel
theorem dX4_follow_4 : decode cX4_follow 4 = .ok (.iconst 0, 1) := by decide +kernel
theorem dX4_follow_5 : decode cX4_follow 5 = .ok (.invokestatic 22, 3) := by decide +kernel
theorem dX4_follow_8 : decode cX4_follow 8 = .ok (.aload_n 0, 1) := by decide +kernel
theorem dX4_follow_9 : decode cX4_follow 9 = .ok (.bipush (-2), 2) := by decide +kernel
theorem dX4_follow_11 : decode cX4_follow 11 = .ok (.putfield 15, 3) := by decide +kernel
theorem dX4_follow_14 : decode cX4_follow 14 = .ok (.aload_n 0, 1) := by decide +kernel
theorem dX4_follow_15 : decode cX4_follow 15 = .ok (.iconst 0, 1) := by decide +kernel
theorem dX4_follow_16 : decode cX4_follow 16 = .ok (.putfield 19, 3) := by decide +kernel
theorem dX4_follow_19 : decode cX4_follow 19 = .ok (.iload_n 3, 1) := by decide +kernel
theorem dX4_follow_20 : decode cX4_follow 20 = .ok (.istore 5, 2) := by decide +kernel
theorem dX4_follow_22 : decode cX4_follow 22 = .ok (.iload 4, 2) := by decide +kernel
theorem dX4_follow_24 : decode cX4_follow 24 = .ok (.istore 6, 2) := by decide +kernel
theorem dX4_follow_26 : decode cX4_follow 26 = .ok (.iconst 0, 1) := by decide +kernel
theorem dX4_follow_27 : decode cX4_follow 27 = .ok (.istore 7, 2) := by decide +kernel
theorem dX4_follow_29 : decode cX4_follow 29 = .ok (.iload 7, 2) := by decide +kernel
theorem dX4_follow_31 : decode cX4_follow 31 = .ok (.bipush 96, 2) := by decide +kernel
theorem dX4_follow_33 : decode cX4_follow 33 = .ok (.if_icmp .ge 108, 3) := by decide +kernel
theorem dX4_follow_36 : decode cX4_follow 36 = .ok (.iload 5, 2) := by decide +kernel
theorem dX4_follow_38 : decode cX4_follow 38 = .ok (.iload 6, 2) := by decide +kernel
theorem dX4_follow_40 : decode cX4_follow 40 = .ok (.invokestatic 28, 3) := by decide +kernel
theorem dX4_follow_43 : decode cX4_follow 43 = .ok (.istore 8, 2) := by decide +kernel
theorem dX4_follow_45 : decode cX4_follow 45 = .ok (.aload_n 0, 1) := by decide +kernel
theorem dX4_follow_46 : decode cX4_follow 46 = .ok (.getfield 9, 3) := by decide +kernel
theorem dX4_follow_49 : decode cX4_follow 49 = .ok (.iload 8, 2) := by decide +kernel
theorem dX4_follow_51 : decode cX4_follow 51 = .ok (.iaload, 1) := by decide +kernel
theorem dX4_follow_52 : decode cX4_follow 52 = .ok (.ifCond .eq 4, 3) := by decide +kernel
theorem dX4_follow_55 : decode cX4_follow 55 = .ok (.return_, 1) := by decide +kernel
theorem dX4_follow_56 : decode cX4_follow 56 = .ok (.aload_n 0, 1) := by decide +kernel
theorem dX4_follow_57 : decode cX4_follow 57 = .ok (.getfield 9, 3) := by decide +kernel
theorem dX4_follow_60 : decode cX4_follow 60 = .ok (.iload 8, 2) := by decide +kernel
theorem dX4_follow_62 : decode cX4_follow 62 = .ok (.iconst 1, 1) := by decide +kernel
theorem dX4_follow_63 : decode cX4_follow 63 = .ok (.iastore, 1) := by decide +kernel
theorem dX4_follow_64 : decode cX4_follow 64 = .ok (.aload_n 2, 1) := by decide +kernel
theorem dX4_follow_65 : decode cX4_follow 65 = .ok (.getfield 32, 3) := by decide +kernel
theorem dX4_follow_68 : decode cX4_follow 68 = .ok (.iload 8, 2) := by decide +kernel
theorem dX4_follow_70 : decode cX4_follow 70 = .ok (.iaload, 1) := by decide +kernel
theorem dX4_follow_71 : decode cX4_follow 71 = .ok (.istore 9, 2) := by decide +kernel
theorem dX4_follow_73 : decode cX4_follow 73 = .ok (.iload 9, 2) := by decide +kernel
theorem dX4_follow_75 : decode cX4_follow 75 = .ok (.iconst (-1), 1) := by decide +kernel
theorem dX4_follow_76 : decode cX4_follow 76 = .ok (.if_icmp .ne 9, 3) := by decide +kernel
theorem dX4_follow_79 : decode cX4_follow 79 = .ok (.aload_n 0, 1) := by decide +kernel
theorem dX4_follow_80 : decode cX4_follow 80 = .ok (.iconst (-1), 1) := by decide +kernel
theorem dX4_follow_81 : decode cX4_follow 81 = .ok (.putfield 15, 3) := by decide +kernel
theorem dX4_follow_84 : decode cX4_follow 84 = .ok (.return_, 1) := by decide +kernel
theorem dX4_follow_85 : decode cX4_follow 85 = .ok (.aload_n 0, 1) := by decide +kernel
theorem dX4_follow_86 : decode cX4_follow 86 = .ok (.dup, 1) := by decide +kernel
theorem dX4_follow_87 : decode cX4_follow 87 = .ok (.getfield 19, 3) := by decide +kernel
theorem dX4_follow_90 : decode cX4_follow 90 = .ok (.iconst 1, 1) := by decide +kernel
theorem dX4_follow_91 : decode cX4_follow 91 = .ok (.iadd, 1) := by decide +kernel
theorem dX4_follow_92 : decode cX4_follow 92 = .ok (.putfield 19, 3) := by decide +kernel
theorem dX4_follow_95 : decode cX4_follow 95 = .ok (.aload_n 1, 1) := by decide +kernel
theorem dX4_follow_96 : decode cX4_follow 96 = .ok (.getfield 37, 3) := by decide +kernel
theorem dX4_follow_99 : decode cX4_follow 99 = .ok (.iload 9, 2) := by decide +kernel
theorem dX4_follow_101 : decode cX4_follow 101 = .ok (.aaload, 1) := by decide +kernel
theorem dX4_follow_102 : decode cX4_follow 102 = .ok (.getfield 43, 3) := by decide +kernel
theorem dX4_follow_105 : decode cX4_follow 105 = .ok (.iload 6, 2) := by decide +kernel
theorem dX4_follow_107 : decode cX4_follow 107 = .ok (.iaload, 1) := by decide +kernel
theorem dX4_follow_108 : decode cX4_follow 108 = .ok (.istore 10, 2) := by decide +kernel
theorem dX4_follow_110 : decode cX4_follow 110 = .ok (.iload 10, 2) := by decide +kernel
theorem dX4_follow_112 : decode cX4_follow 112 = .ok (.bipush (-2), 2) := by decide +kernel
theorem dX4_follow_114 : decode cX4_follow 114 = .ok (.if_icmp .le 10, 3) := by decide +kernel
theorem dX4_follow_117 : decode cX4_follow 117 = .ok (.aload_n 0, 1) := by decide +kernel
theorem dX4_follow_118 : decode cX4_follow 118 = .ok (.iload 10, 2) := by decide +kernel
theorem dX4_follow_120 : decode cX4_follow 120 = .ok (.putfield 15, 3) := by decide +kernel
theorem dX4_follow_123 : decode cX4_follow 123 = .ok (.return_, 1) := by decide +kernel
theorem dX4_follow_124 : decode cX4_follow 124 = .ok (.iload 9, 2) := by decide +kernel
theorem dX4_follow_126 : decode cX4_follow 126 = .ok (.istore 5, 2) := by decide +kernel
theorem dX4_follow_128 : decode cX4_follow 128 = .ok (.bipush (-2), 2) := by decide +kernel
theorem dX4_follow_130 : decode cX4_follow 130 = .ok (.iload 10, 2) := by decide +kernel
theorem dX4_follow_132 : decode cX4_follow 132 = .ok (.isub, 1) := by decide +kernel
theorem dX4_follow_133 : decode cX4_follow 133 = .ok (.istore 6, 2) := by decide +kernel
theorem dX4_follow_135 : decode cX4_follow 135 = .ok (.iinc 7 1, 3) := by decide +kernel
theorem dX4_follow_138 : decode cX4_follow 138 = .ok (.goto (-109), 3) := by decide +kernel
theorem dX4_follow_141 : decode cX4_follow 141 = .ok (.return_, 1) := by decide +kernel
