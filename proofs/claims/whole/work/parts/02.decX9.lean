theorem dX9_init_0 : decode cX9_init 0 = .ok (.aload_n 0, 1) := by decide +kernel
theorem dX9_init_1 : decode cX9_init 1 = .ok (.invokespecial 3, 3) := by decide +kernel
theorem dX9_init_4 : decode cX9_init 4 = .ok (.aload_n 0, 1) := by decide +kernel
theorem dX9_init_5 : decode cX9_init 5 = .ok (.sipush 800, 3) := by decide +kernel
theorem dX9_init_8 : decode cX9_init 8 = .ok (.newarray .int, 2) := by decide +kernel
theorem dX9_init_10 : decode cX9_init 10 = .ok (.putfield 9, 3) := by decide +kernel
theorem dX9_init_13 : decode cX9_init 13 = .ok (.aload_n 0, 1) := by decide +kernel
theorem dX9_init_14 : decode cX9_init 14 = .ok (.iconst (-1), 1) := by decide +kernel
theorem dX9_init_15 : decode cX9_init 15 = .ok (.putfield 13, 3) := by decide +kernel
theorem dX9_init_18 : decode cX9_init 18 = .ok (.aload_n 0, 1) := by decide +kernel
theorem dX9_init_19 : decode cX9_init 19 = .ok (.sipush 1498, 3) := by decide +kernel
theorem dX9_init_22 : decode cX9_init 22 = .ok (.newarray .int, 2) := by decide +kernel
theorem dX9_init_24 : decode cX9_init 24 = .ok (.putfield 17, 3) := by decide +kernel
theorem dX9_init_27 : decode cX9_init 27 = .ok (.aload_n 0, 1) := by decide +kernel
theorem dX9_init_28 : decode cX9_init 28 = .ok (.sipush 1498, 3) := by decide +kernel
theorem dX9_init_31 : decode cX9_init 31 = .ok (.newarray .int, 2) := by decide +kernel
theorem dX9_init_33 : decode cX9_init 33 = .ok (.putfield 20, 3) := by decide +kernel
theorem dX9_init_36 : decode cX9_init 36 = .ok (.aload_n 0, 1) := by decide +kernel
theorem dX9_init_37 : decode cX9_init 37 = .ok (.bipush 8, 2) := by decide +kernel
theorem dX9_init_39 : decode cX9_init 39 = .ok (.sipush 1498, 3) := by decide +kernel
theorem dX9_init_42 : decode cX9_init 42 = .ok (.multianewarray 23 2, 4) := by decide +kernel
theorem dX9_init_46 : decode cX9_init 46 = .ok (.putfield 25, 3) := by decide +kernel
theorem dX9_init_49 : decode cX9_init 49 = .ok (.aload_n 0, 1) := by decide +kernel
theorem dX9_init_50 : decode cX9_init 50 = .ok (.bipush 8, 2) := by decide +kernel
theorem dX9_init_52 : decode cX9_init 52 = .ok (.newarray .long, 2) := by decide +kernel
theorem dX9_init_54 : decode cX9_init 54 = .ok (.putfield 28, 3) := by decide +kernel
theorem dX9_init_57 : decode cX9_init 57 = .ok (.aload_n 0, 1) := by decide +kernel
theorem dX9_init_58 : decode cX9_init 58 = .ok (.bipush 12, 2) := by decide +kernel
theorem dX9_init_60 : decode cX9_init 60 = .ok (.newarray .long, 2) := by decide +kernel
theorem dX9_init_62 : decode cX9_init 62 = .ok (.putfield 32, 3) := by decide +kernel
theorem dX9_init_65 : decode cX9_init 65 = .ok (.aload_n 0, 1) := by decide +kernel
theorem dX9_init_66 : decode cX9_init 66 = .ok (.sipush 1300, 3) := by decide +kernel
theorem dX9_init_69 : decode cX9_init 69 = .ok (.newarray .long, 2) := by decide +kernel
theorem dX9_init_71 : decode cX9_init 71 = .ok (.putfield 35, 3) := by decide +kernel
theorem dX9_init_74 : decode cX9_init 74 = .ok (.aload_n 0, 1) := by decide +kernel
theorem dX9_init_75 : decode cX9_init 75 = .ok (.bipush 8, 2) := by decide +kernel
theorem dX9_init_77 : decode cX9_init 77 = .ok (.newarray .int, 2) := by decide +kernel
theorem dX9_init_79 : decode cX9_init 79 = .ok (.putfield 38, 3) := by decide +kernel
theorem dX9_init_82 : decode cX9_init 82 = .ok (.aload_n 0, 1) := by decide +kernel
theorem dX9_init_83 : decode cX9_init 83 = .ok (.bipush 8, 2) := by decide +kernel
theorem dX9_init_85 : decode cX9_init 85 = .ok (.newarray .int, 2) := by decide +kernel
theorem dX9_init_87 : decode cX9_init 87 = .ok (.putfield 41, 3) := by decide +kernel
theorem dX9_init_90 : decode cX9_init 90 = .ok (.aload_n 0, 1) := by decide +kernel
theorem dX9_init_91 : decode cX9_init 91 = .ok (.bipush 12, 2) := by decide +kernel
theorem dX9_init_93 : decode cX9_init 93 = .ok (.newarray .int, 2) := by decide +kernel
theorem dX9_init_95 : decode cX9_init 95 = .ok (.putfield 44, 3) := by decide +kernel
theorem dX9_init_98 : decode cX9_init 98 = .ok (.aload_n 0, 1) := by decide +kernel
theorem dX9_init_99 : decode cX9_init 99 = .ok (.bipush 8, 2) := by decide +kernel
theorem dX9_init_101 : decode cX9_init 101 = .ok (.bipush 12, 2) := by decide +kernel
theorem dX9_init_103 : decode cX9_init 103 = .ok (.multianewarray 23 2, 4) := by decide +kernel
theorem dX9_init_107 : decode cX9_init 107 = .ok (.putfield 47, 3) := by decide +kernel
theorem dX9_init_110 : decode cX9_init 110 = .ok (.aload_n 0, 1) := by decide +kernel
theorem dX9_init_111 : decode cX9_init 111 = .ok (.bipush 8, 2) := by decide +kernel
theorem dX9_init_113 : decode cX9_init 113 = .ok (.bipush 12, 2) := by decide +kernel
theorem dX9_init_115 : decode cX9_init 115 = .ok (.multianewarray 23 2, 4) := by decide +kernel
theorem dX9_init_119 : decode cX9_init 119 = .ok (.putfield 50, 3) := by decide +kernel
theorem dX9_init_122 : decode cX9_init 122 = .ok (.aload_n 0, 1) := by decide +kernel
theorem dX9_init_123 : decode cX9_init 123 = .ok (.bipush 8, 2) := by decide +kernel
theorem dX9_init_125 : decode cX9_init 125 = .ok (.bipush 12, 2) := by decide +kernel
theorem dX9_init_127 : decode cX9_init 127 = .ok (.multianewarray 23 2, 4) := by decide +kernel
theorem dX9_init_131 : decode cX9_init 131 = .ok (.putfield 53, 3) := by decide +kernel
theorem dX9_init_134 : decode cX9_init 134 = .ok (.aload_n 0, 1) := by decide +kernel
theorem dX9_init_135 : decode cX9_init 135 = .ok (.bipush 8, 2) := by decide +kernel
theorem dX9_init_137 : decode cX9_init 137 = .ok (.newarray .int, 2) := by decide +kernel
theorem dX9_init_139 : decode cX9_init 139 = .ok (.putfield 56, 3) := by decide +kernel
theorem dX9_init_142 : decode cX9_init 142 = .ok (.aload_n 0, 1) := by decide +kernel
theorem dX9_init_143 : decode cX9_init 143 = .ok (.getfield 17, 3) := by decide +kernel
theorem dX9_init_146 : decode cX9_init 146 = .ok (.iconst 0, 1) := by decide +kernel
theorem dX9_init_147 : decode cX9_init 147 = .ok (.bipush 50, 2) := by decide +kernel
theorem dX9_init_149 : decode cX9_init 149 = .ok (.iastore, 1) := by decide +kernel
theorem dX9_init_150 : decode cX9_init 150 = .ok (.return_, 1) := by decide +kernel
theorem dX9_thrown_0 : decode cX9_thrown 0 = .ok (.aload_n 0, 1) := by decide +kernel
theorem dX9_thrown_1 : decode cX9_thrown 1 = .ok (.getfield 59, 3) := by decide +kernel
theorem dX9_thrown_4 : decode cX9_thrown 4 = .ok (.ireturn, 1) := by decide +kernel
theorem dX9_fails_0 : decode cX9_fails 0 = .ok (.iload_n 1, 1) := by decide +kernel
theorem dX9_fails_1 : decode cX9_fails 1 = .ok (.ifCond .eq 15, 3) := by decide +kernel
theorem dX9_fails_4 : decode cX9_fails 4 = .ok (.aload_n 0, 1) := by decide +kernel
theorem dX9_fails_5 : decode cX9_fails 5 = .ok (.getfield 59, 3) := by decide +kernel
theorem dX9_fails_8 : decode cX9_fails 8 = .ok (.ifCond .ne 8, 3) := by decide +kernel
theorem dX9_fails_11 : decode cX9_fails 11 = .ok (.aload_n 0, 1) := by decide +kernel
theorem dX9_fails_12 : decode cX9_fails 12 = .ok (.iload_n 2, 1) := by decide +kernel
theorem dX9_fails_13 : decode cX9_fails 13 = .ok (.putfield 59, 3) := by decide +kernel
theorem dX9_fails_16 : decode cX9_fails 16 = .ok (.aload_n 0, 1) := by decide +kernel
theorem dX9_fails_17 : decode cX9_fails 17 = .ok (.getfield 59, 3) := by decide +kernel
theorem dX9_fails_20 : decode cX9_fails 20 = .ok (.ifCond .eq 7, 3) := by decide +kernel
theorem dX9_fails_23 : decode cX9_fails 23 = .ok (.iconst 1, 1) := by decide +kernel
theorem dX9_fails_24 : decode cX9_fails 24 = .ok (.goto 4, 3) := by decide +kernel
theorem dX9_fails_27 : decode cX9_fails 27 = .ok (.iconst 0, 1) := by decide +kernel
theorem dX9_fails_28 : decode cX9_fails 28 = .ok (.ireturn, 1) := by decide +kernel
theorem dX9_in_0 : decode cX9_in 0 = .ok (.iload_n 0, 1) := by decide +kernel
theorem dX9_in_1 : decode cX9_in 1 = .ok (.iload_n 1, 1) := by decide +kernel
theorem dX9_in_2 : decode cX9_in 2 = .ok (.if_icmp .lt 12, 3) := by decide +kernel
theorem dX9_in_5 : decode cX9_in 5 = .ok (.iload_n 0, 1) := by decide +kernel
theorem dX9_in_6 : decode cX9_in 6 = .ok (.iload_n 2, 1) := by decide +kernel
theorem dX9_in_7 : decode cX9_in 7 = .ok (.if_icmp .gt 7, 3) := by decide +kernel
theorem dX9_in_10 : decode cX9_in 10 = .ok (.iconst 1, 1) := by decide +kernel
theorem dX9_in_11 : decode cX9_in 11 = .ok (.goto 4, 3) := by decide +kernel
theorem dX9_in_14 : decode cX9_in 14 = .ok (.iconst 0, 1) := by decide +kernel
theorem dX9_in_15 : decode cX9_in 15 = .ok (.ireturn, 1) := by decide +kernel
theorem dX9_min_0 : decode cX9_min 0 = .ok (.iload_n 0, 1) := by decide +kernel
theorem dX9_min_1 : decode cX9_min 1 = .ok (.iload_n 1, 1) := by decide +kernel
theorem dX9_min_2 : decode cX9_min 2 = .ok (.if_icmp .ge 7, 3) := by decide +kernel
theorem dX9_min_5 : decode cX9_min 5 = .ok (.iload_n 0, 1) := by decide +kernel
theorem dX9_min_6 : decode cX9_min 6 = .ok (.goto 4, 3) := by decide +kernel
theorem dX9_min_9 : decode cX9_min 9 = .ok (.iload_n 1, 1) := by decide +kernel
theorem dX9_min_10 : decode cX9_min 10 = .ok (.ireturn, 1) := by decide +kernel
theorem dX9_copy_0 : decode cX9_copy 0 = .ok (.iconst 0, 1) := by decide +kernel
theorem dX9_copy_1 : decode cX9_copy 1 = .ok (.istore_n 2, 1) := by decide +kernel
theorem dX9_copy_2 : decode cX9_copy 2 = .ok (.iload_n 2, 1) := by decide +kernel
theorem dX9_copy_3 : decode cX9_copy 3 = .ok (.sipush 1498, 3) := by decide +kernel
theorem dX9_copy_6 : decode cX9_copy 6 = .ok (.if_icmp .ge 15, 3) := by decide +kernel
theorem dX9_copy_9 : decode cX9_copy 9 = .ok (.aload_n 1, 1) := by decide +kernel
theorem dX9_copy_10 : decode cX9_copy 10 = .ok (.iload_n 2, 1) := by decide +kernel
theorem dX9_copy_11 : decode cX9_copy 11 = .ok (.aload_n 0, 1) := by decide +kernel
theorem dX9_copy_12 : decode cX9_copy 12 = .ok (.iload_n 2, 1) := by decide +kernel
theorem dX9_copy_13 : decode cX9_copy 13 = .ok (.iaload, 1) := by decide +kernel
theorem dX9_copy_14 : decode cX9_copy 14 = .ok (.iastore, 1) := by decide +kernel
theorem dX9_copy_15 : decode cX9_copy 15 = .ok (.iinc 2 1, 3) := by decide +kernel
theorem dX9_copy_18 : decode cX9_copy 18 = .ok (.goto (-16), 3) := by decide +kernel
theorem dX9_copy_21 : decode cX9_copy 21 = .ok (.return_, 1) := by decide +kernel
theorem dX9_at_0 : decode cX9_at 0 = .ok (.bipush 6, 2) := by decide +kernel
theorem dX9_at_2 : decode cX9_at 2 = .ok (.bipush 24, 2) := by decide +kernel
theorem dX9_at_4 : decode cX9_at 4 = .ok (.iload_n 0, 1) := by decide +kernel
theorem dX9_at_5 : decode cX9_at 5 = .ok (.imul, 1) := by decide +kernel
theorem dX9_at_6 : decode cX9_at 6 = .ok (.iadd, 1) := by decide +kernel
theorem dX9_at_7 : decode cX9_at 7 = .ok (.ireturn, 1) := by decide +kernel
theorem dX9_append_0 : decode cX9_append 0 = .ok (.aload_n 0, 1) := by decide +kernel
theorem dX9_append_1 : decode cX9_append 1 = .ok (.iconst 0, 1) := by decide +kernel
theorem dX9_append_2 : decode cX9_append 2 = .ok (.putfield 59, 3) := by decide +kernel
theorem dX9_append_5 : decode cX9_append 5 = .ok (.aload_n 0, 1) := by decide +kernel
theorem dX9_append_6 : decode cX9_append 6 = .ok (.getfield 62, 3) := by decide +kernel
theorem dX9_append_9 : decode cX9_append 9 = .ok (.bipush 20, 2) := by decide +kernel
theorem dX9_append_11 : decode cX9_append 11 = .ok (.iadd, 1) := by decide +kernel
theorem dX9_append_12 : decode cX9_append 12 = .ok (.sipush 800, 3) := by decide +kernel
theorem dX9_append_15 : decode cX9_append 15 = .ok (.if_icmp .le 5, 3) := by decide +kernel
theorem dX9_append_18 : decode cX9_append 18 = .ok (.iconst (-1), 1) := by decide +kernel
theorem dX9_append_19 : decode cX9_append 19 = .ok (.ireturn, 1) := by decide +kernel
theorem dX9_append_20 : decode cX9_append 20 = .ok (.iconst 0, 1) := by decide +kernel
theorem dX9_append_21 : decode cX9_append 21 = .ok (.istore 6, 2) := by decide +kernel
theorem dX9_append_23 : decode cX9_append 23 = .ok (.iload 6, 2) := by decide +kernel
theorem dX9_append_25 : decode cX9_append 25 = .ok (.bipush 20, 2) := by decide +kernel
theorem dX9_append_27 : decode cX9_append 27 = .ok (.if_icmp .ge 93, 3) := by decide +kernel
theorem dX9_append_30 : decode cX9_append 30 = .ok (.iload 6, 2) := by decide +kernel
theorem dX9_append_32 : decode cX9_append 32 = .ok (.iconst 4, 1) := by decide +kernel
theorem dX9_append_33 : decode cX9_append 33 = .ok (.if_icmp .ge 7, 3) := by decide +kernel
theorem dX9_append_36 : decode cX9_append 36 = .ok (.iload_n 1, 1) := by decide +kernel
theorem dX9_append_37 : decode cX9_append 37 = .ok (.goto 39, 3) := by decide +kernel
theorem dX9_append_40 : decode cX9_append 40 = .ok (.iload 6, 2) := by decide +kernel
theorem dX9_append_42 : decode cX9_append 42 = .ok (.bipush 8, 2) := by decide +kernel
theorem dX9_append_44 : decode cX9_append 44 = .ok (.if_icmp .ge 7, 3) := by decide +kernel
theorem dX9_append_47 : decode cX9_append 47 = .ok (.iload_n 2, 1) := by decide +kernel
theorem dX9_append_48 : decode cX9_append 48 = .ok (.goto 28, 3) := by decide +kernel
theorem dX9_append_51 : decode cX9_append 51 = .ok (.iload 6, 2) := by decide +kernel
theorem dX9_append_53 : decode cX9_append 53 = .ok (.bipush 12, 2) := by decide +kernel
theorem dX9_append_55 : decode cX9_append 55 = .ok (.if_icmp .ge 7, 3) := by decide +kernel
theorem dX9_append_58 : decode cX9_append 58 = .ok (.iload_n 3, 1) := by decide +kernel
theorem dX9_append_59 : decode cX9_append 59 = .ok (.goto 17, 3) := by decide +kernel
theorem dX9_append_62 : decode cX9_append 62 = .ok (.iload 6, 2) := by decide +kernel
theorem dX9_append_64 : decode cX9_append 64 = .ok (.bipush 16, 2) := by decide +kernel
theorem dX9_append_66 : decode cX9_append 66 = .ok (.if_icmp .ge 8, 3) := by decide +kernel
theorem dX9_append_69 : decode cX9_append 69 = .ok (.iload 4, 2) := by decide +kernel
theorem dX9_append_71 : decode cX9_append 71 = .ok (.goto 5, 3) := by decide +kernel
theorem dX9_append_74 : decode cX9_append 74 = .ok (.iload 5, 2) := by decide +kernel
theorem dX9_append_76 : decode cX9_append 76 = .ok (.istore 7, 2) := by decide +kernel
theorem dX9_append_78 : decode cX9_append 78 = .ok (.aload_n 0, 1) := by decide +kernel
theorem dX9_append_79 : decode cX9_append 79 = .ok (.getfield 9, 3) := by decide +kernel
theorem dX9_append_82 : decode cX9_append 82 = .ok (.aload_n 0, 1) := by decide +kernel
theorem dX9_append_83 : decode cX9_append 83 = .ok (.getfield 62, 3) := by decide +kernel
theorem dX9_append_86 : decode cX9_append 86 = .ok (.iload 7, 2) := by decide +kernel
theorem dX9_append_88 : decode cX9_append 88 = .ok (.bipush 24, 2) := by decide +kernel
theorem dX9_append_90 : decode cX9_append 90 = .ok (.bipush 8, 2) := by decide +kernel
theorem dX9_append_92 : decode cX9_append 92 = .ok (.iload 6, 2) := by decide +kernel
theorem dX9_append_94 : decode cX9_append 94 = .ok (.iconst 4, 1) := by decide +kernel
theorem dX9_append_95 : decode cX9_append 95 = .ok (.irem, 1) := by decide +kernel
theorem dX9_append_96 : decode cX9_append 96 = .ok (.imul, 1) := by decide +kernel
theorem dX9_append_97 : decode cX9_append 97 = .ok (.isub, 1) := by decide +kernel
theorem dX9_append_98 : decode cX9_append 98 = .ok (.ishr, 1) := by decide +kernel
theorem dX9_append_99 : decode cX9_append 99 = .ok (.sipush 255, 3) := by decide +kernel
theorem dX9_append_102 : decode cX9_append 102 = .ok (.iand, 1) := by decide +kernel
theorem dX9_append_103 : decode cX9_append 103 = .ok (.iastore, 1) := by decide +kernel
theorem dX9_append_104 : decode cX9_append 104 = .ok (.aload_n 0, 1) := by decide +kernel
theorem dX9_append_105 : decode cX9_append 105 = .ok (.dup, 1) := by decide +kernel
theorem dX9_append_106 : decode cX9_append 106 = .ok (.getfield 62, 3) := by decide +kernel
theorem dX9_append_109 : decode cX9_append 109 = .ok (.iconst 1, 1) := by decide +kernel
theorem dX9_append_110 : decode cX9_append 110 = .ok (.iadd, 1) := by decide +kernel
theorem dX9_append_111 : decode cX9_append 111 = .ok (.putfield 62, 3) := by decide +kernel
theorem dX9_append_114 : decode cX9_append 114 = .ok (.iinc 6 1, 3) := by decide +kernel
theorem dX9_append_117 : decode cX9_append 117 = .ok (.goto (-94), 3) := by decide +kernel
theorem dX9_append_120 : decode cX9_append 120 = .ok (.aload_n 0, 1) := by decide +kernel
theorem dX9_append_121 : decode cX9_append 121 = .ok (.getfield 62, 3) := by decide +kernel
theorem dX9_append_124 : decode cX9_append 124 = .ok (.ireturn, 1) := by decide +kernel
theorem dX9_byteAt_0 : decode cX9_byteAt 0 = .ok (.iload_n 1, 1) := by decide +kernel
theorem dX9_byteAt_1 : decode cX9_byteAt 1 = .ok (.aload_n 0, 1) := by decide +kernel
theorem dX9_byteAt_2 : decode cX9_byteAt 2 = .ok (.getfield 65, 3) := by decide +kernel
theorem dX9_byteAt_5 : decode cX9_byteAt 5 = .ok (.if_icmp .ge 12, 3) := by decide +kernel
theorem dX9_byteAt_8 : decode cX9_byteAt 8 = .ok (.aload_n 0, 1) := by decide +kernel
theorem dX9_byteAt_9 : decode cX9_byteAt 9 = .ok (.getfield 9, 3) := by decide +kernel
theorem dX9_byteAt_12 : decode cX9_byteAt 12 = .ok (.iload_n 1, 1) := by decide +kernel
theorem dX9_byteAt_13 : decode cX9_byteAt 13 = .ok (.iaload, 1) := by decide +kernel
theorem dX9_byteAt_14 : decode cX9_byteAt 14 = .ok (.goto 4, 3) := by decide +kernel
theorem dX9_byteAt_17 : decode cX9_byteAt 17 = .ok (.iconst (-1), 1) := by decide +kernel
theorem dX9_byteAt_18 : decode cX9_byteAt 18 = .ok (.ireturn, 1) := by decide +kernel
theorem dX9_next_0 : decode cX9_next 0 = .ok (.aload_n 0, 1) := by decide +kernel
theorem dX9_next_1 : decode cX9_next 1 = .ok (.aload_n 0, 1) := by decide +kernel
theorem dX9_next_2 : decode cX9_next 2 = .ok (.getfield 68, 3) := by decide +kernel
theorem dX9_next_5 : decode cX9_next 5 = .ok (.invokevirtual 71, 3) := by decide +kernel
theorem dX9_next_8 : decode cX9_next 8 = .ok (.bipush 32, 2) := by decide +kernel
theorem dX9_next_10 : decode cX9_next 10 = .ok (.if_icmp .ne 16, 3) := by decide +kernel
theorem dX9_next_13 : decode cX9_next 13 = .ok (.aload_n 0, 1) := by decide +kernel
theorem dX9_next_14 : decode cX9_next 14 = .ok (.dup, 1) := by decide +kernel
theorem dX9_next_15 : decode cX9_next 15 = .ok (.getfield 68, 3) := by decide +kernel
theorem dX9_next_18 : decode cX9_next 18 = .ok (.iconst 1, 1) := by decide +kernel
theorem dX9_next_19 : decode cX9_next 19 = .ok (.iadd, 1) := by decide +kernel
theorem dX9_next_20 : decode cX9_next 20 = .ok (.putfield 68, 3) := by decide +kernel
theorem dX9_next_23 : decode cX9_next 23 = .ok (.goto (-23), 3) := by decide +kernel
theorem dX9_next_26 : decode cX9_next 26 = .ok (.aload_n 0, 1) := by decide +kernel
theorem dX9_next_27 : decode cX9_next 27 = .ok (.aload_n 0, 1) := by decide +kernel
theorem dX9_next_28 : decode cX9_next 28 = .ok (.getfield 68, 3) := by decide +kernel
theorem dX9_next_31 : decode cX9_next 31 = .ok (.invokevirtual 71, 3) := by decide +kernel
theorem dX9_next_34 : decode cX9_next 34 = .ok (.ireturn, 1) := by decide +kernel
theorem dX9_isGood_0 : decode cX9_isGood 0 = .ok (.aload_n 0, 1) := by decide +kernel
theorem dX9_isGood_1 : decode cX9_isGood 1 = .ok (.getfield 75, 3) := by decide +kernel
theorem dX9_isGood_4 : decode cX9_isGood 4 = .ok (.ifCond .ne 7, 3) := by decide +kernel
theorem dX9_isGood_7 : decode cX9_isGood 7 = .ok (.iconst 1, 1) := by decide +kernel
theorem dX9_isGood_8 : decode cX9_isGood 8 = .ok (.goto 4, 3) := by decide +kernel
theorem dX9_isGood_11 : decode cX9_isGood 11 = .ok (.iconst 0, 1) := by decide +kernel
theorem dX9_isGood_12 : decode cX9_isGood 12 = .ok (.ireturn, 1) := by decide +kernel
theorem dX9_report_0 : decode cX9_report 0 = .ok (.aload_n 0, 1) := by decide +kernel
theorem dX9_report_1 : decode cX9_report 1 = .ok (.getfield 75, 3) := by decide +kernel
theorem dX9_report_4 : decode cX9_report 4 = .ok (.ifCond .eq 4, 3) := by decide +kernel
theorem dX9_report_7 : decode cX9_report 7 = .ok (.return_, 1) := by decide +kernel
theorem dX9_report_8 : decode cX9_report 8 = .ok (.aload_n 0, 1) := by decide +kernel
theorem dX9_report_9 : decode cX9_report 9 = .ok (.iload_n 1, 1) := by decide +kernel
theorem dX9_report_10 : decode cX9_report 10 = .ok (.putfield 75, 3) := by decide +kernel
theorem dX9_report_13 : decode cX9_report 13 = .ok (.aload_n 0, 1) := by decide +kernel
theorem dX9_report_14 : decode cX9_report 14 = .ok (.iload_n 2, 1) := by decide +kernel
theorem dX9_report_15 : decode cX9_report 15 = .ok (.putfield 78, 3) := by decide +kernel
theorem dX9_report_18 : decode cX9_report 18 = .ok (.return_, 1) := by decide +kernel
theorem dX9_isDigit_0 : decode cX9_isDigit 0 = .ok (.iload_n 0, 1) := by decide +kernel
theorem dX9_isDigit_1 : decode cX9_isDigit 1 = .ok (.bipush 48, 2) := by decide +kernel
theorem dX9_isDigit_3 : decode cX9_isDigit 3 = .ok (.bipush 57, 2) := by decide +kernel
theorem dX9_isDigit_5 : decode cX9_isDigit 5 = .ok (.invokestatic 81, 3) := by decide +kernel
theorem dX9_isDigit_8 : decode cX9_isDigit 8 = .ok (.ireturn, 1) := by decide +kernel
theorem dX9_takeWord_0 : decode cX9_takeWord 0 = .ok (.aload_n 0, 1) := by decide +kernel
theorem dX9_takeWord_1 : decode cX9_takeWord 1 = .ok (.invokevirtual 85, 3) := by decide +kernel
theorem dX9_takeWord_4 : decode cX9_takeWord 4 = .ok (.ifCond .ne 5, 3) := by decide +kernel
theorem dX9_takeWord_7 : decode cX9_takeWord 7 = .ok (.iconst 0, 1) := by decide +kernel
theorem dX9_takeWord_8 : decode cX9_takeWord 8 = .ok (.ireturn, 1) := by decide +kernel
theorem dX9_takeWord_9 : decode cX9_takeWord 9 = .ok (.aload_n 0, 1) := by decide +kernel
theorem dX9_takeWord_10 : decode cX9_takeWord 10 = .ok (.invokevirtual 89, 3) := by decide +kernel
theorem dX9_takeWord_13 : decode cX9_takeWord 13 = .ok (.pop, 1) := by decide +kernel
theorem dX9_takeWord_14 : decode cX9_takeWord 14 = .ok (.iconst 0, 1) := by decide +kernel
theorem dX9_takeWord_15 : decode cX9_takeWord 15 = .ok (.istore_n 2, 1) := by decide +kernel
theorem dX9_takeWord_16 : decode cX9_takeWord 16 = .ok (.iload_n 2, 1) := by decide +kernel
theorem dX9_takeWord_17 : decode cX9_takeWord 17 = .ok (.aload_n 1, 1) := by decide +kernel
theorem dX9_takeWord_18 : decode cX9_takeWord 18 = .ok (.invokevirtual 93, 3) := by decide +kernel
theorem dX9_takeWord_21 : decode cX9_takeWord 21 = .ok (.if_icmp .ge 27, 3) := by decide +kernel
theorem dX9_takeWord_24 : decode cX9_takeWord 24 = .ok (.aload_n 0, 1) := by decide +kernel
theorem dX9_takeWord_25 : decode cX9_takeWord 25 = .ok (.aload_n 0, 1) := by decide +kernel
theorem dX9_takeWord_26 : decode cX9_takeWord 26 = .ok (.getfield 68, 3) := by decide +kernel
theorem dX9_takeWord_29 : decode cX9_takeWord 29 = .ok (.iload_n 2, 1) := by decide +kernel
theorem dX9_takeWord_30 : decode cX9_takeWord 30 = .ok (.iadd, 1) := by decide +kernel
theorem dX9_takeWord_31 : decode cX9_takeWord 31 = .ok (.invokevirtual 71, 3) := by decide +kernel
theorem dX9_takeWord_34 : decode cX9_takeWord 34 = .ok (.aload_n 1, 1) := by decide +kernel
theorem dX9_takeWord_35 : decode cX9_takeWord 35 = .ok (.iload_n 2, 1) := by decide +kernel
theorem dX9_takeWord_36 : decode cX9_takeWord 36 = .ok (.invokevirtual 98, 3) := by decide +kernel
theorem dX9_takeWord_39 : decode cX9_takeWord 39 = .ok (.if_icmp .ne 9, 3) := by decide +kernel
theorem dX9_takeWord_42 : decode cX9_takeWord 42 = .ok (.iinc 2 1, 3) := by decide +kernel
theorem dX9_takeWord_45 : decode cX9_takeWord 45 = .ok (.goto (-29), 3) := by decide +kernel
theorem dX9_takeWord_48 : decode cX9_takeWord 48 = .ok (.iload_n 2, 1) := by decide +kernel
theorem dX9_takeWord_49 : decode cX9_takeWord 49 = .ok (.aload_n 1, 1) := by decide +kernel
theorem dX9_takeWord_50 : decode cX9_takeWord 50 = .ok (.invokevirtual 93, 3) := by decide +kernel
theorem dX9_takeWord_53 : decode cX9_takeWord 53 = .ok (.if_icmp .lt 23, 3) := by decide +kernel
theorem dX9_takeWord_56 : decode cX9_takeWord 56 = .ok (.aload_n 0, 1) := by decide +kernel
theorem dX9_takeWord_57 : decode cX9_takeWord 57 = .ok (.aload_n 0, 1) := by decide +kernel
theorem dX9_takeWord_58 : decode cX9_takeWord 58 = .ok (.getfield 68, 3) := by decide +kernel
theorem dX9_takeWord_61 : decode cX9_takeWord 61 = .ok (.iload_n 2, 1) := by decide +kernel
theorem dX9_takeWord_62 : decode cX9_takeWord 62 = .ok (.iadd, 1) := by decide +kernel
theorem dX9_takeWord_63 : decode cX9_takeWord 63 = .ok (.invokevirtual 71, 3) := by decide +kernel
theorem dX9_takeWord_66 : decode cX9_takeWord 66 = .ok (.bipush 97, 2) := by decide +kernel
theorem dX9_takeWord_68 : decode cX9_takeWord 68 = .ok (.bipush 122, 2) := by decide +kernel
theorem dX9_takeWord_70 : decode cX9_takeWord 70 = .ok (.invokestatic 81, 3) := by decide +kernel
theorem dX9_takeWord_73 : decode cX9_takeWord 73 = .ok (.ifCond .eq 5, 3) := by decide +kernel
theorem dX9_takeWord_76 : decode cX9_takeWord 76 = .ok (.iconst 0, 1) := by decide +kernel
theorem dX9_takeWord_77 : decode cX9_takeWord 77 = .ok (.ireturn, 1) := by decide +kernel
theorem dX9_takeWord_78 : decode cX9_takeWord 78 = .ok (.aload_n 0, 1) := by decide +kernel
theorem dX9_takeWord_79 : decode cX9_takeWord 79 = .ok (.dup, 1) := by decide +kernel
theorem dX9_takeWord_80 : decode cX9_takeWord 80 = .ok (.getfield 68, 3) := by decide +kernel
theorem dX9_takeWord_83 : decode cX9_takeWord 83 = .ok (.iload_n 2, 1) := by decide +kernel
theorem dX9_takeWord_84 : decode cX9_takeWord 84 = .ok (.iadd, 1) := by decide +kernel
theorem dX9_takeWord_85 : decode cX9_takeWord 85 = .ok (.putfield 68, 3) := by decide +kernel
theorem dX9_takeWord_88 : decode cX9_takeWord 88 = .ok (.iconst 1, 1) := by decide +kernel
theorem dX9_takeWord_89 : decode cX9_takeWord 89 = .ok (.ireturn, 1) := by decide +kernel
theorem dX9_expect_0 : decode cX9_expect 0 = .ok (.aload_n 0, 1) := by decide +kernel
theorem dX9_expect_1 : decode cX9_expect 1 = .ok (.invokevirtual 85, 3) := by decide +kernel
theorem dX9_expect_4 : decode cX9_expect 4 = .ok (.ifCond .ne 4, 3) := by decide +kernel
theorem dX9_expect_7 : decode cX9_expect 7 = .ok (.return_, 1) := by decide +kernel
theorem dX9_expect_8 : decode cX9_expect 8 = .ok (.aload_n 0, 1) := by decide +kernel
theorem dX9_expect_9 : decode cX9_expect 9 = .ok (.invokevirtual 89, 3) := by decide +kernel
theorem dX9_expect_12 : decode cX9_expect 12 = .ok (.iload_n 1, 1) := by decide +kernel
theorem dX9_expect_13 : decode cX9_expect 13 = .ok (.if_icmp .ne 16, 3) := by decide +kernel
theorem dX9_expect_16 : decode cX9_expect 16 = .ok (.aload_n 0, 1) := by decide +kernel
theorem dX9_expect_17 : decode cX9_expect 17 = .ok (.dup, 1) := by decide +kernel
theorem dX9_expect_18 : decode cX9_expect 18 = .ok (.getfield 68, 3) := by decide +kernel
theorem dX9_expect_21 : decode cX9_expect 21 = .ok (.iconst 1, 1) := by decide +kernel
theorem dX9_expect_22 : decode cX9_expect 22 = .ok (.iadd, 1) := by decide +kernel
theorem dX9_expect_23 : decode cX9_expect 23 = .ok (.putfield 68, 3) := by decide +kernel
theorem dX9_expect_26 : decode cX9_expect 26 = .ok (.goto 13, 3) := by decide +kernel
theorem dX9_expect_29 : decode cX9_expect 29 = .ok (.aload_n 0, 1) := by decide +kernel
theorem dX9_expect_30 : decode cX9_expect 30 = .ok (.bipush (-2), 2) := by decide +kernel
theorem dX9_expect_32 : decode cX9_expect 32 = .ok (.aload_n 0, 1) := by decide +kernel
theorem dX9_expect_33 : decode cX9_expect 33 = .ok (.getfield 68, 3) := by decide +kernel
theorem dX9_expect_36 : decode cX9_expect 36 = .ok (.invokevirtual 102, 3) := by decide +kernel
theorem dX9_expect_39 : decode cX9_expect 39 = .ok (.return_, 1) := by decide +kernel
theorem dX9_number_0 : decode cX9_number 0 = .ok (.aload_n 0, 1) := by decide +kernel
theorem dX9_number_1 : decode cX9_number 1 = .ok (.invokevirtual 85, 3) := by decide +kernel
theorem dX9_number_4 : decode cX9_number 4 = .ok (.ifCond .ne 5, 3) := by decide +kernel
theorem dX9_number_7 : decode cX9_number 7 = .ok (.iconst 0, 1) := by decide +kernel
theorem dX9_number_8 : decode cX9_number 8 = .ok (.ireturn, 1) := by decide +kernel
theorem dX9_number_9 : decode cX9_number 9 = .ok (.aload_n 0, 1) := by decide +kernel
theorem dX9_number_10 : decode cX9_number 10 = .ok (.invokevirtual 89, 3) := by decide +kernel
theorem dX9_number_13 : decode cX9_number 13 = .ok (.invokestatic 106, 3) := by decide +kernel
theorem dX9_number_16 : decode cX9_number 16 = .ok (.ifCond .ne 15, 3) := by decide +kernel
theorem dX9_number_19 : decode cX9_number 19 = .ok (.aload_n 0, 1) := by decide +kernel
theorem dX9_number_20 : decode cX9_number 20 = .ok (.bipush (-2), 2) := by decide +kernel
theorem dX9_number_22 : decode cX9_number 22 = .ok (.aload_n 0, 1) := by decide +kernel
theorem dX9_number_23 : decode cX9_number 23 = .ok (.getfield 68, 3) := by decide +kernel
theorem dX9_number_26 : decode cX9_number 26 = .ok (.invokevirtual 102, 3) := by decide +kernel
theorem dX9_number_29 : decode cX9_number 29 = .ok (.iconst 0, 1) := by decide +kernel
theorem dX9_number_30 : decode cX9_number 30 = .ok (.ireturn, 1) := by decide +kernel
theorem dX9_number_31 : decode cX9_number 31 = .ok (.aload_n 0, 1) := by decide +kernel
theorem dX9_number_32 : decode cX9_number 32 = .ok (.aload_n 0, 1) := by decide +kernel
theorem dX9_number_33 : decode cX9_number 33 = .ok (.getfield 68, 3) := by decide +kernel
theorem dX9_number_36 : decode cX9_number 36 = .ok (.putfield 110, 3) := by decide +kernel
theorem dX9_number_39 : decode cX9_number 39 = .ok (.iconst 0, 1) := by decide +kernel
theorem dX9_number_40 : decode cX9_number 40 = .ok (.istore_n 3, 1) := by decide +kernel
theorem dX9_number_41 : decode cX9_number 41 = .ok (.aload_n 0, 1) := by decide +kernel
theorem dX9_number_42 : decode cX9_number 42 = .ok (.aload_n 0, 1) := by decide +kernel
theorem dX9_number_43 : decode cX9_number 43 = .ok (.getfield 68, 3) := by decide +kernel
theorem dX9_number_46 : decode cX9_number 46 = .ok (.invokevirtual 71, 3) := by decide +kernel
theorem dX9_number_49 : decode cX9_number 49 = .ok (.invokestatic 106, 3) := by decide +kernel
theorem dX9_number_52 : decode cX9_number 52 = .ok (.ifCond .eq 38, 3) := by decide +kernel
theorem dX9_number_55 : decode cX9_number 55 = .ok (.ldc 113, 2) := by decide +kernel
theorem dX9_number_57 : decode cX9_number 57 = .ok (.bipush 10, 2) := by decide +kernel
theorem dX9_number_59 : decode cX9_number 59 = .ok (.iload_n 3, 1) := by decide +kernel
theorem dX9_number_60 : decode cX9_number 60 = .ok (.imul, 1) := by decide +kernel
theorem dX9_number_61 : decode cX9_number 61 = .ok (.aload_n 0, 1) := by decide +kernel
theorem dX9_number_62 : decode cX9_number 62 = .ok (.aload_n 0, 1) := by decide +kernel
theorem dX9_number_63 : decode cX9_number 63 = .ok (.getfield 68, 3) := by decide +kernel
theorem dX9_number_66 : decode cX9_number 66 = .ok (.invokevirtual 71, 3) := by decide +kernel
theorem dX9_number_69 : decode cX9_number 69 = .ok (.iadd, 1) := by decide +kernel
theorem dX9_number_70 : decode cX9_number 70 = .ok (.bipush 48, 2) := by decide +kernel
theorem dX9_number_72 : decode cX9_number 72 = .ok (.isub, 1) := by decide +kernel
theorem dX9_number_73 : decode cX9_number 73 = .ok (.invokestatic 114, 3) := by decide +kernel
theorem dX9_number_76 : decode cX9_number 76 = .ok (.istore_n 3, 1) := by decide +kernel
theorem dX9_number_77 : decode cX9_number 77 = .ok (.aload_n 0, 1) := by decide +kernel
theorem dX9_number_78 : decode cX9_number 78 = .ok (.dup, 1) := by decide +kernel
theorem dX9_number_79 : decode cX9_number 79 = .ok (.getfield 68, 3) := by decide +kernel
theorem dX9_number_82 : decode cX9_number 82 = .ok (.iconst 1, 1) := by decide +kernel
theorem dX9_number_83 : decode cX9_number 83 = .ok (.iadd, 1) := by decide +kernel
theorem dX9_number_84 : decode cX9_number 84 = .ok (.putfield 68, 3) := by decide +kernel
theorem dX9_number_87 : decode cX9_number 87 = .ok (.goto (-46), 3) := by decide +kernel
theorem dX9_number_90 : decode cX9_number 90 = .ok (.iload_n 3, 1) := by decide +kernel
theorem dX9_number_91 : decode cX9_number 91 = .ok (.iload_n 1, 1) := by decide +kernel
theorem dX9_number_92 : decode cX9_number 92 = .ok (.iload_n 2, 1) := by decide +kernel
theorem dX9_number_93 : decode cX9_number 93 = .ok (.invokestatic 81, 3) := by decide +kernel
theorem dX9_number_96 : decode cX9_number 96 = .ok (.ifCond .ne 13, 3) := by decide +kernel
theorem dX9_number_99 : decode cX9_number 99 = .ok (.aload_n 0, 1) := by decide +kernel
theorem dX9_number_100 : decode cX9_number 100 = .ok (.bipush (-3), 2) := by decide +kernel
theorem dX9_number_102 : decode cX9_number 102 = .ok (.aload_n 0, 1) := by decide +kernel
theorem dX9_number_103 : decode cX9_number 103 = .ok (.getfield 110, 3) := by decide +kernel
theorem dX9_number_106 : decode cX9_number 106 = .ok (.invokevirtual 102, 3) := by decide +kernel
theorem dX9_number_109 : decode cX9_number 109 = .ok (.iload_n 3, 1) := by decide +kernel
theorem dX9_number_110 : decode cX9_number 110 = .ok (.ireturn, 1) := by decide +kernel
theorem dX9_emit_0 : decode cX9_emit 0 = .ok (.aload_n 0, 1) := by decide +kernel
theorem dX9_emit_1 : decode cX9_emit 1 = .ok (.invokevirtual 85, 3) := by decide +kernel
theorem dX9_emit_4 : decode cX9_emit 4 = .ok (.ifCond .ne 4, 3) := by decide +kernel
theorem dX9_emit_7 : decode cX9_emit 7 = .ok (.return_, 1) := by decide +kernel
theorem dX9_emit_8 : decode cX9_emit 8 = .ok (.aload_n 0, 1) := by decide +kernel
theorem dX9_emit_9 : decode cX9_emit 9 = .ok (.getfield 20, 3) := by decide +kernel
theorem dX9_emit_12 : decode cX9_emit 12 = .ok (.sipush 198, 3) := by decide +kernel
theorem dX9_emit_15 : decode cX9_emit 15 = .ok (.aload_n 0, 1) := by decide +kernel
theorem dX9_emit_16 : decode cX9_emit 16 = .ok (.getfield 20, 3) := by decide +kernel
theorem dX9_emit_19 : decode cX9_emit 19 = .ok (.iconst 5, 1) := by decide +kernel
theorem dX9_emit_20 : decode cX9_emit 20 = .ok (.iaload, 1) := by decide +kernel
theorem dX9_emit_21 : decode cX9_emit 21 = .ok (.iadd, 1) := by decide +kernel
theorem dX9_emit_22 : decode cX9_emit 22 = .ok (.iload_n 1, 1) := by decide +kernel
theorem dX9_emit_23 : decode cX9_emit 23 = .ok (.iastore, 1) := by decide +kernel
theorem dX9_emit_24 : decode cX9_emit 24 = .ok (.aload_n 0, 1) := by decide +kernel
theorem dX9_emit_25 : decode cX9_emit 25 = .ok (.getfield 20, 3) := by decide +kernel
theorem dX9_emit_28 : decode cX9_emit 28 = .ok (.iconst 5, 1) := by decide +kernel
theorem dX9_emit_29 : decode cX9_emit 29 = .ok (.dup2, 1) := by decide +kernel
theorem dX9_emit_30 : decode cX9_emit 30 = .ok (.iaload, 1) := by decide +kernel
theorem dX9_emit_31 : decode cX9_emit 31 = .ok (.iconst 1, 1) := by decide +kernel
theorem dX9_emit_32 : decode cX9_emit 32 = .ok (.iadd, 1) := by decide +kernel
theorem dX9_emit_33 : decode cX9_emit 33 = .ok (.iastore, 1) := by decide +kernel
theorem dX9_emit_34 : decode cX9_emit 34 = .ok (.return_, 1) := by decide +kernel
theorem dX9_factor_0 : decode cX9_factor 0 = .ok (.aload_n 0, 1) := by decide +kernel
theorem dX9_factor_1 : decode cX9_factor 1 = .ok (.invokevirtual 85, 3) := by decide +kernel
theorem dX9_factor_4 : decode cX9_factor 4 = .ok (.ifCond .ne 4, 3) := by decide +kernel
theorem dX9_factor_7 : decode cX9_factor 7 = .ok (.return_, 1) := by decide +kernel
theorem dX9_factor_8 : decode cX9_factor 8 = .ok (.aload_n 0, 1) := by decide +kernel
theorem dX9_factor_9 : decode cX9_factor 9 = .ok (.invokevirtual 89, 3) := by decide +kernel
theorem dX9_factor_12 : decode cX9_factor 12 = .ok (.istore_n 1, 1) := by decide +kernel
theorem dX9_factor_13 : decode cX9_factor 13 = .ok (.iload_n 1, 1) := by decide +kernel
theorem dX9_factor_14 : decode cX9_factor 14 = .ok (.bipush 40, 2) := by decide +kernel
theorem dX9_factor_16 : decode cX9_factor 16 = .ok (.if_icmp .ne 62, 3) := by decide +kernel
theorem dX9_factor_19 : decode cX9_factor 19 = .ok (.aload_n 0, 1) := by decide +kernel
theorem dX9_factor_20 : decode cX9_factor 20 = .ok (.getfield 118, 3) := by decide +kernel
theorem dX9_factor_23 : decode cX9_factor 23 = .ok (.iconst 4, 1) := by decide +kernel
theorem dX9_factor_24 : decode cX9_factor 24 = .ok (.if_icmp .ne 13, 3) := by decide +kernel
theorem dX9_factor_27 : decode cX9_factor 27 = .ok (.aload_n 0, 1) := by decide +kernel
theorem dX9_factor_28 : decode cX9_factor 28 = .ok (.bipush (-7), 2) := by decide +kernel
theorem dX9_factor_30 : decode cX9_factor 30 = .ok (.aload_n 0, 1) := by decide +kernel
theorem dX9_factor_31 : decode cX9_factor 31 = .ok (.getfield 68, 3) := by decide +kernel
theorem dX9_factor_34 : decode cX9_factor 34 = .ok (.invokevirtual 102, 3) := by decide +kernel
theorem dX9_factor_37 : decode cX9_factor 37 = .ok (.aload_n 0, 1) := by decide +kernel
theorem dX9_factor_38 : decode cX9_factor 38 = .ok (.dup, 1) := by decide +kernel
theorem dX9_factor_39 : decode cX9_factor 39 = .ok (.getfield 68, 3) := by decide +kernel
theorem dX9_factor_42 : decode cX9_factor 42 = .ok (.iconst 1, 1) := by decide +kernel
theorem dX9_factor_43 : decode cX9_factor 43 = .ok (.iadd, 1) := by decide +kernel
theorem dX9_factor_44 : decode cX9_factor 44 = .ok (.putfield 68, 3) := by decide +kernel
theorem dX9_factor_47 : decode cX9_factor 47 = .ok (.aload_n 0, 1) := by decide +kernel
theorem dX9_factor_48 : decode cX9_factor 48 = .ok (.dup, 1) := by decide +kernel
theorem dX9_factor_49 : decode cX9_factor 49 = .ok (.getfield 118, 3) := by decide +kernel
theorem dX9_factor_52 : decode cX9_factor 52 = .ok (.iconst 1, 1) := by decide +kernel
theorem dX9_factor_53 : decode cX9_factor 53 = .ok (.iadd, 1) := by decide +kernel
theorem dX9_factor_54 : decode cX9_factor 54 = .ok (.putfield 118, 3) := by decide +kernel
theorem dX9_factor_57 : decode cX9_factor 57 = .ok (.aload_n 0, 1) := by decide +kernel
theorem dX9_factor_58 : decode cX9_factor 58 = .ok (.invokevirtual 121, 3) := by decide +kernel
theorem dX9_factor_61 : decode cX9_factor 61 = .ok (.aload_n 0, 1) := by decide +kernel
theorem dX9_factor_62 : decode cX9_factor 62 = .ok (.bipush 41, 2) := by decide +kernel
theorem dX9_factor_64 : decode cX9_factor 64 = .ok (.invokevirtual 124, 3) := by decide +kernel
theorem dX9_factor_67 : decode cX9_factor 67 = .ok (.aload_n 0, 1) := by decide +kernel
theorem dX9_factor_68 : decode cX9_factor 68 = .ok (.dup, 1) := by decide +kernel
theorem dX9_factor_69 : decode cX9_factor 69 = .ok (.getfield 118, 3) := by decide +kernel
theorem dX9_factor_72 : decode cX9_factor 72 = .ok (.iconst 1, 1) := by decide +kernel
theorem dX9_factor_73 : decode cX9_factor 73 = .ok (.isub, 1) := by decide +kernel
theorem dX9_factor_74 : decode cX9_factor 74 = .ok (.putfield 118, 3) := by decide +kernel
theorem dX9_factor_77 : decode cX9_factor 77 = .ok (.return_, 1) := by decide +kernel
theorem dX9_factor_78 : decode cX9_factor 78 = .ok (.iload_n 1, 1) := by decide +kernel
theorem dX9_factor_79 : decode cX9_factor 79 = .ok (.invokestatic 106, 3) := by decide +kernel
theorem dX9_factor_82 : decode cX9_factor 82 = .ok (.ifCond .eq 7, 3) := by decide +kernel
theorem dX9_factor_85 : decode cX9_factor 85 = .ok (.iconst (-1), 1) := by decide +kernel
theorem dX9_factor_86 : decode cX9_factor 86 = .ok (.goto 56, 3) := by decide +kernel
theorem dX9_factor_89 : decode cX9_factor 89 = .ok (.aload_n 0, 1) := by decide +kernel
theorem dX9_factor_90 : decode cX9_factor 90 = .ok (.ldc 128, 2) := by decide +kernel
theorem dX9_factor_92 : decode cX9_factor 92 = .ok (.invokevirtual 130, 3) := by decide +kernel
theorem dX9_factor_95 : decode cX9_factor 95 = .ok (.ifCond .eq 7, 3) := by decide +kernel
theorem dX9_factor_98 : decode cX9_factor 98 = .ok (.iconst 0, 1) := by decide +kernel
theorem dX9_factor_99 : decode cX9_factor 99 = .ok (.goto 43, 3) := by decide +kernel
theorem dX9_factor_102 : decode cX9_factor 102 = .ok (.aload_n 0, 1) := by decide +kernel
theorem dX9_factor_103 : decode cX9_factor 103 = .ok (.ldc 134, 2) := by decide +kernel
theorem dX9_factor_105 : decode cX9_factor 105 = .ok (.invokevirtual 130, 3) := by decide +kernel
theorem dX9_factor_108 : decode cX9_factor 108 = .ok (.ifCond .eq 7, 3) := by decide +kernel
theorem dX9_factor_111 : decode cX9_factor 111 = .ok (.iconst 1, 1) := by decide +kernel
theorem dX9_factor_112 : decode cX9_factor 112 = .ok (.goto 30, 3) := by decide +kernel
theorem dX9_factor_115 : decode cX9_factor 115 = .ok (.aload_n 0, 1) := by decide +kernel
theorem dX9_factor_116 : decode cX9_factor 116 = .ok (.ldc 136, 2) := by decide +kernel
theorem dX9_factor_118 : decode cX9_factor 118 = .ok (.invokevirtual 130, 3) := by decide +kernel
theorem dX9_factor_121 : decode cX9_factor 121 = .ok (.ifCond .eq 7, 3) := by decide +kernel
theorem dX9_factor_124 : decode cX9_factor 124 = .ok (.iconst 2, 1) := by decide +kernel
theorem dX9_factor_125 : decode cX9_factor 125 = .ok (.goto 17, 3) := by decide +kernel
theorem dX9_factor_128 : decode cX9_factor 128 = .ok (.aload_n 0, 1) := by decide +kernel
theorem dX9_factor_129 : decode cX9_factor 129 = .ok (.ldc 138, 2) := by decide +kernel
theorem dX9_factor_131 : decode cX9_factor 131 = .ok (.invokevirtual 130, 3) := by decide +kernel
theorem dX9_factor_134 : decode cX9_factor 134 = .ok (.ifCond .eq 7, 3) := by decide +kernel
theorem dX9_factor_137 : decode cX9_factor 137 = .ok (.iconst 3, 1) := by decide +kernel
theorem dX9_factor_138 : decode cX9_factor 138 = .ok (.goto 4, 3) := by decide +kernel
theorem dX9_factor_141 : decode cX9_factor 141 = .ok (.iconst (-1), 1) := by decide +kernel
theorem dX9_factor_142 : decode cX9_factor 142 = .ok (.istore_n 2, 1) := by decide +kernel
theorem dX9_factor_143 : decode cX9_factor 143 = .ok (.iload_n 2, 1) := by decide +kernel
theorem dX9_factor_144 : decode cX9_factor 144 = .ok (.ifCond .ge 14, 3) := by decide +kernel
theorem dX9_factor_147 : decode cX9_factor 147 = .ok (.aload_n 0, 1) := by decide +kernel
theorem dX9_factor_148 : decode cX9_factor 148 = .ok (.iconst 0, 1) := by decide +kernel
theorem dX9_factor_149 : decode cX9_factor 149 = .ok (.sipush 9999, 3) := by decide +kernel
theorem dX9_factor_152 : decode cX9_factor 152 = .ok (.invokevirtual 140, 3) := by decide +kernel
theorem dX9_factor_155 : decode cX9_factor 155 = .ok (.goto 4, 3) := by decide +kernel
theorem dX9_factor_158 : decode cX9_factor 158 = .ok (.iload_n 2, 1) := by decide +kernel
theorem dX9_factor_159 : decode cX9_factor 159 = .ok (.istore_n 3, 1) := by decide +kernel
theorem dX9_factor_160 : decode cX9_factor 160 = .ok (.aload_n 0, 1) := by decide +kernel
theorem dX9_factor_161 : decode cX9_factor 161 = .ok (.iload_n 2, 1) := by decide +kernel
theorem dX9_factor_162 : decode cX9_factor 162 = .ok (.ifCond .ge 7, 3) := by decide +kernel
theorem dX9_factor_165 : decode cX9_factor 165 = .ok (.iconst 0, 1) := by decide +kernel
theorem dX9_factor_166 : decode cX9_factor 166 = .ok (.goto 4, 3) := by decide +kernel
theorem dX9_factor_169 : decode cX9_factor 169 = .ok (.iconst 1, 1) := by decide +kernel
theorem dX9_factor_170 : decode cX9_factor 170 = .ok (.invokevirtual 143, 3) := by decide +kernel
theorem dX9_factor_173 : decode cX9_factor 173 = .ok (.aload_n 0, 1) := by decide +kernel
theorem dX9_factor_174 : decode cX9_factor 174 = .ok (.iload_n 3, 1) := by decide +kernel
theorem dX9_factor_175 : decode cX9_factor 175 = .ok (.invokevirtual 143, 3) := by decide +kernel
theorem dX9_factor_178 : decode cX9_factor 178 = .ok (.return_, 1) := by decide +kernel
theorem dX9_term_0 : decode cX9_term 0 = .ok (.aload_n 0, 1) := by decide +kernel
theorem dX9_term_1 : decode cX9_term 1 = .ok (.invokevirtual 146, 3) := by decide +kernel
theorem dX9_term_4 : decode cX9_term 4 = .ok (.aload_n 0, 1) := by decide +kernel
theorem dX9_term_5 : decode cX9_term 5 = .ok (.invokevirtual 85, 3) := by decide +kernel
theorem dX9_term_8 : decode cX9_term 8 = .ok (.ifCond .eq 66, 3) := by decide +kernel
theorem dX9_term_11 : decode cX9_term 11 = .ok (.aload_n 0, 1) := by decide +kernel
theorem dX9_term_12 : decode cX9_term 12 = .ok (.invokevirtual 89, 3) := by decide +kernel
theorem dX9_term_15 : decode cX9_term 15 = .ok (.bipush 42, 2) := by decide +kernel
theorem dX9_term_17 : decode cX9_term 17 = .ok (.if_icmp .eq 12, 3) := by decide +kernel
theorem dX9_term_20 : decode cX9_term 20 = .ok (.aload_n 0, 1) := by decide +kernel
theorem dX9_term_21 : decode cX9_term 21 = .ok (.invokevirtual 89, 3) := by decide +kernel
theorem dX9_term_24 : decode cX9_term 24 = .ok (.bipush 47, 2) := by decide +kernel
theorem dX9_term_26 : decode cX9_term 26 = .ok (.if_icmp .ne 48, 3) := by decide +kernel
theorem dX9_term_29 : decode cX9_term 29 = .ok (.aload_n 0, 1) := by decide +kernel
theorem dX9_term_30 : decode cX9_term 30 = .ok (.invokevirtual 89, 3) := by decide +kernel
theorem dX9_term_33 : decode cX9_term 33 = .ok (.bipush 42, 2) := by decide +kernel
theorem dX9_term_35 : decode cX9_term 35 = .ok (.if_icmp .ne 7, 3) := by decide +kernel
theorem dX9_term_38 : decode cX9_term 38 = .ok (.iconst 1, 1) := by decide +kernel
theorem dX9_term_39 : decode cX9_term 39 = .ok (.goto 4, 3) := by decide +kernel
theorem dX9_term_42 : decode cX9_term 42 = .ok (.iconst 0, 1) := by decide +kernel
theorem dX9_term_43 : decode cX9_term 43 = .ok (.istore_n 1, 1) := by decide +kernel
theorem dX9_term_44 : decode cX9_term 44 = .ok (.aload_n 0, 1) := by decide +kernel
theorem dX9_term_45 : decode cX9_term 45 = .ok (.dup, 1) := by decide +kernel
theorem dX9_term_46 : decode cX9_term 46 = .ok (.getfield 68, 3) := by decide +kernel
theorem dX9_term_49 : decode cX9_term 49 = .ok (.iconst 1, 1) := by decide +kernel
theorem dX9_term_50 : decode cX9_term 50 = .ok (.iadd, 1) := by decide +kernel
theorem dX9_term_51 : decode cX9_term 51 = .ok (.putfield 68, 3) := by decide +kernel
theorem dX9_term_54 : decode cX9_term 54 = .ok (.aload_n 0, 1) := by decide +kernel
theorem dX9_term_55 : decode cX9_term 55 = .ok (.invokevirtual 146, 3) := by decide +kernel
theorem dX9_term_58 : decode cX9_term 58 = .ok (.aload_n 0, 1) := by decide +kernel
theorem dX9_term_59 : decode cX9_term 59 = .ok (.iload_n 1, 1) := by decide +kernel
theorem dX9_term_60 : decode cX9_term 60 = .ok (.ifCond .eq 7, 3) := by decide +kernel
theorem dX9_term_63 : decode cX9_term 63 = .ok (.iconst 4, 1) := by decide +kernel
theorem dX9_term_64 : decode cX9_term 64 = .ok (.goto 4, 3) := by decide +kernel
theorem dX9_term_67 : decode cX9_term 67 = .ok (.iconst 5, 1) := by decide +kernel
theorem dX9_term_68 : decode cX9_term 68 = .ok (.invokevirtual 143, 3) := by decide +kernel
theorem dX9_term_71 : decode cX9_term 71 = .ok (.goto (-67), 3) := by decide +kernel
theorem dX9_term_74 : decode cX9_term 74 = .ok (.return_, 1) := by decide +kernel
theorem dX9_sum_0 : decode cX9_sum 0 = .ok (.aload_n 0, 1) := by decide +kernel
theorem dX9_sum_1 : decode cX9_sum 1 = .ok (.invokevirtual 149, 3) := by decide +kernel
theorem dX9_sum_4 : decode cX9_sum 4 = .ok (.aload_n 0, 1) := by decide +kernel
theorem dX9_sum_5 : decode cX9_sum 5 = .ok (.invokevirtual 85, 3) := by decide +kernel
theorem dX9_sum_8 : decode cX9_sum 8 = .ok (.ifCond .eq 66, 3) := by decide +kernel
theorem dX9_sum_11 : decode cX9_sum 11 = .ok (.aload_n 0, 1) := by decide +kernel
theorem dX9_sum_12 : decode cX9_sum 12 = .ok (.invokevirtual 89, 3) := by decide +kernel
theorem dX9_sum_15 : decode cX9_sum 15 = .ok (.bipush 43, 2) := by decide +kernel
theorem dX9_sum_17 : decode cX9_sum 17 = .ok (.if_icmp .eq 12, 3) := by decide +kernel
theorem dX9_sum_20 : decode cX9_sum 20 = .ok (.aload_n 0, 1) := by decide +kernel
theorem dX9_sum_21 : decode cX9_sum 21 = .ok (.invokevirtual 89, 3) := by decide +kernel
theorem dX9_sum_24 : decode cX9_sum 24 = .ok (.bipush 45, 2) := by decide +kernel
theorem dX9_sum_26 : decode cX9_sum 26 = .ok (.if_icmp .ne 48, 3) := by decide +kernel
theorem dX9_sum_29 : decode cX9_sum 29 = .ok (.aload_n 0, 1) := by decide +kernel
theorem dX9_sum_30 : decode cX9_sum 30 = .ok (.invokevirtual 89, 3) := by decide +kernel
theorem dX9_sum_33 : decode cX9_sum 33 = .ok (.bipush 43, 2) := by decide +kernel
theorem dX9_sum_35 : decode cX9_sum 35 = .ok (.if_icmp .ne 7, 3) := by decide +kernel
theorem dX9_sum_38 : decode cX9_sum 38 = .ok (.iconst 1, 1) := by decide +kernel
theorem dX9_sum_39 : decode cX9_sum 39 = .ok (.goto 4, 3) := by decide +kernel
theorem dX9_sum_42 : decode cX9_sum 42 = .ok (.iconst 0, 1) := by decide +kernel
theorem dX9_sum_43 : decode cX9_sum 43 = .ok (.istore_n 1, 1) := by decide +kernel
theorem dX9_sum_44 : decode cX9_sum 44 = .ok (.aload_n 0, 1) := by decide +kernel
theorem dX9_sum_45 : decode cX9_sum 45 = .ok (.dup, 1) := by decide +kernel
theorem dX9_sum_46 : decode cX9_sum 46 = .ok (.getfield 68, 3) := by decide +kernel
theorem dX9_sum_49 : decode cX9_sum 49 = .ok (.iconst 1, 1) := by decide +kernel
theorem dX9_sum_50 : decode cX9_sum 50 = .ok (.iadd, 1) := by decide +kernel
theorem dX9_sum_51 : decode cX9_sum 51 = .ok (.putfield 68, 3) := by decide +kernel
theorem dX9_sum_54 : decode cX9_sum 54 = .ok (.aload_n 0, 1) := by decide +kernel
theorem dX9_sum_55 : decode cX9_sum 55 = .ok (.invokevirtual 149, 3) := by decide +kernel
theorem dX9_sum_58 : decode cX9_sum 58 = .ok (.aload_n 0, 1) := by decide +kernel
theorem dX9_sum_59 : decode cX9_sum 59 = .ok (.iload_n 1, 1) := by decide +kernel
theorem dX9_sum_60 : decode cX9_sum 60 = .ok (.ifCond .eq 7, 3) := by decide +kernel
theorem dX9_sum_63 : decode cX9_sum 63 = .ok (.iconst 2, 1) := by decide +kernel
theorem dX9_sum_64 : decode cX9_sum 64 = .ok (.goto 4, 3) := by decide +kernel
theorem dX9_sum_67 : decode cX9_sum 67 = .ok (.iconst 3, 1) := by decide +kernel
theorem dX9_sum_68 : decode cX9_sum 68 = .ok (.invokevirtual 143, 3) := by decide +kernel
theorem dX9_sum_71 : decode cX9_sum 71 = .ok (.goto (-67), 3) := by decide +kernel
theorem dX9_sum_74 : decode cX9_sum 74 = .ok (.return_, 1) := by decide +kernel
theorem dX9_once_0 : decode cX9_once 0 = .ok (.aload_n 0, 1) := by decide +kernel
theorem dX9_once_1 : decode cX9_once 1 = .ok (.getfield 152, 3) := by decide +kernel
theorem dX9_once_4 : decode cX9_once 4 = .ok (.iload_n 1, 1) := by decide +kernel
theorem dX9_once_5 : decode cX9_once 5 = .ok (.ishr, 1) := by decide +kernel
theorem dX9_once_6 : decode cX9_once 6 = .ok (.iconst 1, 1) := by decide +kernel
theorem dX9_once_7 : decode cX9_once 7 = .ok (.iand, 1) := by decide +kernel
theorem dX9_once_8 : decode cX9_once 8 = .ok (.iconst 1, 1) := by decide +kernel
theorem dX9_once_9 : decode cX9_once 9 = .ok (.if_icmp .ne 10, 3) := by decide +kernel
theorem dX9_once_12 : decode cX9_once 12 = .ok (.aload_n 0, 1) := by decide +kernel
theorem dX9_once_13 : decode cX9_once 13 = .ok (.bipush (-2), 2) := by decide +kernel
theorem dX9_once_15 : decode cX9_once 15 = .ok (.iload_n 2, 1) := by decide +kernel
theorem dX9_once_16 : decode cX9_once 16 = .ok (.invokevirtual 102, 3) := by decide +kernel
theorem dX9_once_19 : decode cX9_once 19 = .ok (.aload_n 0, 1) := by decide +kernel
theorem dX9_once_20 : decode cX9_once 20 = .ok (.dup, 1) := by decide +kernel
theorem dX9_once_21 : decode cX9_once 21 = .ok (.getfield 152, 3) := by decide +kernel
theorem dX9_once_24 : decode cX9_once 24 = .ok (.iconst 1, 1) := by decide +kernel
theorem dX9_once_25 : decode cX9_once 25 = .ok (.iload_n 1, 1) := by decide +kernel
theorem dX9_once_26 : decode cX9_once 26 = .ok (.ishl, 1) := by decide +kernel
theorem dX9_once_27 : decode cX9_once 27 = .ok (.ior, 1) := by decide +kernel
theorem dX9_once_28 : decode cX9_once 28 = .ok (.putfield 152, 3) := by decide +kernel
theorem dX9_once_31 : decode cX9_once 31 = .ok (.return_, 1) := by decide +kernel
theorem dX9_readWord_0 : decode cX9_readWord 0 = .ok (.aload_n 0, 1) := by decide +kernel
theorem dX9_readWord_1 : decode cX9_readWord 1 = .ok (.invokevirtual 85, 3) := by decide +kernel
theorem dX9_readWord_4 : decode cX9_readWord 4 = .ok (.ifCond .ne 5, 3) := by decide +kernel
theorem dX9_readWord_7 : decode cX9_readWord 7 = .ok (.lconst 0, 1) := by decide +kernel
theorem dX9_readWord_8 : decode cX9_readWord 8 = .ok (.lreturn, 1) := by decide +kernel
theorem dX9_readWord_9 : decode cX9_readWord 9 = .ok (.aload_n 0, 1) := by decide +kernel
theorem dX9_readWord_10 : decode cX9_readWord 10 = .ok (.invokevirtual 89, 3) := by decide +kernel
theorem dX9_readWord_13 : decode cX9_readWord 13 = .ok (.pop, 1) := by decide +kernel
theorem dX9_readWord_14 : decode cX9_readWord 14 = .ok (.aload_n 0, 1) := by decide +kernel
theorem dX9_readWord_15 : decode cX9_readWord 15 = .ok (.aload_n 0, 1) := by decide +kernel
theorem dX9_readWord_16 : decode cX9_readWord 16 = .ok (.getfield 68, 3) := by decide +kernel
theorem dX9_readWord_19 : decode cX9_readWord 19 = .ok (.putfield 155, 3) := by decide +kernel
theorem dX9_readWord_22 : decode cX9_readWord 22 = .ok (.lconst 0, 1) := by decide +kernel
theorem dX9_readWord_23 : decode cX9_readWord 23 = .ok (.lstore_n 1, 1) := by decide +kernel
theorem dX9_readWord_24 : decode cX9_readWord 24 = .ok (.aload_n 0, 1) := by decide +kernel
theorem dX9_readWord_25 : decode cX9_readWord 25 = .ok (.aload_n 0, 1) := by decide +kernel
theorem dX9_readWord_26 : decode cX9_readWord 26 = .ok (.getfield 68, 3) := by decide +kernel
theorem dX9_readWord_29 : decode cX9_readWord 29 = .ok (.invokevirtual 71, 3) := by decide +kernel
theorem dX9_readWord_32 : decode cX9_readWord 32 = .ok (.bipush 97, 2) := by decide +kernel
theorem dX9_readWord_34 : decode cX9_readWord 34 = .ok (.bipush 122, 2) := by decide +kernel
theorem dX9_readWord_36 : decode cX9_readWord 36 = .ok (.invokestatic 81, 3) := by decide +kernel
theorem dX9_readWord_39 : decode cX9_readWord 39 = .ok (.ifCond .eq 56, 3) := by decide +kernel
theorem dX9_readWord_42 : decode cX9_readWord 42 = .ok (.aload_n 0, 1) := by decide +kernel
theorem dX9_readWord_43 : decode cX9_readWord 43 = .ok (.getfield 68, 3) := by decide +kernel
theorem dX9_readWord_46 : decode cX9_readWord 46 = .ok (.aload_n 0, 1) := by decide +kernel
theorem dX9_readWord_47 : decode cX9_readWord 47 = .ok (.getfield 155, 3) := by decide +kernel
theorem dX9_readWord_50 : decode cX9_readWord 50 = .ok (.isub, 1) := by decide +kernel
theorem dX9_readWord_51 : decode cX9_readWord 51 = .ok (.bipush 8, 2) := by decide +kernel
theorem dX9_readWord_53 : decode cX9_readWord 53 = .ok (.if_icmp .ge 27, 3) := by decide +kernel
theorem dX9_readWord_56 : decode cX9_readWord 56 = .ok (.ldc2_w 158, 3) := by decide +kernel
theorem dX9_readWord_59 : decode cX9_readWord 59 = .ok (.lload_n 1, 1) := by decide +kernel
theorem dX9_readWord_60 : decode cX9_readWord 60 = .ok (.lmul, 1) := by decide +kernel
theorem dX9_readWord_61 : decode cX9_readWord 61 = .ok (.aload_n 0, 1) := by decide +kernel
theorem dX9_readWord_62 : decode cX9_readWord 62 = .ok (.aload_n 0, 1) := by decide +kernel
theorem dX9_readWord_63 : decode cX9_readWord 63 = .ok (.getfield 68, 3) := by decide +kernel
theorem dX9_readWord_66 : decode cX9_readWord 66 = .ok (.invokevirtual 71, 3) := by decide +kernel
theorem dX9_readWord_69 : decode cX9_readWord 69 = .ok (.i2l, 1) := by decide +kernel
theorem dX9_readWord_70 : decode cX9_readWord 70 = .ok (.ladd, 1) := by decide +kernel
theorem dX9_readWord_71 : decode cX9_readWord 71 = .ok (.ldc2_w 160, 3) := by decide +kernel
theorem dX9_readWord_74 : decode cX9_readWord 74 = .ok (.lsub, 1) := by decide +kernel
theorem dX9_readWord_75 : decode cX9_readWord 75 = .ok (.lconst 1, 1) := by decide +kernel
theorem dX9_readWord_76 : decode cX9_readWord 76 = .ok (.ladd, 1) := by decide +kernel
theorem dX9_readWord_77 : decode cX9_readWord 77 = .ok (.goto 4, 3) := by decide +kernel
theorem dX9_readWord_80 : decode cX9_readWord 80 = .ok (.lload_n 1, 1) := by decide +kernel
theorem dX9_readWord_81 : decode cX9_readWord 81 = .ok (.lstore_n 1, 1) := by decide +kernel
theorem dX9_readWord_82 : decode cX9_readWord 82 = .ok (.aload_n 0, 1) := by decide +kernel
theorem dX9_readWord_83 : decode cX9_readWord 83 = .ok (.dup, 1) := by decide +kernel
theorem dX9_readWord_84 : decode cX9_readWord 84 = .ok (.getfield 68, 3) := by decide +kernel
theorem dX9_readWord_87 : decode cX9_readWord 87 = .ok (.iconst 1, 1) := by decide +kernel
theorem dX9_readWord_88 : decode cX9_readWord 88 = .ok (.iadd, 1) := by decide +kernel
theorem dX9_readWord_89 : decode cX9_readWord 89 = .ok (.putfield 68, 3) := by decide +kernel
theorem dX9_readWord_92 : decode cX9_readWord 92 = .ok (.goto (-68), 3) := by decide +kernel
theorem dX9_readWord_95 : decode cX9_readWord 95 = .ok (.aload_n 0, 1) := by decide +kernel
theorem dX9_readWord_96 : decode cX9_readWord 96 = .ok (.getfield 68, 3) := by decide +kernel
theorem dX9_readWord_99 : decode cX9_readWord 99 = .ok (.aload_n 0, 1) := by decide +kernel
theorem dX9_readWord_100 : decode cX9_readWord 100 = .ok (.getfield 155, 3) := by decide +kernel
theorem dX9_readWord_103 : decode cX9_readWord 103 = .ok (.if_icmp .eq 17, 3) := by decide +kernel
theorem dX9_readWord_106 : decode cX9_readWord 106 = .ok (.aload_n 0, 1) := by decide +kernel
theorem dX9_readWord_107 : decode cX9_readWord 107 = .ok (.getfield 68, 3) := by decide +kernel
theorem dX9_readWord_110 : decode cX9_readWord 110 = .ok (.aload_n 0, 1) := by decide +kernel
theorem dX9_readWord_111 : decode cX9_readWord 111 = .ok (.getfield 155, 3) := by decide +kernel
theorem dX9_readWord_114 : decode cX9_readWord 114 = .ok (.isub, 1) := by decide +kernel
theorem dX9_readWord_115 : decode cX9_readWord 115 = .ok (.bipush 8, 2) := by decide +kernel
theorem dX9_readWord_117 : decode cX9_readWord 117 = .ok (.if_icmp .le 13, 3) := by decide +kernel
theorem dX9_readWord_120 : decode cX9_readWord 120 = .ok (.aload_n 0, 1) := by decide +kernel
theorem dX9_readWord_121 : decode cX9_readWord 121 = .ok (.bipush (-2), 2) := by decide +kernel
theorem dX9_readWord_123 : decode cX9_readWord 123 = .ok (.aload_n 0, 1) := by decide +kernel
theorem dX9_readWord_124 : decode cX9_readWord 124 = .ok (.getfield 155, 3) := by decide +kernel
theorem dX9_readWord_127 : decode cX9_readWord 127 = .ok (.invokevirtual 102, 3) := by decide +kernel
theorem dX9_readWord_130 : decode cX9_readWord 130 = .ok (.aload_n 0, 1) := by decide +kernel
theorem dX9_readWord_131 : decode cX9_readWord 131 = .ok (.invokevirtual 85, 3) := by decide +kernel
theorem dX9_readWord_134 : decode cX9_readWord 134 = .ok (.ifCond .eq 7, 3) := by decide +kernel
theorem dX9_readWord_137 : decode cX9_readWord 137 = .ok (.lload_n 1, 1) := by decide +kernel
theorem dX9_readWord_138 : decode cX9_readWord 138 = .ok (.goto 4, 3) := by decide +kernel
theorem dX9_readWord_141 : decode cX9_readWord 141 = .ok (.lconst 0, 1) := by decide +kernel
theorem dX9_readWord_142 : decode cX9_readWord 142 = .ok (.lreturn, 1) := by decide +kernel
theorem dX9_placeOf_0 : decode cX9_placeOf 0 = .ok (.iconst 0, 1) := by decide +kernel
theorem dX9_placeOf_1 : decode cX9_placeOf 1 = .ok (.istore 4, 2) := by decide +kernel
theorem dX9_placeOf_3 : decode cX9_placeOf 3 = .ok (.iload 4, 2) := by decide +kernel
theorem dX9_placeOf_5 : decode cX9_placeOf 5 = .ok (.iload_n 3, 1) := by decide +kernel
theorem dX9_placeOf_6 : decode cX9_placeOf 6 = .ok (.if_icmp .ge 21, 3) := by decide +kernel
theorem dX9_placeOf_9 : decode cX9_placeOf 9 = .ok (.aload_n 2, 1) := by decide +kernel
theorem dX9_placeOf_10 : decode cX9_placeOf 10 = .ok (.iload 4, 2) := by decide +kernel
theorem dX9_placeOf_12 : decode cX9_placeOf 12 = .ok (.laload, 1) := by decide +kernel
theorem dX9_placeOf_13 : decode cX9_placeOf 13 = .ok (.lload_n 0, 1) := by decide +kernel
theorem dX9_placeOf_14 : decode cX9_placeOf 14 = .ok (.lcmp, 1) := by decide +kernel
theorem dX9_placeOf_15 : decode cX9_placeOf 15 = .ok (.ifCond .ne 6, 3) := by decide +kernel
theorem dX9_placeOf_18 : decode cX9_placeOf 18 = .ok (.iload 4, 2) := by decide +kernel
theorem dX9_placeOf_20 : decode cX9_placeOf 20 = .ok (.ireturn, 1) := by decide +kernel
theorem dX9_placeOf_21 : decode cX9_placeOf 21 = .ok (.iinc 4 1, 3) := by decide +kernel
theorem dX9_placeOf_24 : decode cX9_placeOf 24 = .ok (.goto (-21), 3) := by decide +kernel
theorem dX9_placeOf_27 : decode cX9_placeOf 27 = .ok (.iconst (-1), 1) := by decide +kernel
theorem dX9_placeOf_28 : decode cX9_placeOf 28 = .ok (.ireturn, 1) := by decide +kernel
theorem dX9_readKnown_0 : decode cX9_readKnown 0 = .ok (.aload_n 0, 1) := by decide +kernel
theorem dX9_readKnown_1 : decode cX9_readKnown 1 = .ok (.invokevirtual 162, 3) := by decide +kernel
theorem dX9_readKnown_4 : decode cX9_readKnown 4 = .ok (.aload_n 1, 1) := by decide +kernel
theorem dX9_readKnown_5 : decode cX9_readKnown 5 = .ok (.iload_n 2, 1) := by decide +kernel
theorem dX9_readKnown_6 : decode cX9_readKnown 6 = .ok (.invokestatic 166, 3) := by decide +kernel
theorem dX9_readKnown_9 : decode cX9_readKnown 9 = .ok (.istore_n 3, 1) := by decide +kernel
theorem dX9_readKnown_10 : decode cX9_readKnown 10 = .ok (.aload_n 0, 1) := by decide +kernel
theorem dX9_readKnown_11 : decode cX9_readKnown 11 = .ok (.invokevirtual 85, 3) := by decide +kernel
theorem dX9_readKnown_14 : decode cX9_readKnown 14 = .ok (.ifCond .eq 18, 3) := by decide +kernel
theorem dX9_readKnown_17 : decode cX9_readKnown 17 = .ok (.iload_n 3, 1) := by decide +kernel
theorem dX9_readKnown_18 : decode cX9_readKnown 18 = .ok (.iconst (-1), 1) := by decide +kernel
theorem dX9_readKnown_19 : decode cX9_readKnown 19 = .ok (.if_icmp .ne 13, 3) := by decide +kernel
theorem dX9_readKnown_22 : decode cX9_readKnown 22 = .ok (.aload_n 0, 1) := by decide +kernel
theorem dX9_readKnown_23 : decode cX9_readKnown 23 = .ok (.bipush (-4), 2) := by decide +kernel
theorem dX9_readKnown_25 : decode cX9_readKnown 25 = .ok (.aload_n 0, 1) := by decide +kernel
theorem dX9_readKnown_26 : decode cX9_readKnown 26 = .ok (.getfield 155, 3) := by decide +kernel
theorem dX9_readKnown_29 : decode cX9_readKnown 29 = .ok (.invokevirtual 102, 3) := by decide +kernel
theorem dX9_readKnown_32 : decode cX9_readKnown 32 = .ok (.aload_n 0, 1) := by decide +kernel
theorem dX9_readKnown_33 : decode cX9_readKnown 33 = .ok (.invokevirtual 85, 3) := by decide +kernel
theorem dX9_readKnown_36 : decode cX9_readKnown 36 = .ok (.ifCond .eq 7, 3) := by decide +kernel
theorem dX9_readKnown_39 : decode cX9_readKnown 39 = .ok (.iload_n 3, 1) := by decide +kernel
theorem dX9_readKnown_40 : decode cX9_readKnown 40 = .ok (.goto 4, 3) := by decide +kernel
theorem dX9_readKnown_43 : decode cX9_readKnown 43 = .ok (.iconst 0, 1) := by decide +kernel
theorem dX9_readKnown_44 : decode cX9_readKnown 44 = .ok (.ireturn, 1) := by decide +kernel
theorem dX9_isFresh_0 : decode cX9_isFresh 0 = .ok (.aload_n 0, 1) := by decide +kernel
theorem dX9_isFresh_1 : decode cX9_isFresh 1 = .ok (.invokevirtual 85, 3) := by decide +kernel
theorem dX9_isFresh_4 : decode cX9_isFresh 4 = .ok (.ifCond .eq 23, 3) := by decide +kernel
theorem dX9_isFresh_7 : decode cX9_isFresh 7 = .ok (.lload_n 3, 1) := by decide +kernel
theorem dX9_isFresh_8 : decode cX9_isFresh 8 = .ok (.aload_n 1, 1) := by decide +kernel
theorem dX9_isFresh_9 : decode cX9_isFresh 9 = .ok (.iload_n 2, 1) := by decide +kernel
theorem dX9_isFresh_10 : decode cX9_isFresh 10 = .ok (.invokestatic 166, 3) := by decide +kernel
theorem dX9_isFresh_13 : decode cX9_isFresh 13 = .ok (.iconst (-1), 1) := by decide +kernel
theorem dX9_isFresh_14 : decode cX9_isFresh 14 = .ok (.if_icmp .eq 13, 3) := by decide +kernel
theorem dX9_isFresh_17 : decode cX9_isFresh 17 = .ok (.aload_n 0, 1) := by decide +kernel
theorem dX9_isFresh_18 : decode cX9_isFresh 18 = .ok (.bipush (-5), 2) := by decide +kernel
theorem dX9_isFresh_20 : decode cX9_isFresh 20 = .ok (.aload_n 0, 1) := by decide +kernel
theorem dX9_isFresh_21 : decode cX9_isFresh 21 = .ok (.getfield 155, 3) := by decide +kernel
theorem dX9_isFresh_24 : decode cX9_isFresh 24 = .ok (.invokevirtual 102, 3) := by decide +kernel
theorem dX9_isFresh_27 : decode cX9_isFresh 27 = .ok (.aload_n 0, 1) := by decide +kernel
theorem dX9_isFresh_28 : decode cX9_isFresh 28 = .ok (.invokevirtual 85, 3) := by decide +kernel
theorem dX9_isFresh_31 : decode cX9_isFresh 31 = .ok (.ireturn, 1) := by decide +kernel
theorem dX9_readName_0 : decode cX9_readName 0 = .ok (.aload_n 0, 1) := by decide +kernel
theorem dX9_readName_1 : decode cX9_readName 1 = .ok (.getfield 20, 3) := by decide +kernel
theorem dX9_readName_4 : decode cX9_readName 4 = .ok (.iconst 2, 1) := by decide +kernel
theorem dX9_readName_5 : decode cX9_readName 5 = .ok (.iaload, 1) := by decide +kernel
theorem dX9_readName_6 : decode cX9_readName 6 = .ok (.bipush 12, 2) := by decide +kernel
theorem dX9_readName_8 : decode cX9_readName 8 = .ok (.if_icmp .ne 10, 3) := by decide +kernel
theorem dX9_readName_11 : decode cX9_readName 11 = .ok (.aload_n 0, 1) := by decide +kernel
theorem dX9_readName_12 : decode cX9_readName 12 = .ok (.bipush (-6), 2) := by decide +kernel
theorem dX9_readName_14 : decode cX9_readName 14 = .ok (.iload_n 1, 1) := by decide +kernel
theorem dX9_readName_15 : decode cX9_readName 15 = .ok (.invokevirtual 102, 3) := by decide +kernel
theorem dX9_readName_18 : decode cX9_readName 18 = .ok (.aload_n 0, 1) := by decide +kernel
theorem dX9_readName_19 : decode cX9_readName 19 = .ok (.invokevirtual 162, 3) := by decide +kernel
theorem dX9_readName_22 : decode cX9_readName 22 = .ok (.lstore_n 2, 1) := by decide +kernel
theorem dX9_readName_23 : decode cX9_readName 23 = .ok (.aload_n 0, 1) := by decide +kernel
theorem dX9_readName_24 : decode cX9_readName 24 = .ok (.aload_n 0, 1) := by decide +kernel
theorem dX9_readName_25 : decode cX9_readName 25 = .ok (.getfield 32, 3) := by decide +kernel
theorem dX9_readName_28 : decode cX9_readName 28 = .ok (.aload_n 0, 1) := by decide +kernel
theorem dX9_readName_29 : decode cX9_readName 29 = .ok (.getfield 20, 3) := by decide +kernel
theorem dX9_readName_32 : decode cX9_readName 32 = .ok (.iconst 2, 1) := by decide +kernel
theorem dX9_readName_33 : decode cX9_readName 33 = .ok (.iaload, 1) := by decide +kernel
theorem dX9_readName_34 : decode cX9_readName 34 = .ok (.lload_n 2, 1) := by decide +kernel
theorem dX9_readName_35 : decode cX9_readName 35 = .ok (.invokevirtual 170, 3) := by decide +kernel
theorem dX9_readName_38 : decode cX9_readName 38 = .ok (.ifCond .ne 4, 3) := by decide +kernel
theorem dX9_readName_41 : decode cX9_readName 41 = .ok (.return_, 1) := by decide +kernel
theorem dX9_readName_42 : decode cX9_readName 42 = .ok (.aload_n 0, 1) := by decide +kernel
theorem dX9_readName_43 : decode cX9_readName 43 = .ok (.getfield 32, 3) := by decide +kernel
theorem dX9_readName_46 : decode cX9_readName 46 = .ok (.aload_n 0, 1) := by decide +kernel
theorem dX9_readName_47 : decode cX9_readName 47 = .ok (.getfield 20, 3) := by decide +kernel
theorem dX9_readName_50 : decode cX9_readName 50 = .ok (.iconst 2, 1) := by decide +kernel
theorem dX9_readName_51 : decode cX9_readName 51 = .ok (.iaload, 1) := by decide +kernel
theorem dX9_readName_52 : decode cX9_readName 52 = .ok (.lload_n 2, 1) := by decide +kernel
theorem dX9_readName_53 : decode cX9_readName 53 = .ok (.lastore, 1) := by decide +kernel
theorem dX9_readName_54 : decode cX9_readName 54 = .ok (.aload_n 0, 1) := by decide +kernel
theorem dX9_readName_55 : decode cX9_readName 55 = .ok (.getfield 20, 3) := by decide +kernel
theorem dX9_readName_58 : decode cX9_readName 58 = .ok (.iconst 2, 1) := by decide +kernel
theorem dX9_readName_59 : decode cX9_readName 59 = .ok (.dup2, 1) := by decide +kernel
theorem dX9_readName_60 : decode cX9_readName 60 = .ok (.iaload, 1) := by decide +kernel
theorem dX9_readName_61 : decode cX9_readName 61 = .ok (.iconst 1, 1) := by decide +kernel
theorem dX9_readName_62 : decode cX9_readName 62 = .ok (.iadd, 1) := by decide +kernel
theorem dX9_readName_63 : decode cX9_readName 63 = .ok (.iastore, 1) := by decide +kernel
theorem dX9_readName_64 : decode cX9_readName 64 = .ok (.return_, 1) := by decide +kernel
theorem dX9_readLibrary_0 : decode cX9_readLibrary 0 = .ok (.aload_n 0, 1) := by decide +kernel
theorem dX9_readLibrary_1 : decode cX9_readLibrary 1 = .ok (.getfield 20, 3) := by decide +kernel
theorem dX9_readLibrary_4 : decode cX9_readLibrary 4 = .ok (.iconst 1, 1) := by decide +kernel
theorem dX9_readLibrary_5 : decode cX9_readLibrary 5 = .ok (.iaload, 1) := by decide +kernel
theorem dX9_readLibrary_6 : decode cX9_readLibrary 6 = .ok (.bipush 8, 2) := by decide +kernel
theorem dX9_readLibrary_8 : decode cX9_readLibrary 8 = .ok (.if_icmp .ne 10, 3) := by decide +kernel
theorem dX9_readLibrary_11 : decode cX9_readLibrary 11 = .ok (.aload_n 0, 1) := by decide +kernel
theorem dX9_readLibrary_12 : decode cX9_readLibrary 12 = .ok (.bipush (-6), 2) := by decide +kernel
theorem dX9_readLibrary_14 : decode cX9_readLibrary 14 = .ok (.iload_n 1, 1) := by decide +kernel
theorem dX9_readLibrary_15 : decode cX9_readLibrary 15 = .ok (.invokevirtual 102, 3) := by decide +kernel
theorem dX9_readLibrary_18 : decode cX9_readLibrary 18 = .ok (.aload_n 0, 1) := by decide +kernel
theorem dX9_readLibrary_19 : decode cX9_readLibrary 19 = .ok (.invokevirtual 162, 3) := by decide +kernel
theorem dX9_readLibrary_22 : decode cX9_readLibrary 22 = .ok (.lstore_n 2, 1) := by decide +kernel
theorem dX9_readLibrary_23 : decode cX9_readLibrary 23 = .ok (.aload_n 0, 1) := by decide +kernel
theorem dX9_readLibrary_24 : decode cX9_readLibrary 24 = .ok (.aload_n 0, 1) := by decide +kernel
theorem dX9_readLibrary_25 : decode cX9_readLibrary 25 = .ok (.getfield 28, 3) := by decide +kernel
theorem dX9_readLibrary_28 : decode cX9_readLibrary 28 = .ok (.aload_n 0, 1) := by decide +kernel
theorem dX9_readLibrary_29 : decode cX9_readLibrary 29 = .ok (.getfield 20, 3) := by decide +kernel
theorem dX9_readLibrary_32 : decode cX9_readLibrary 32 = .ok (.iconst 1, 1) := by decide +kernel
theorem dX9_readLibrary_33 : decode cX9_readLibrary 33 = .ok (.iaload, 1) := by decide +kernel
theorem dX9_readLibrary_34 : decode cX9_readLibrary 34 = .ok (.lload_n 2, 1) := by decide +kernel
theorem dX9_readLibrary_35 : decode cX9_readLibrary 35 = .ok (.invokevirtual 170, 3) := by decide +kernel
theorem dX9_readLibrary_38 : decode cX9_readLibrary 38 = .ok (.ifCond .ne 4, 3) := by decide +kernel
theorem dX9_readLibrary_41 : decode cX9_readLibrary 41 = .ok (.return_, 1) := by decide +kernel
theorem dX9_readLibrary_42 : decode cX9_readLibrary 42 = .ok (.aload_n 0, 1) := by decide +kernel
theorem dX9_readLibrary_43 : decode cX9_readLibrary 43 = .ok (.getfield 20, 3) := by decide +kernel
theorem dX9_readLibrary_46 : decode cX9_readLibrary 46 = .ok (.iconst 1, 1) := by decide +kernel
theorem dX9_readLibrary_47 : decode cX9_readLibrary 47 = .ok (.iaload, 1) := by decide +kernel
theorem dX9_readLibrary_48 : decode cX9_readLibrary 48 = .ok (.istore 4, 2) := by decide +kernel
theorem dX9_readLibrary_50 : decode cX9_readLibrary 50 = .ok (.iload 4, 2) := by decide +kernel
theorem dX9_readLibrary_52 : decode cX9_readLibrary 52 = .ok (.invokestatic 174, 3) := by decide +kernel
theorem dX9_readLibrary_55 : decode cX9_readLibrary 55 = .ok (.istore 5, 2) := by decide +kernel
theorem dX9_readLibrary_57 : decode cX9_readLibrary 57 = .ok (.aload_n 0, 1) := by decide +kernel
theorem dX9_readLibrary_58 : decode cX9_readLibrary 58 = .ok (.getfield 28, 3) := by decide +kernel
theorem dX9_readLibrary_61 : decode cX9_readLibrary 61 = .ok (.iload 4, 2) := by decide +kernel
theorem dX9_readLibrary_63 : decode cX9_readLibrary 63 = .ok (.lload_n 2, 1) := by decide +kernel
theorem dX9_readLibrary_64 : decode cX9_readLibrary 64 = .ok (.lastore, 1) := by decide +kernel
theorem dX9_readLibrary_65 : decode cX9_readLibrary 65 = .ok (.aload_n 0, 1) := by decide +kernel
theorem dX9_readLibrary_66 : decode cX9_readLibrary 66 = .ok (.getfield 20, 3) := by decide +kernel
theorem dX9_readLibrary_69 : decode cX9_readLibrary 69 = .ok (.iload 5, 2) := by decide +kernel
theorem dX9_readLibrary_71 : decode cX9_readLibrary 71 = .ok (.iconst 0, 1) := by decide +kernel
theorem dX9_readLibrary_72 : decode cX9_readLibrary 72 = .ok (.iadd, 1) := by decide +kernel
theorem dX9_readLibrary_73 : decode cX9_readLibrary 73 = .ok (.aload_n 0, 1) := by decide +kernel
theorem dX9_readLibrary_74 : decode cX9_readLibrary 74 = .ok (.iconst 0, 1) := by decide +kernel
theorem dX9_readLibrary_75 : decode cX9_readLibrary 75 = .ok (.sipush 999, 3) := by decide +kernel
theorem dX9_readLibrary_78 : decode cX9_readLibrary 78 = .ok (.invokevirtual 140, 3) := by decide +kernel
theorem dX9_readLibrary_81 : decode cX9_readLibrary 81 = .ok (.iastore, 1) := by decide +kernel
theorem dX9_readLibrary_82 : decode cX9_readLibrary 82 = .ok (.aload_n 0, 1) := by decide +kernel
theorem dX9_readLibrary_83 : decode cX9_readLibrary 83 = .ok (.getfield 20, 3) := by decide +kernel
theorem dX9_readLibrary_86 : decode cX9_readLibrary 86 = .ok (.iload 5, 2) := by decide +kernel
theorem dX9_readLibrary_88 : decode cX9_readLibrary 88 = .ok (.iconst 1, 1) := by decide +kernel
theorem dX9_readLibrary_89 : decode cX9_readLibrary 89 = .ok (.iadd, 1) := by decide +kernel
theorem dX9_readLibrary_90 : decode cX9_readLibrary 90 = .ok (.aload_n 0, 1) := by decide +kernel
theorem dX9_readLibrary_91 : decode cX9_readLibrary 91 = .ok (.invokevirtual 85, 3) := by decide +kernel
theorem dX9_readLibrary_94 : decode cX9_readLibrary 94 = .ok (.ifCond .eq 16, 3) := by decide +kernel
theorem dX9_readLibrary_97 : decode cX9_readLibrary 97 = .ok (.aload_n 0, 1) := by decide +kernel
theorem dX9_readLibrary_98 : decode cX9_readLibrary 98 = .ok (.ldc 177, 2) := by decide +kernel
theorem dX9_readLibrary_100 : decode cX9_readLibrary 100 = .ok (.invokevirtual 130, 3) := by decide +kernel
theorem dX9_readLibrary_103 : decode cX9_readLibrary 103 = .ok (.ifCond .eq 7, 3) := by decide +kernel
theorem dX9_readLibrary_106 : decode cX9_readLibrary 106 = .ok (.iconst 1, 1) := by decide +kernel
theorem dX9_readLibrary_107 : decode cX9_readLibrary 107 = .ok (.goto 4, 3) := by decide +kernel
theorem dX9_readLibrary_110 : decode cX9_readLibrary 110 = .ok (.iconst 0, 1) := by decide +kernel
theorem dX9_readLibrary_111 : decode cX9_readLibrary 111 = .ok (.iastore, 1) := by decide +kernel
theorem dX9_readLibrary_112 : decode cX9_readLibrary 112 = .ok (.aload_n 0, 1) := by decide +kernel
theorem dX9_readLibrary_113 : decode cX9_readLibrary 113 = .ok (.getfield 20, 3) := by decide +kernel
theorem dX9_readLibrary_116 : decode cX9_readLibrary 116 = .ok (.iload 5, 2) := by decide +kernel
theorem dX9_readLibrary_118 : decode cX9_readLibrary 118 = .ok (.iconst 2, 1) := by decide +kernel
theorem dX9_readLibrary_119 : decode cX9_readLibrary 119 = .ok (.iadd, 1) := by decide +kernel
theorem dX9_readLibrary_120 : decode cX9_readLibrary 120 = .ok (.iload 4, 2) := by decide +kernel
theorem dX9_readLibrary_122 : decode cX9_readLibrary 122 = .ok (.iconst 1, 1) := by decide +kernel
theorem dX9_readLibrary_123 : decode cX9_readLibrary 123 = .ok (.iadd, 1) := by decide +kernel
theorem dX9_readLibrary_124 : decode cX9_readLibrary 124 = .ok (.iastore, 1) := by decide +kernel
theorem dX9_readLibrary_125 : decode cX9_readLibrary 125 = .ok (.iconst 0, 1) := by decide +kernel
theorem dX9_readLibrary_126 : decode cX9_readLibrary 126 = .ok (.istore 6, 2) := by decide +kernel
theorem dX9_readLibrary_128 : decode cX9_readLibrary 128 = .ok (.iload 6, 2) := by decide +kernel
theorem dX9_readLibrary_130 : decode cX9_readLibrary 130 = .ok (.bipush 12, 2) := by decide +kernel
theorem dX9_readLibrary_132 : decode cX9_readLibrary 132 = .ok (.if_icmp .ge 23, 3) := by decide +kernel
theorem dX9_readLibrary_135 : decode cX9_readLibrary 135 = .ok (.aload_n 0, 1) := by decide +kernel
theorem dX9_readLibrary_136 : decode cX9_readLibrary 136 = .ok (.getfield 20, 3) := by decide +kernel
theorem dX9_readLibrary_139 : decode cX9_readLibrary 139 = .ok (.iload 5, 2) := by decide +kernel
theorem dX9_readLibrary_141 : decode cX9_readLibrary 141 = .ok (.bipush 12, 2) := by decide +kernel
theorem dX9_readLibrary_143 : decode cX9_readLibrary 143 = .ok (.iadd, 1) := by decide +kernel
theorem dX9_readLibrary_144 : decode cX9_readLibrary 144 = .ok (.iload 6, 2) := by decide +kernel
theorem dX9_readLibrary_146 : decode cX9_readLibrary 146 = .ok (.iadd, 1) := by decide +kernel
theorem dX9_readLibrary_147 : decode cX9_readLibrary 147 = .ok (.iconst (-1), 1) := by decide +kernel
theorem dX9_readLibrary_148 : decode cX9_readLibrary 148 = .ok (.iastore, 1) := by decide +kernel
theorem dX9_readLibrary_149 : decode cX9_readLibrary 149 = .ok (.iinc 6 1, 3) := by decide +kernel
theorem dX9_readLibrary_152 : decode cX9_readLibrary 152 = .ok (.goto (-24), 3) := by decide +kernel
theorem dX9_readLibrary_155 : decode cX9_readLibrary 155 = .ok (.aload_n 0, 1) := by decide +kernel
theorem dX9_readLibrary_156 : decode cX9_readLibrary 156 = .ok (.getfield 20, 3) := by decide +kernel
theorem dX9_readLibrary_159 : decode cX9_readLibrary 159 = .ok (.iconst 1, 1) := by decide +kernel
theorem dX9_readLibrary_160 : decode cX9_readLibrary 160 = .ok (.dup2, 1) := by decide +kernel
theorem dX9_readLibrary_161 : decode cX9_readLibrary 161 = .ok (.iaload, 1) := by decide +kernel
theorem dX9_readLibrary_162 : decode cX9_readLibrary 162 = .ok (.iconst 1, 1) := by decide +kernel
theorem dX9_readLibrary_163 : decode cX9_readLibrary 163 = .ok (.iadd, 1) := by decide +kernel
theorem dX9_readLibrary_164 : decode cX9_readLibrary 164 = .ok (.iastore, 1) := by decide +kernel
theorem dX9_readLibrary_165 : decode cX9_readLibrary 165 = .ok (.aload_n 0, 1) := by decide +kernel
theorem dX9_readLibrary_166 : decode cX9_readLibrary 166 = .ok (.getfield 20, 3) := by decide +kernel
theorem dX9_readLibrary_169 : decode cX9_readLibrary 169 = .ok (.iconst 3, 1) := by decide +kernel
theorem dX9_readLibrary_170 : decode cX9_readLibrary 170 = .ok (.aload_n 0, 1) := by decide +kernel
theorem dX9_readLibrary_171 : decode cX9_readLibrary 171 = .ok (.getfield 20, 3) := by decide +kernel
theorem dX9_readLibrary_174 : decode cX9_readLibrary 174 = .ok (.iconst 1, 1) := by decide +kernel
theorem dX9_readLibrary_175 : decode cX9_readLibrary 175 = .ok (.iaload, 1) := by decide +kernel
theorem dX9_readLibrary_176 : decode cX9_readLibrary 176 = .ok (.iastore, 1) := by decide +kernel
theorem dX9_readLibrary_177 : decode cX9_readLibrary 177 = .ok (.return_, 1) := by decide +kernel
theorem dX9_readOffer_0 : decode cX9_readOffer 0 = .ok (.aload_n 0, 1) := by decide +kernel
theorem dX9_readOffer_1 : decode cX9_readOffer 1 = .ok (.aload_n 0, 1) := by decide +kernel
theorem dX9_readOffer_2 : decode cX9_readOffer 2 = .ok (.getfield 28, 3) := by decide +kernel
theorem dX9_readOffer_5 : decode cX9_readOffer 5 = .ok (.aload_n 0, 1) := by decide +kernel
theorem dX9_readOffer_6 : decode cX9_readOffer 6 = .ok (.getfield 20, 3) := by decide +kernel
theorem dX9_readOffer_9 : decode cX9_readOffer 9 = .ok (.iconst 1, 1) := by decide +kernel
theorem dX9_readOffer_10 : decode cX9_readOffer 10 = .ok (.iaload, 1) := by decide +kernel
theorem dX9_readOffer_11 : decode cX9_readOffer 11 = .ok (.invokevirtual 179, 3) := by decide +kernel
theorem dX9_readOffer_14 : decode cX9_readOffer 14 = .ok (.istore_n 1, 1) := by decide +kernel
theorem dX9_readOffer_15 : decode cX9_readOffer 15 = .ok (.aload_n 0, 1) := by decide +kernel
theorem dX9_readOffer_16 : decode cX9_readOffer 16 = .ok (.aload_n 0, 1) := by decide +kernel
theorem dX9_readOffer_17 : decode cX9_readOffer 17 = .ok (.getfield 32, 3) := by decide +kernel
theorem dX9_readOffer_20 : decode cX9_readOffer 20 = .ok (.aload_n 0, 1) := by decide +kernel
theorem dX9_readOffer_21 : decode cX9_readOffer 21 = .ok (.getfield 20, 3) := by decide +kernel
theorem dX9_readOffer_24 : decode cX9_readOffer 24 = .ok (.iconst 2, 1) := by decide +kernel
theorem dX9_readOffer_25 : decode cX9_readOffer 25 = .ok (.iaload, 1) := by decide +kernel
theorem dX9_readOffer_26 : decode cX9_readOffer 26 = .ok (.invokevirtual 179, 3) := by decide +kernel
theorem dX9_readOffer_29 : decode cX9_readOffer 29 = .ok (.istore_n 2, 1) := by decide +kernel
theorem dX9_readOffer_30 : decode cX9_readOffer 30 = .ok (.iload_n 1, 1) := by decide +kernel
theorem dX9_readOffer_31 : decode cX9_readOffer 31 = .ok (.invokestatic 174, 3) := by decide +kernel
theorem dX9_readOffer_34 : decode cX9_readOffer 34 = .ok (.bipush 12, 2) := by decide +kernel
theorem dX9_readOffer_36 : decode cX9_readOffer 36 = .ok (.iadd, 1) := by decide +kernel
theorem dX9_readOffer_37 : decode cX9_readOffer 37 = .ok (.iload_n 2, 1) := by decide +kernel
theorem dX9_readOffer_38 : decode cX9_readOffer 38 = .ok (.iadd, 1) := by decide +kernel
theorem dX9_readOffer_39 : decode cX9_readOffer 39 = .ok (.istore_n 3, 1) := by decide +kernel
theorem dX9_readOffer_40 : decode cX9_readOffer 40 = .ok (.aload_n 0, 1) := by decide +kernel
theorem dX9_readOffer_41 : decode cX9_readOffer 41 = .ok (.invokevirtual 85, 3) := by decide +kernel
theorem dX9_readOffer_44 : decode cX9_readOffer 44 = .ok (.ifCond .eq 23, 3) := by decide +kernel
theorem dX9_readOffer_47 : decode cX9_readOffer 47 = .ok (.aload_n 0, 1) := by decide +kernel
theorem dX9_readOffer_48 : decode cX9_readOffer 48 = .ok (.getfield 20, 3) := by decide +kernel
theorem dX9_readOffer_51 : decode cX9_readOffer 51 = .ok (.iload_n 3, 1) := by decide +kernel
theorem dX9_readOffer_52 : decode cX9_readOffer 52 = .ok (.iaload, 1) := by decide +kernel
theorem dX9_readOffer_53 : decode cX9_readOffer 53 = .ok (.iconst (-1), 1) := by decide +kernel
theorem dX9_readOffer_54 : decode cX9_readOffer 54 = .ok (.if_icmp .eq 13, 3) := by decide +kernel
theorem dX9_readOffer_57 : decode cX9_readOffer 57 = .ok (.aload_n 0, 1) := by decide +kernel
theorem dX9_readOffer_58 : decode cX9_readOffer 58 = .ok (.bipush (-5), 2) := by decide +kernel
theorem dX9_readOffer_60 : decode cX9_readOffer 60 = .ok (.aload_n 0, 1) := by decide +kernel
theorem dX9_readOffer_61 : decode cX9_readOffer 61 = .ok (.getfield 155, 3) := by decide +kernel
theorem dX9_readOffer_64 : decode cX9_readOffer 64 = .ok (.invokevirtual 102, 3) := by decide +kernel
theorem dX9_readOffer_67 : decode cX9_readOffer 67 = .ok (.aload_n 0, 1) := by decide +kernel
theorem dX9_readOffer_68 : decode cX9_readOffer 68 = .ok (.invokevirtual 85, 3) := by decide +kernel
theorem dX9_readOffer_71 : decode cX9_readOffer 71 = .ok (.ifCond .ne 4, 3) := by decide +kernel
theorem dX9_readOffer_74 : decode cX9_readOffer 74 = .ok (.return_, 1) := by decide +kernel
theorem dX9_readOffer_75 : decode cX9_readOffer 75 = .ok (.aload_n 0, 1) := by decide +kernel
theorem dX9_readOffer_76 : decode cX9_readOffer 76 = .ok (.ldc 183, 2) := by decide +kernel
theorem dX9_readOffer_78 : decode cX9_readOffer 78 = .ok (.invokevirtual 130, 3) := by decide +kernel
theorem dX9_readOffer_81 : decode cX9_readOffer 81 = .ok (.ifCond .eq 29, 3) := by decide +kernel
theorem dX9_readOffer_84 : decode cX9_readOffer 84 = .ok (.aload_n 0, 1) := by decide +kernel
theorem dX9_readOffer_85 : decode cX9_readOffer 85 = .ok (.getfield 20, 3) := by decide +kernel
theorem dX9_readOffer_88 : decode cX9_readOffer 88 = .ok (.iload_n 3, 1) := by decide +kernel
theorem dX9_readOffer_89 : decode cX9_readOffer 89 = .ok (.bipush (-2), 2) := by decide +kernel
theorem dX9_readOffer_91 : decode cX9_readOffer 91 = .ok (.aload_n 0, 1) := by decide +kernel
theorem dX9_readOffer_92 : decode cX9_readOffer 92 = .ok (.aload_n 0, 1) := by decide +kernel
theorem dX9_readOffer_93 : decode cX9_readOffer 93 = .ok (.getfield 32, 3) := by decide +kernel
theorem dX9_readOffer_96 : decode cX9_readOffer 96 = .ok (.aload_n 0, 1) := by decide +kernel
theorem dX9_readOffer_97 : decode cX9_readOffer 97 = .ok (.getfield 20, 3) := by decide +kernel
theorem dX9_readOffer_100 : decode cX9_readOffer 100 = .ok (.iconst 2, 1) := by decide +kernel
theorem dX9_readOffer_101 : decode cX9_readOffer 101 = .ok (.iaload, 1) := by decide +kernel
theorem dX9_readOffer_102 : decode cX9_readOffer 102 = .ok (.invokevirtual 179, 3) := by decide +kernel
theorem dX9_readOffer_105 : decode cX9_readOffer 105 = .ok (.isub, 1) := by decide +kernel
theorem dX9_readOffer_106 : decode cX9_readOffer 106 = .ok (.iastore, 1) := by decide +kernel
theorem dX9_readOffer_107 : decode cX9_readOffer 107 = .ok (.goto 17, 3) := by decide +kernel
theorem dX9_readOffer_110 : decode cX9_readOffer 110 = .ok (.aload_n 0, 1) := by decide +kernel
theorem dX9_readOffer_111 : decode cX9_readOffer 111 = .ok (.getfield 20, 3) := by decide +kernel
theorem dX9_readOffer_114 : decode cX9_readOffer 114 = .ok (.iload_n 3, 1) := by decide +kernel
theorem dX9_readOffer_115 : decode cX9_readOffer 115 = .ok (.aload_n 0, 1) := by decide +kernel
theorem dX9_readOffer_116 : decode cX9_readOffer 116 = .ok (.iconst 0, 1) := by decide +kernel
theorem dX9_readOffer_117 : decode cX9_readOffer 117 = .ok (.sipush 9999, 3) := by decide +kernel
theorem dX9_readOffer_120 : decode cX9_readOffer 120 = .ok (.invokevirtual 140, 3) := by decide +kernel
theorem dX9_readOffer_123 : decode cX9_readOffer 123 = .ok (.iastore, 1) := by decide +kernel
theorem dX9_readOffer_124 : decode cX9_readOffer 124 = .ok (.return_, 1) := by decide +kernel
theorem dX9_prefers_0 : decode cX9_prefers 0 = .ok (.iconst 0, 1) := by decide +kernel
theorem dX9_prefers_1 : decode cX9_prefers 1 = .ok (.istore 4, 2) := by decide +kernel
theorem dX9_prefers_3 : decode cX9_prefers 3 = .ok (.iload 4, 2) := by decide +kernel
theorem dX9_prefers_5 : decode cX9_prefers 5 = .ok (.aload_n 1, 1) := by decide +kernel
theorem dX9_prefers_6 : decode cX9_prefers 6 = .ok (.iload_n 2, 1) := by decide +kernel
theorem dX9_prefers_7 : decode cX9_prefers 7 = .ok (.invokestatic 174, 3) := by decide +kernel
theorem dX9_prefers_10 : decode cX9_prefers 10 = .ok (.iconst 3, 1) := by decide +kernel
theorem dX9_prefers_11 : decode cX9_prefers 11 = .ok (.iadd, 1) := by decide +kernel
theorem dX9_prefers_12 : decode cX9_prefers 12 = .ok (.iaload, 1) := by decide +kernel
theorem dX9_prefers_13 : decode cX9_prefers 13 = .ok (.if_icmp .ge 26, 3) := by decide +kernel
theorem dX9_prefers_16 : decode cX9_prefers 16 = .ok (.aload_n 1, 1) := by decide +kernel
theorem dX9_prefers_17 : decode cX9_prefers 17 = .ok (.iload_n 2, 1) := by decide +kernel
theorem dX9_prefers_18 : decode cX9_prefers 18 = .ok (.invokestatic 174, 3) := by decide +kernel
theorem dX9_prefers_21 : decode cX9_prefers 21 = .ok (.iconst 4, 1) := by decide +kernel
theorem dX9_prefers_22 : decode cX9_prefers 22 = .ok (.iadd, 1) := by decide +kernel
theorem dX9_prefers_23 : decode cX9_prefers 23 = .ok (.iload 4, 2) := by decide +kernel
theorem dX9_prefers_25 : decode cX9_prefers 25 = .ok (.iadd, 1) := by decide +kernel
theorem dX9_prefers_26 : decode cX9_prefers 26 = .ok (.iaload, 1) := by decide +kernel
theorem dX9_prefers_27 : decode cX9_prefers 27 = .ok (.iload_n 3, 1) := by decide +kernel
theorem dX9_prefers_28 : decode cX9_prefers 28 = .ok (.if_icmp .ne 5, 3) := by decide +kernel
theorem dX9_prefers_31 : decode cX9_prefers 31 = .ok (.iconst 1, 1) := by decide +kernel
theorem dX9_prefers_32 : decode cX9_prefers 32 = .ok (.ireturn, 1) := by decide +kernel
theorem dX9_prefers_33 : decode cX9_prefers 33 = .ok (.iinc 4 1, 3) := by decide +kernel
theorem dX9_prefers_36 : decode cX9_prefers 36 = .ok (.goto (-33), 3) := by decide +kernel
theorem dX9_prefers_39 : decode cX9_prefers 39 = .ok (.iconst 0, 1) := by decide +kernel
theorem dX9_prefers_40 : decode cX9_prefers 40 = .ok (.ireturn, 1) := by decide +kernel
theorem dX9_readPreference_0 : decode cX9_readPreference 0 = .ok (.aload_n 0, 1) := by decide +kernel
theorem dX9_readPreference_1 : decode cX9_readPreference 1 = .ok (.aload_n 0, 1) := by decide +kernel
theorem dX9_readPreference_2 : decode cX9_readPreference 2 = .ok (.getfield 28, 3) := by decide +kernel
theorem dX9_readPreference_5 : decode cX9_readPreference 5 = .ok (.aload_n 0, 1) := by decide +kernel
theorem dX9_readPreference_6 : decode cX9_readPreference 6 = .ok (.getfield 20, 3) := by decide +kernel
theorem dX9_readPreference_9 : decode cX9_readPreference 9 = .ok (.iconst 1, 1) := by decide +kernel
theorem dX9_readPreference_10 : decode cX9_readPreference 10 = .ok (.iaload, 1) := by decide +kernel
theorem dX9_readPreference_11 : decode cX9_readPreference 11 = .ok (.invokevirtual 179, 3) := by decide +kernel
theorem dX9_readPreference_14 : decode cX9_readPreference 14 = .ok (.istore_n 1, 1) := by decide +kernel
theorem dX9_readPreference_15 : decode cX9_readPreference 15 = .ok (.aload_n 0, 1) := by decide +kernel
theorem dX9_readPreference_16 : decode cX9_readPreference 16 = .ok (.aload_n 0, 1) := by decide +kernel
theorem dX9_readPreference_17 : decode cX9_readPreference 17 = .ok (.getfield 28, 3) := by decide +kernel
theorem dX9_readPreference_20 : decode cX9_readPreference 20 = .ok (.aload_n 0, 1) := by decide +kernel
theorem dX9_readPreference_21 : decode cX9_readPreference 21 = .ok (.getfield 20, 3) := by decide +kernel
theorem dX9_readPreference_24 : decode cX9_readPreference 24 = .ok (.iconst 1, 1) := by decide +kernel
theorem dX9_readPreference_25 : decode cX9_readPreference 25 = .ok (.iaload, 1) := by decide +kernel
theorem dX9_readPreference_26 : decode cX9_readPreference 26 = .ok (.invokevirtual 179, 3) := by decide +kernel
theorem dX9_readPreference_29 : decode cX9_readPreference 29 = .ok (.istore_n 2, 1) := by decide +kernel
theorem dX9_readPreference_30 : decode cX9_readPreference 30 = .ok (.aload_n 0, 1) := by decide +kernel
theorem dX9_readPreference_31 : decode cX9_readPreference 31 = .ok (.invokevirtual 85, 3) := by decide +kernel
theorem dX9_readPreference_34 : decode cX9_readPreference 34 = .ok (.ifCond .eq 31, 3) := by decide +kernel
theorem dX9_readPreference_37 : decode cX9_readPreference 37 = .ok (.iload_n 1, 1) := by decide +kernel
theorem dX9_readPreference_38 : decode cX9_readPreference 38 = .ok (.iload_n 2, 1) := by decide +kernel
theorem dX9_readPreference_39 : decode cX9_readPreference 39 = .ok (.if_icmp .eq 16, 3) := by decide +kernel
theorem dX9_readPreference_42 : decode cX9_readPreference 42 = .ok (.aload_n 0, 1) := by decide +kernel
theorem dX9_readPreference_43 : decode cX9_readPreference 43 = .ok (.aload_n 0, 1) := by decide +kernel
theorem dX9_readPreference_44 : decode cX9_readPreference 44 = .ok (.getfield 20, 3) := by decide +kernel
theorem dX9_readPreference_47 : decode cX9_readPreference 47 = .ok (.iload_n 1, 1) := by decide +kernel
theorem dX9_readPreference_48 : decode cX9_readPreference 48 = .ok (.iload_n 2, 1) := by decide +kernel
theorem dX9_readPreference_49 : decode cX9_readPreference 49 = .ok (.invokevirtual 185, 3) := by decide +kernel
theorem dX9_readPreference_52 : decode cX9_readPreference 52 = .ok (.ifCond .eq 13, 3) := by decide +kernel
theorem dX9_readPreference_55 : decode cX9_readPreference 55 = .ok (.aload_n 0, 1) := by decide +kernel
theorem dX9_readPreference_56 : decode cX9_readPreference 56 = .ok (.bipush (-5), 2) := by decide +kernel
theorem dX9_readPreference_58 : decode cX9_readPreference 58 = .ok (.aload_n 0, 1) := by decide +kernel
theorem dX9_readPreference_59 : decode cX9_readPreference 59 = .ok (.getfield 155, 3) := by decide +kernel
theorem dX9_readPreference_62 : decode cX9_readPreference 62 = .ok (.invokevirtual 102, 3) := by decide +kernel
theorem dX9_readPreference_65 : decode cX9_readPreference 65 = .ok (.aload_n 0, 1) := by decide +kernel
theorem dX9_readPreference_66 : decode cX9_readPreference 66 = .ok (.invokevirtual 85, 3) := by decide +kernel
theorem dX9_readPreference_69 : decode cX9_readPreference 69 = .ok (.ifCond .ne 4, 3) := by decide +kernel
theorem dX9_readPreference_72 : decode cX9_readPreference 72 = .ok (.return_, 1) := by decide +kernel
theorem dX9_readPreference_73 : decode cX9_readPreference 73 = .ok (.aload_n 0, 1) := by decide +kernel
theorem dX9_readPreference_74 : decode cX9_readPreference 74 = .ok (.getfield 20, 3) := by decide +kernel
theorem dX9_readPreference_77 : decode cX9_readPreference 77 = .ok (.iload_n 1, 1) := by decide +kernel
theorem dX9_readPreference_78 : decode cX9_readPreference 78 = .ok (.invokestatic 174, 3) := by decide +kernel
theorem dX9_readPreference_81 : decode cX9_readPreference 81 = .ok (.iconst 4, 1) := by decide +kernel
theorem dX9_readPreference_82 : decode cX9_readPreference 82 = .ok (.iadd, 1) := by decide +kernel
theorem dX9_readPreference_83 : decode cX9_readPreference 83 = .ok (.aload_n 0, 1) := by decide +kernel
theorem dX9_readPreference_84 : decode cX9_readPreference 84 = .ok (.getfield 20, 3) := by decide +kernel
theorem dX9_readPreference_87 : decode cX9_readPreference 87 = .ok (.iload_n 1, 1) := by decide +kernel
theorem dX9_readPreference_88 : decode cX9_readPreference 88 = .ok (.invokestatic 174, 3) := by decide +kernel
theorem dX9_readPreference_91 : decode cX9_readPreference 91 = .ok (.iconst 3, 1) := by decide +kernel
theorem dX9_readPreference_92 : decode cX9_readPreference 92 = .ok (.iadd, 1) := by decide +kernel
theorem dX9_readPreference_93 : decode cX9_readPreference 93 = .ok (.iaload, 1) := by decide +kernel
theorem dX9_readPreference_94 : decode cX9_readPreference 94 = .ok (.iadd, 1) := by decide +kernel
theorem dX9_readPreference_95 : decode cX9_readPreference 95 = .ok (.iload_n 2, 1) := by decide +kernel
theorem dX9_readPreference_96 : decode cX9_readPreference 96 = .ok (.iastore, 1) := by decide +kernel
theorem dX9_readPreference_97 : decode cX9_readPreference 97 = .ok (.aload_n 0, 1) := by decide +kernel
theorem dX9_readPreference_98 : decode cX9_readPreference 98 = .ok (.getfield 20, 3) := by decide +kernel
theorem dX9_readPreference_101 : decode cX9_readPreference 101 = .ok (.iload_n 1, 1) := by decide +kernel
theorem dX9_readPreference_102 : decode cX9_readPreference 102 = .ok (.invokestatic 174, 3) := by decide +kernel
theorem dX9_readPreference_105 : decode cX9_readPreference 105 = .ok (.iconst 3, 1) := by decide +kernel
theorem dX9_readPreference_106 : decode cX9_readPreference 106 = .ok (.iadd, 1) := by decide +kernel
theorem dX9_readPreference_107 : decode cX9_readPreference 107 = .ok (.dup2, 1) := by decide +kernel
theorem dX9_readPreference_108 : decode cX9_readPreference 108 = .ok (.iaload, 1) := by decide +kernel
theorem dX9_readPreference_109 : decode cX9_readPreference 109 = .ok (.iconst 1, 1) := by decide +kernel
theorem dX9_readPreference_110 : decode cX9_readPreference 110 = .ok (.iadd, 1) := by decide +kernel
theorem dX9_readPreference_111 : decode cX9_readPreference 111 = .ok (.iastore, 1) := by decide +kernel
theorem dX9_readPreference_112 : decode cX9_readPreference 112 = .ok (.return_, 1) := by decide +kernel
theorem dX9_statement_0 : decode cX9_statement 0 = .ok (.aload_n 0, 1) := by decide +kernel
theorem dX9_statement_1 : decode cX9_statement 1 = .ok (.invokevirtual 89, 3) := by decide +kernel
theorem dX9_statement_4 : decode cX9_statement 4 = .ok (.pop, 1) := by decide +kernel
theorem dX9_statement_5 : decode cX9_statement 5 = .ok (.aload_n 0, 1) := by decide +kernel
theorem dX9_statement_6 : decode cX9_statement 6 = .ok (.getfield 68, 3) := by decide +kernel
theorem dX9_statement_9 : decode cX9_statement 9 = .ok (.istore_n 1, 1) := by decide +kernel
theorem dX9_statement_10 : decode cX9_statement 10 = .ok (.aload_n 0, 1) := by decide +kernel
theorem dX9_statement_11 : decode cX9_statement 11 = .ok (.ldc 189, 2) := by decide +kernel
theorem dX9_statement_13 : decode cX9_statement 13 = .ok (.invokevirtual 130, 3) := by decide +kernel
theorem dX9_statement_16 : decode cX9_statement 16 = .ok (.ifCond .eq 11, 3) := by decide +kernel
theorem dX9_statement_19 : decode cX9_statement 19 = .ok (.aload_n 0, 1) := by decide +kernel
theorem dX9_statement_20 : decode cX9_statement 20 = .ok (.iload_n 1, 1) := by decide +kernel
theorem dX9_statement_21 : decode cX9_statement 21 = .ok (.invokevirtual 191, 3) := by decide +kernel
theorem dX9_statement_24 : decode cX9_statement 24 = .ok (.goto 119, 3) := by decide +kernel
theorem dX9_statement_27 : decode cX9_statement 27 = .ok (.aload_n 0, 1) := by decide +kernel
theorem dX9_statement_28 : decode cX9_statement 28 = .ok (.ldc 194, 2) := by decide +kernel
theorem dX9_statement_30 : decode cX9_statement 30 = .ok (.invokevirtual 130, 3) := by decide +kernel
theorem dX9_statement_33 : decode cX9_statement 33 = .ok (.ifCond .eq 11, 3) := by decide +kernel
theorem dX9_statement_36 : decode cX9_statement 36 = .ok (.aload_n 0, 1) := by decide +kernel
theorem dX9_statement_37 : decode cX9_statement 37 = .ok (.iload_n 1, 1) := by decide +kernel
theorem dX9_statement_38 : decode cX9_statement 38 = .ok (.invokevirtual 196, 3) := by decide +kernel
theorem dX9_statement_41 : decode cX9_statement 41 = .ok (.goto 102, 3) := by decide +kernel
theorem dX9_statement_44 : decode cX9_statement 44 = .ok (.aload_n 0, 1) := by decide +kernel
theorem dX9_statement_45 : decode cX9_statement 45 = .ok (.ldc 199, 2) := by decide +kernel
theorem dX9_statement_47 : decode cX9_statement 47 = .ok (.invokevirtual 130, 3) := by decide +kernel
theorem dX9_statement_50 : decode cX9_statement 50 = .ok (.ifCond .eq 10, 3) := by decide +kernel
theorem dX9_statement_53 : decode cX9_statement 53 = .ok (.aload_n 0, 1) := by decide +kernel
theorem dX9_statement_54 : decode cX9_statement 54 = .ok (.invokevirtual 201, 3) := by decide +kernel
theorem dX9_statement_57 : decode cX9_statement 57 = .ok (.goto 86, 3) := by decide +kernel
theorem dX9_statement_60 : decode cX9_statement 60 = .ok (.aload_n 0, 1) := by decide +kernel
theorem dX9_statement_61 : decode cX9_statement 61 = .ok (.ldc 204, 2) := by decide +kernel
theorem dX9_statement_63 : decode cX9_statement 63 = .ok (.invokevirtual 130, 3) := by decide +kernel
theorem dX9_statement_66 : decode cX9_statement 66 = .ok (.ifCond .eq 10, 3) := by decide +kernel
theorem dX9_statement_69 : decode cX9_statement 69 = .ok (.aload_n 0, 1) := by decide +kernel
theorem dX9_statement_70 : decode cX9_statement 70 = .ok (.invokevirtual 206, 3) := by decide +kernel
theorem dX9_statement_73 : decode cX9_statement 73 = .ok (.goto 70, 3) := by decide +kernel
theorem dX9_statement_76 : decode cX9_statement 76 = .ok (.aload_n 0, 1) := by decide +kernel
theorem dX9_statement_77 : decode cX9_statement 77 = .ok (.ldc 209, 2) := by decide +kernel
theorem dX9_statement_79 : decode cX9_statement 79 = .ok (.invokevirtual 130, 3) := by decide +kernel
theorem dX9_statement_82 : decode cX9_statement 82 = .ok (.ifCond .eq 25, 3) := by decide +kernel
theorem dX9_statement_85 : decode cX9_statement 85 = .ok (.aload_n 0, 1) := by decide +kernel
theorem dX9_statement_86 : decode cX9_statement 86 = .ok (.iconst 0, 1) := by decide +kernel
theorem dX9_statement_87 : decode cX9_statement 87 = .ok (.iload_n 1, 1) := by decide +kernel
theorem dX9_statement_88 : decode cX9_statement 88 = .ok (.invokevirtual 211, 3) := by decide +kernel
theorem dX9_statement_91 : decode cX9_statement 91 = .ok (.aload_n 0, 1) := by decide +kernel
theorem dX9_statement_92 : decode cX9_statement 92 = .ok (.getfield 20, 3) := by decide +kernel
theorem dX9_statement_95 : decode cX9_statement 95 = .ok (.iconst 0, 1) := by decide +kernel
theorem dX9_statement_96 : decode cX9_statement 96 = .ok (.aload_n 0, 1) := by decide +kernel
theorem dX9_statement_97 : decode cX9_statement 97 = .ok (.iconst 0, 1) := by decide +kernel
theorem dX9_statement_98 : decode cX9_statement 98 = .ok (.bipush 100, 2) := by decide +kernel
theorem dX9_statement_100 : decode cX9_statement 100 = .ok (.invokevirtual 140, 3) := by decide +kernel
theorem dX9_statement_103 : decode cX9_statement 103 = .ok (.iastore, 1) := by decide +kernel
theorem dX9_statement_104 : decode cX9_statement 104 = .ok (.goto 39, 3) := by decide +kernel
theorem dX9_statement_107 : decode cX9_statement 107 = .ok (.aload_n 0, 1) := by decide +kernel
theorem dX9_statement_108 : decode cX9_statement 108 = .ok (.ldc 214, 2) := by decide +kernel
theorem dX9_statement_110 : decode cX9_statement 110 = .ok (.invokevirtual 130, 3) := by decide +kernel
theorem dX9_statement_113 : decode cX9_statement 113 = .ok (.ifCond .eq 23, 3) := by decide +kernel
theorem dX9_statement_116 : decode cX9_statement 116 = .ok (.aload_n 0, 1) := by decide +kernel
theorem dX9_statement_117 : decode cX9_statement 117 = .ok (.iconst 1, 1) := by decide +kernel
theorem dX9_statement_118 : decode cX9_statement 118 = .ok (.iload_n 1, 1) := by decide +kernel
theorem dX9_statement_119 : decode cX9_statement 119 = .ok (.invokevirtual 211, 3) := by decide +kernel
theorem dX9_statement_122 : decode cX9_statement 122 = .ok (.aload_n 0, 1) := by decide +kernel
theorem dX9_statement_123 : decode cX9_statement 123 = .ok (.getfield 20, 3) := by decide +kernel
theorem dX9_statement_126 : decode cX9_statement 126 = .ok (.iconst 4, 1) := by decide +kernel
theorem dX9_statement_127 : decode cX9_statement 127 = .ok (.iconst 1, 1) := by decide +kernel
theorem dX9_statement_128 : decode cX9_statement 128 = .ok (.iastore, 1) := by decide +kernel
theorem dX9_statement_129 : decode cX9_statement 129 = .ok (.aload_n 0, 1) := by decide +kernel
theorem dX9_statement_130 : decode cX9_statement 130 = .ok (.invokevirtual 121, 3) := by decide +kernel
theorem dX9_statement_133 : decode cX9_statement 133 = .ok (.goto 10, 3) := by decide +kernel
theorem dX9_statement_136 : decode cX9_statement 136 = .ok (.aload_n 0, 1) := by decide +kernel
theorem dX9_statement_137 : decode cX9_statement 137 = .ok (.bipush (-2), 2) := by decide +kernel
theorem dX9_statement_139 : decode cX9_statement 139 = .ok (.iload_n 1, 1) := by decide +kernel
theorem dX9_statement_140 : decode cX9_statement 140 = .ok (.invokevirtual 102, 3) := by decide +kernel
theorem dX9_statement_143 : decode cX9_statement 143 = .ok (.aload_n 0, 1) := by decide +kernel
theorem dX9_statement_144 : decode cX9_statement 144 = .ok (.bipush 59, 2) := by decide +kernel
theorem dX9_statement_146 : decode cX9_statement 146 = .ok (.invokevirtual 124, 3) := by decide +kernel
theorem dX9_statement_149 : decode cX9_statement 149 = .ok (.return_, 1) := by decide +kernel
theorem dX9_load_0 : decode cX9_load 0 = .ok (.aload_n 0, 1) := by decide +kernel
theorem dX9_load_1 : decode cX9_load 1 = .ok (.iconst 0, 1) := by decide +kernel
theorem dX9_load_2 : decode cX9_load 2 = .ok (.putfield 59, 3) := by decide +kernel
theorem dX9_load_5 : decode cX9_load 5 = .ok (.aload_n 0, 1) := by decide +kernel
theorem dX9_load_6 : decode cX9_load 6 = .ok (.iload_n 1, 1) := by decide +kernel
theorem dX9_load_7 : decode cX9_load 7 = .ok (.iconst 0, 1) := by decide +kernel
theorem dX9_load_8 : decode cX9_load 8 = .ok (.aload_n 0, 1) := by decide +kernel
theorem dX9_load_9 : decode cX9_load 9 = .ok (.getfield 62, 3) := by decide +kernel
theorem dX9_load_12 : decode cX9_load 12 = .ok (.invokestatic 81, 3) := by decide +kernel
theorem dX9_load_15 : decode cX9_load 15 = .ok (.ifCond .ne 7, 3) := by decide +kernel
theorem dX9_load_18 : decode cX9_load 18 = .ok (.iconst 1, 1) := by decide +kernel
theorem dX9_load_19 : decode cX9_load 19 = .ok (.goto 4, 3) := by decide +kernel
theorem dX9_load_22 : decode cX9_load 22 = .ok (.iconst 0, 1) := by decide +kernel
theorem dX9_load_23 : decode cX9_load 23 = .ok (.iconst 1, 1) := by decide +kernel
theorem dX9_load_24 : decode cX9_load 24 = .ok (.invokevirtual 216, 3) := by decide +kernel
theorem dX9_load_27 : decode cX9_load 27 = .ok (.ifCond .eq 5, 3) := by decide +kernel
theorem dX9_load_30 : decode cX9_load 30 = .ok (.iconst 0, 1) := by decide +kernel
theorem dX9_load_31 : decode cX9_load 31 = .ok (.ireturn, 1) := by decide +kernel
theorem dX9_load_32 : decode cX9_load 32 = .ok (.aload_n 0, 1) := by decide +kernel
theorem dX9_load_33 : decode cX9_load 33 = .ok (.iconst 0, 1) := by decide +kernel
theorem dX9_load_34 : decode cX9_load 34 = .ok (.putfield 62, 3) := by decide +kernel
theorem dX9_load_37 : decode cX9_load 37 = .ok (.aload_n 0, 1) := by decide +kernel
theorem dX9_load_38 : decode cX9_load 38 = .ok (.iload_n 1, 1) := by decide +kernel
theorem dX9_load_39 : decode cX9_load 39 = .ok (.putfield 65, 3) := by decide +kernel
theorem dX9_load_42 : decode cX9_load 42 = .ok (.aload_n 0, 1) := by decide +kernel
theorem dX9_load_43 : decode cX9_load 43 = .ok (.iconst 0, 1) := by decide +kernel
theorem dX9_load_44 : decode cX9_load 44 = .ok (.putfield 68, 3) := by decide +kernel
theorem dX9_load_47 : decode cX9_load 47 = .ok (.aload_n 0, 1) := by decide +kernel
theorem dX9_load_48 : decode cX9_load 48 = .ok (.iconst 0, 1) := by decide +kernel
theorem dX9_load_49 : decode cX9_load 49 = .ok (.putfield 75, 3) := by decide +kernel
theorem dX9_load_52 : decode cX9_load 52 = .ok (.aload_n 0, 1) := by decide +kernel
theorem dX9_load_53 : decode cX9_load 53 = .ok (.iconst (-1), 1) := by decide +kernel
theorem dX9_load_54 : decode cX9_load 54 = .ok (.putfield 78, 3) := by decide +kernel
theorem dX9_load_57 : decode cX9_load 57 = .ok (.aload_n 0, 1) := by decide +kernel
theorem dX9_load_58 : decode cX9_load 58 = .ok (.iconst 0, 1) := by decide +kernel
theorem dX9_load_59 : decode cX9_load 59 = .ok (.putfield 118, 3) := by decide +kernel
theorem dX9_load_62 : decode cX9_load 62 = .ok (.aload_n 0, 1) := by decide +kernel
theorem dX9_load_63 : decode cX9_load 63 = .ok (.iconst 0, 1) := by decide +kernel
theorem dX9_load_64 : decode cX9_load 64 = .ok (.putfield 152, 3) := by decide +kernel
theorem dX9_load_67 : decode cX9_load 67 = .ok (.iconst 0, 1) := by decide +kernel
theorem dX9_load_68 : decode cX9_load 68 = .ok (.istore_n 2, 1) := by decide +kernel
theorem dX9_load_69 : decode cX9_load 69 = .ok (.iload_n 2, 1) := by decide +kernel
theorem dX9_load_70 : decode cX9_load 70 = .ok (.sipush 1498, 3) := by decide +kernel
theorem dX9_load_73 : decode cX9_load 73 = .ok (.if_icmp .ge 16, 3) := by decide +kernel
theorem dX9_load_76 : decode cX9_load 76 = .ok (.aload_n 0, 1) := by decide +kernel
theorem dX9_load_77 : decode cX9_load 77 = .ok (.getfield 20, 3) := by decide +kernel
theorem dX9_load_80 : decode cX9_load 80 = .ok (.iload_n 2, 1) := by decide +kernel
theorem dX9_load_81 : decode cX9_load 81 = .ok (.iconst 0, 1) := by decide +kernel
theorem dX9_load_82 : decode cX9_load 82 = .ok (.iastore, 1) := by decide +kernel
theorem dX9_load_83 : decode cX9_load 83 = .ok (.iinc 2 1, 3) := by decide +kernel
theorem dX9_load_86 : decode cX9_load 86 = .ok (.goto (-17), 3) := by decide +kernel
theorem dX9_load_89 : decode cX9_load 89 = .ok (.aload_n 0, 1) := by decide +kernel
theorem dX9_load_90 : decode cX9_load 90 = .ok (.getfield 20, 3) := by decide +kernel
theorem dX9_load_93 : decode cX9_load 93 = .ok (.iconst 0, 1) := by decide +kernel
theorem dX9_load_94 : decode cX9_load 94 = .ok (.bipush 50, 2) := by decide +kernel
theorem dX9_load_96 : decode cX9_load 96 = .ok (.iastore, 1) := by decide +kernel
theorem dX9_load_97 : decode cX9_load 97 = .ok (.aload_n 0, 1) := by decide +kernel
theorem dX9_load_98 : decode cX9_load 98 = .ok (.ldc 220, 2) := by decide +kernel
theorem dX9_load_100 : decode cX9_load 100 = .ok (.invokevirtual 130, 3) := by decide +kernel
theorem dX9_load_103 : decode cX9_load 103 = .ok (.ifCond .ne 13, 3) := by decide +kernel
theorem dX9_load_106 : decode cX9_load 106 = .ok (.aload_n 0, 1) := by decide +kernel
theorem dX9_load_107 : decode cX9_load 107 = .ok (.bipush (-2), 2) := by decide +kernel
theorem dX9_load_109 : decode cX9_load 109 = .ok (.aload_n 0, 1) := by decide +kernel
theorem dX9_load_110 : decode cX9_load 110 = .ok (.getfield 68, 3) := by decide +kernel
theorem dX9_load_113 : decode cX9_load 113 = .ok (.invokevirtual 102, 3) := by decide +kernel
theorem dX9_load_116 : decode cX9_load 116 = .ok (.aload_n 0, 1) := by decide +kernel
theorem dX9_load_117 : decode cX9_load 117 = .ok (.bipush 59, 2) := by decide +kernel
theorem dX9_load_119 : decode cX9_load 119 = .ok (.invokevirtual 124, 3) := by decide +kernel
theorem dX9_load_122 : decode cX9_load 122 = .ok (.aload_n 0, 1) := by decide +kernel
theorem dX9_load_123 : decode cX9_load 123 = .ok (.invokevirtual 85, 3) := by decide +kernel
theorem dX9_load_126 : decode cX9_load 126 = .ok (.ifCond .eq 18, 3) := by decide +kernel
theorem dX9_load_129 : decode cX9_load 129 = .ok (.aload_n 0, 1) := by decide +kernel
theorem dX9_load_130 : decode cX9_load 130 = .ok (.invokevirtual 89, 3) := by decide +kernel
theorem dX9_load_133 : decode cX9_load 133 = .ok (.iconst (-1), 1) := by decide +kernel
theorem dX9_load_134 : decode cX9_load 134 = .ok (.if_icmp .eq 10, 3) := by decide +kernel
theorem dX9_load_137 : decode cX9_load 137 = .ok (.aload_n 0, 1) := by decide +kernel
theorem dX9_load_138 : decode cX9_load 138 = .ok (.invokevirtual 222, 3) := by decide +kernel
theorem dX9_load_141 : decode cX9_load 141 = .ok (.goto (-19), 3) := by decide +kernel
theorem dX9_load_144 : decode cX9_load 144 = .ok (.aload_n 0, 1) := by decide +kernel
theorem dX9_load_145 : decode cX9_load 145 = .ok (.aload_n 0, 1) := by decide +kernel
theorem dX9_load_146 : decode cX9_load 146 = .ok (.getfield 78, 3) := by decide +kernel
theorem dX9_load_149 : decode cX9_load 149 = .ok (.putfield 13, 3) := by decide +kernel
theorem dX9_load_152 : decode cX9_load 152 = .ok (.aload_n 0, 1) := by decide +kernel
theorem dX9_load_153 : decode cX9_load 153 = .ok (.invokevirtual 85, 3) := by decide +kernel
theorem dX9_load_156 : decode cX9_load 156 = .ok (.ifCond .ne 8, 3) := by decide +kernel
theorem dX9_load_159 : decode cX9_load 159 = .ok (.aload_n 0, 1) := by decide +kernel
theorem dX9_load_160 : decode cX9_load 160 = .ok (.getfield 75, 3) := by decide +kernel
theorem dX9_load_163 : decode cX9_load 163 = .ok (.ireturn, 1) := by decide +kernel
theorem dX9_load_164 : decode cX9_load 164 = .ok (.aload_n 0, 1) := by decide +kernel
theorem dX9_load_165 : decode cX9_load 165 = .ok (.invokevirtual 225, 3) := by decide +kernel
theorem dX9_load_168 : decode cX9_load 168 = .ok (.aload_n 0, 1) := by decide +kernel
theorem dX9_load_169 : decode cX9_load 169 = .ok (.getfield 20, 3) := by decide +kernel
theorem dX9_load_172 : decode cX9_load 172 = .ok (.aload_n 0, 1) := by decide +kernel
theorem dX9_load_173 : decode cX9_load 173 = .ok (.getfield 17, 3) := by decide +kernel
theorem dX9_load_176 : decode cX9_load 176 = .ok (.invokestatic 228, 3) := by decide +kernel
theorem dX9_load_179 : decode cX9_load 179 = .ok (.aload_n 0, 1) := by decide +kernel
theorem dX9_load_180 : decode cX9_load 180 = .ok (.getfield 17, 3) := by decide +kernel
theorem dX9_load_183 : decode cX9_load 183 = .ok (.iconst 1, 1) := by decide +kernel
theorem dX9_load_184 : decode cX9_load 184 = .ok (.iaload, 1) := by decide +kernel
theorem dX9_load_185 : decode cX9_load 185 = .ok (.ireturn, 1) := by decide +kernel
theorem dX9_errorOffset_0 : decode cX9_errorOffset 0 = .ok (.aload_n 0, 1) := by decide +kernel
theorem dX9_errorOffset_1 : decode cX9_errorOffset 1 = .ok (.iconst 0, 1) := by decide +kernel
theorem dX9_errorOffset_2 : decode cX9_errorOffset 2 = .ok (.putfield 59, 3) := by decide +kernel
theorem dX9_errorOffset_5 : decode cX9_errorOffset 5 = .ok (.aload_n 0, 1) := by decide +kernel
theorem dX9_errorOffset_6 : decode cX9_errorOffset 6 = .ok (.getfield 13, 3) := by decide +kernel
theorem dX9_errorOffset_9 : decode cX9_errorOffset 9 = .ok (.ireturn, 1) := by decide +kernel
theorem dX9_isLoaded_0 : decode cX9_isLoaded 0 = .ok (.aload_n 0, 1) := by decide +kernel
theorem dX9_isLoaded_1 : decode cX9_isLoaded 1 = .ok (.getfield 17, 3) := by decide +kernel
theorem dX9_isLoaded_4 : decode cX9_isLoaded 4 = .ok (.iload_n 1, 1) := by decide +kernel
theorem dX9_isLoaded_5 : decode cX9_isLoaded 5 = .ok (.invokestatic 174, 3) := by decide +kernel
theorem dX9_isLoaded_8 : decode cX9_isLoaded 8 = .ok (.iconst 2, 1) := by decide +kernel
theorem dX9_isLoaded_9 : decode cX9_isLoaded 9 = .ok (.iadd, 1) := by decide +kernel
theorem dX9_isLoaded_10 : decode cX9_isLoaded 10 = .ok (.iaload, 1) := by decide +kernel
theorem dX9_isLoaded_11 : decode cX9_isLoaded 11 = .ok (.ifCond .le 7, 3) := by decide +kernel
theorem dX9_isLoaded_14 : decode cX9_isLoaded 14 = .ok (.iconst 1, 1) := by decide +kernel
theorem dX9_isLoaded_15 : decode cX9_isLoaded 15 = .ok (.goto 4, 3) := by decide +kernel
theorem dX9_isLoaded_18 : decode cX9_isLoaded 18 = .ok (.iconst 0, 1) := by decide +kernel
theorem dX9_isLoaded_19 : decode cX9_isLoaded 19 = .ok (.ireturn, 1) := by decide +kernel
theorem dX9_rankOf_0 : decode cX9_rankOf 0 = .ok (.aload_n 0, 1) := by decide +kernel
theorem dX9_rankOf_1 : decode cX9_rankOf 1 = .ok (.iload_n 1, 1) := by decide +kernel
theorem dX9_rankOf_2 : decode cX9_rankOf 2 = .ok (.invokevirtual 232, 3) := by decide +kernel
theorem dX9_rankOf_5 : decode cX9_rankOf 5 = .ok (.ifCond .ne 5, 3) := by decide +kernel
theorem dX9_rankOf_8 : decode cX9_rankOf 8 = .ok (.iconst (-1), 1) := by decide +kernel
theorem dX9_rankOf_9 : decode cX9_rankOf 9 = .ok (.ireturn, 1) := by decide +kernel
theorem dX9_rankOf_10 : decode cX9_rankOf 10 = .ok (.iconst 0, 1) := by decide +kernel
theorem dX9_rankOf_11 : decode cX9_rankOf 11 = .ok (.istore_n 2, 1) := by decide +kernel
theorem dX9_rankOf_12 : decode cX9_rankOf 12 = .ok (.iconst 0, 1) := by decide +kernel
theorem dX9_rankOf_13 : decode cX9_rankOf 13 = .ok (.istore_n 3, 1) := by decide +kernel
theorem dX9_rankOf_14 : decode cX9_rankOf 14 = .ok (.iload_n 3, 1) := by decide +kernel
theorem dX9_rankOf_15 : decode cX9_rankOf 15 = .ok (.aload_n 0, 1) := by decide +kernel
theorem dX9_rankOf_16 : decode cX9_rankOf 16 = .ok (.getfield 17, 3) := by decide +kernel
theorem dX9_rankOf_19 : decode cX9_rankOf 19 = .ok (.iconst 1, 1) := by decide +kernel
theorem dX9_rankOf_20 : decode cX9_rankOf 20 = .ok (.iaload, 1) := by decide +kernel
theorem dX9_rankOf_21 : decode cX9_rankOf 21 = .ok (.if_icmp .ge 50, 3) := by decide +kernel
theorem dX9_rankOf_24 : decode cX9_rankOf 24 = .ok (.iload_n 2, 1) := by decide +kernel
theorem dX9_rankOf_25 : decode cX9_rankOf 25 = .ok (.aload_n 0, 1) := by decide +kernel
theorem dX9_rankOf_26 : decode cX9_rankOf 26 = .ok (.iload_n 3, 1) := by decide +kernel
theorem dX9_rankOf_27 : decode cX9_rankOf 27 = .ok (.invokevirtual 232, 3) := by decide +kernel
theorem dX9_rankOf_30 : decode cX9_rankOf 30 = .ok (.ifCond .eq 32, 3) := by decide +kernel
theorem dX9_rankOf_33 : decode cX9_rankOf 33 = .ok (.aload_n 0, 1) := by decide +kernel
theorem dX9_rankOf_34 : decode cX9_rankOf 34 = .ok (.getfield 17, 3) := by decide +kernel
theorem dX9_rankOf_37 : decode cX9_rankOf 37 = .ok (.iload_n 3, 1) := by decide +kernel
theorem dX9_rankOf_38 : decode cX9_rankOf 38 = .ok (.invokestatic 174, 3) := by decide +kernel
theorem dX9_rankOf_41 : decode cX9_rankOf 41 = .ok (.iconst 2, 1) := by decide +kernel
theorem dX9_rankOf_42 : decode cX9_rankOf 42 = .ok (.iadd, 1) := by decide +kernel
theorem dX9_rankOf_43 : decode cX9_rankOf 43 = .ok (.iaload, 1) := by decide +kernel
theorem dX9_rankOf_44 : decode cX9_rankOf 44 = .ok (.aload_n 0, 1) := by decide +kernel
theorem dX9_rankOf_45 : decode cX9_rankOf 45 = .ok (.getfield 17, 3) := by decide +kernel
theorem dX9_rankOf_48 : decode cX9_rankOf 48 = .ok (.iload_n 1, 1) := by decide +kernel
theorem dX9_rankOf_49 : decode cX9_rankOf 49 = .ok (.invokestatic 174, 3) := by decide +kernel
theorem dX9_rankOf_52 : decode cX9_rankOf 52 = .ok (.iconst 2, 1) := by decide +kernel
theorem dX9_rankOf_53 : decode cX9_rankOf 53 = .ok (.iadd, 1) := by decide +kernel
theorem dX9_rankOf_54 : decode cX9_rankOf 54 = .ok (.iaload, 1) := by decide +kernel
theorem dX9_rankOf_55 : decode cX9_rankOf 55 = .ok (.if_icmp .ge 7, 3) := by decide +kernel
theorem dX9_rankOf_58 : decode cX9_rankOf 58 = .ok (.iconst 1, 1) := by decide +kernel
theorem dX9_rankOf_59 : decode cX9_rankOf 59 = .ok (.goto 4, 3) := by decide +kernel
theorem dX9_rankOf_62 : decode cX9_rankOf 62 = .ok (.iconst 0, 1) := by decide +kernel
theorem dX9_rankOf_63 : decode cX9_rankOf 63 = .ok (.iadd, 1) := by decide +kernel
theorem dX9_rankOf_64 : decode cX9_rankOf 64 = .ok (.istore_n 2, 1) := by decide +kernel
theorem dX9_rankOf_65 : decode cX9_rankOf 65 = .ok (.iinc 3 1, 3) := by decide +kernel
theorem dX9_rankOf_68 : decode cX9_rankOf 68 = .ok (.goto (-54), 3) := by decide +kernel
theorem dX9_rankOf_71 : decode cX9_rankOf 71 = .ok (.iload_n 2, 1) := by decide +kernel
theorem dX9_rankOf_72 : decode cX9_rankOf 72 = .ok (.ireturn, 1) := by decide +kernel
theorem dX9_offersOf_0 : decode cX9_offersOf 0 = .ok (.iconst 0, 1) := by decide +kernel
theorem dX9_offersOf_1 : decode cX9_offersOf 1 = .ok (.istore_n 2, 1) := by decide +kernel
theorem dX9_offersOf_2 : decode cX9_offersOf 2 = .ok (.iconst 0, 1) := by decide +kernel
theorem dX9_offersOf_3 : decode cX9_offersOf 3 = .ok (.istore_n 3, 1) := by decide +kernel
theorem dX9_offersOf_4 : decode cX9_offersOf 4 = .ok (.iload_n 3, 1) := by decide +kernel
theorem dX9_offersOf_5 : decode cX9_offersOf 5 = .ok (.aload_n 0, 1) := by decide +kernel
theorem dX9_offersOf_6 : decode cX9_offersOf 6 = .ok (.getfield 17, 3) := by decide +kernel
theorem dX9_offersOf_9 : decode cX9_offersOf 9 = .ok (.iconst 2, 1) := by decide +kernel
theorem dX9_offersOf_10 : decode cX9_offersOf 10 = .ok (.iaload, 1) := by decide +kernel
theorem dX9_offersOf_11 : decode cX9_offersOf 11 = .ok (.if_icmp .ge 35, 3) := by decide +kernel
theorem dX9_offersOf_14 : decode cX9_offersOf 14 = .ok (.iload_n 2, 1) := by decide +kernel
theorem dX9_offersOf_15 : decode cX9_offersOf 15 = .ok (.aload_n 0, 1) := by decide +kernel
theorem dX9_offersOf_16 : decode cX9_offersOf 16 = .ok (.getfield 17, 3) := by decide +kernel
theorem dX9_offersOf_19 : decode cX9_offersOf 19 = .ok (.iload_n 1, 1) := by decide +kernel
theorem dX9_offersOf_20 : decode cX9_offersOf 20 = .ok (.invokestatic 174, 3) := by decide +kernel
theorem dX9_offersOf_23 : decode cX9_offersOf 23 = .ok (.bipush 12, 2) := by decide +kernel
theorem dX9_offersOf_25 : decode cX9_offersOf 25 = .ok (.iadd, 1) := by decide +kernel
theorem dX9_offersOf_26 : decode cX9_offersOf 26 = .ok (.iload_n 3, 1) := by decide +kernel
theorem dX9_offersOf_27 : decode cX9_offersOf 27 = .ok (.iadd, 1) := by decide +kernel
theorem dX9_offersOf_28 : decode cX9_offersOf 28 = .ok (.iaload, 1) := by decide +kernel
theorem dX9_offersOf_29 : decode cX9_offersOf 29 = .ok (.iconst (-1), 1) := by decide +kernel
theorem dX9_offersOf_30 : decode cX9_offersOf 30 = .ok (.if_icmp .ne 7, 3) := by decide +kernel
theorem dX9_offersOf_33 : decode cX9_offersOf 33 = .ok (.iconst 0, 1) := by decide +kernel
theorem dX9_offersOf_34 : decode cX9_offersOf 34 = .ok (.goto 4, 3) := by decide +kernel
theorem dX9_offersOf_37 : decode cX9_offersOf 37 = .ok (.iconst 1, 1) := by decide +kernel
theorem dX9_offersOf_38 : decode cX9_offersOf 38 = .ok (.iadd, 1) := by decide +kernel
theorem dX9_offersOf_39 : decode cX9_offersOf 39 = .ok (.istore_n 2, 1) := by decide +kernel
theorem dX9_offersOf_40 : decode cX9_offersOf 40 = .ok (.iinc 3 1, 3) := by decide +kernel
theorem dX9_offersOf_43 : decode cX9_offersOf 43 = .ok (.goto (-39), 3) := by decide +kernel
theorem dX9_offersOf_46 : decode cX9_offersOf 46 = .ok (.iload_n 2, 1) := by decide +kernel
theorem dX9_offersOf_47 : decode cX9_offersOf 47 = .ok (.ireturn, 1) := by decide +kernel
theorem dX9_friendsOf_0 : decode cX9_friendsOf 0 = .ok (.iconst 0, 1) := by decide +kernel
theorem dX9_friendsOf_1 : decode cX9_friendsOf 1 = .ok (.istore_n 2, 1) := by decide +kernel
theorem dX9_friendsOf_2 : decode cX9_friendsOf 2 = .ok (.iconst 0, 1) := by decide +kernel
theorem dX9_friendsOf_3 : decode cX9_friendsOf 3 = .ok (.istore_n 3, 1) := by decide +kernel
theorem dX9_friendsOf_4 : decode cX9_friendsOf 4 = .ok (.iload_n 3, 1) := by decide +kernel
theorem dX9_friendsOf_5 : decode cX9_friendsOf 5 = .ok (.aload_n 0, 1) := by decide +kernel
theorem dX9_friendsOf_6 : decode cX9_friendsOf 6 = .ok (.getfield 17, 3) := by decide +kernel
theorem dX9_friendsOf_9 : decode cX9_friendsOf 9 = .ok (.iconst 1, 1) := by decide +kernel
theorem dX9_friendsOf_10 : decode cX9_friendsOf 10 = .ok (.iaload, 1) := by decide +kernel
theorem dX9_friendsOf_11 : decode cX9_friendsOf 11 = .ok (.if_icmp .ge 38, 3) := by decide +kernel
theorem dX9_friendsOf_14 : decode cX9_friendsOf 14 = .ok (.iload_n 2, 1) := by decide +kernel
theorem dX9_friendsOf_15 : decode cX9_friendsOf 15 = .ok (.aload_n 0, 1) := by decide +kernel
theorem dX9_friendsOf_16 : decode cX9_friendsOf 16 = .ok (.iload_n 3, 1) := by decide +kernel
theorem dX9_friendsOf_17 : decode cX9_friendsOf 17 = .ok (.invokevirtual 232, 3) := by decide +kernel
theorem dX9_friendsOf_20 : decode cX9_friendsOf 20 = .ok (.ifCond .eq 20, 3) := by decide +kernel
theorem dX9_friendsOf_23 : decode cX9_friendsOf 23 = .ok (.aload_n 0, 1) := by decide +kernel
theorem dX9_friendsOf_24 : decode cX9_friendsOf 24 = .ok (.aload_n 0, 1) := by decide +kernel
theorem dX9_friendsOf_25 : decode cX9_friendsOf 25 = .ok (.getfield 17, 3) := by decide +kernel
theorem dX9_friendsOf_28 : decode cX9_friendsOf 28 = .ok (.iload_n 3, 1) := by decide +kernel
theorem dX9_friendsOf_29 : decode cX9_friendsOf 29 = .ok (.iload_n 1, 1) := by decide +kernel
theorem dX9_friendsOf_30 : decode cX9_friendsOf 30 = .ok (.invokevirtual 185, 3) := by decide +kernel
theorem dX9_friendsOf_33 : decode cX9_friendsOf 33 = .ok (.ifCond .eq 7, 3) := by decide +kernel
theorem dX9_friendsOf_36 : decode cX9_friendsOf 36 = .ok (.iconst 1, 1) := by decide +kernel
theorem dX9_friendsOf_37 : decode cX9_friendsOf 37 = .ok (.goto 4, 3) := by decide +kernel
theorem dX9_friendsOf_40 : decode cX9_friendsOf 40 = .ok (.iconst 0, 1) := by decide +kernel
theorem dX9_friendsOf_41 : decode cX9_friendsOf 41 = .ok (.iadd, 1) := by decide +kernel
theorem dX9_friendsOf_42 : decode cX9_friendsOf 42 = .ok (.istore_n 2, 1) := by decide +kernel
theorem dX9_friendsOf_43 : decode cX9_friendsOf 43 = .ok (.iinc 3 1, 3) := by decide +kernel
theorem dX9_friendsOf_46 : decode cX9_friendsOf 46 = .ok (.goto (-42), 3) := by decide +kernel
theorem dX9_friendsOf_49 : decode cX9_friendsOf 49 = .ok (.iload_n 2, 1) := by decide +kernel
theorem dX9_friendsOf_50 : decode cX9_friendsOf 50 = .ok (.ireturn, 1) := by decide +kernel
theorem dX9_isCandidate_0 : decode cX9_isCandidate 0 = .ok (.aload_n 0, 1) := by decide +kernel
theorem dX9_isCandidate_1 : decode cX9_isCandidate 1 = .ok (.iload_n 1, 1) := by decide +kernel
theorem dX9_isCandidate_2 : decode cX9_isCandidate 2 = .ok (.invokevirtual 232, 3) := by decide +kernel
theorem dX9_isCandidate_5 : decode cX9_isCandidate 5 = .ok (.ifCond .eq 25, 3) := by decide +kernel
theorem dX9_isCandidate_8 : decode cX9_isCandidate 8 = .ok (.aload_n 0, 1) := by decide +kernel
theorem dX9_isCandidate_9 : decode cX9_isCandidate 9 = .ok (.getfield 17, 3) := by decide +kernel
theorem dX9_isCandidate_12 : decode cX9_isCandidate 12 = .ok (.iload_n 1, 1) := by decide +kernel
theorem dX9_isCandidate_13 : decode cX9_isCandidate 13 = .ok (.invokestatic 174, 3) := by decide +kernel
theorem dX9_isCandidate_16 : decode cX9_isCandidate 16 = .ok (.bipush 12, 2) := by decide +kernel
theorem dX9_isCandidate_18 : decode cX9_isCandidate 18 = .ok (.iadd, 1) := by decide +kernel
theorem dX9_isCandidate_19 : decode cX9_isCandidate 19 = .ok (.iload_n 2, 1) := by decide +kernel
theorem dX9_isCandidate_20 : decode cX9_isCandidate 20 = .ok (.iadd, 1) := by decide +kernel
theorem dX9_isCandidate_21 : decode cX9_isCandidate 21 = .ok (.iaload, 1) := by decide +kernel
theorem dX9_isCandidate_22 : decode cX9_isCandidate 22 = .ok (.iconst (-1), 1) := by decide +kernel
theorem dX9_isCandidate_23 : decode cX9_isCandidate 23 = .ok (.if_icmp .eq 7, 3) := by decide +kernel
theorem dX9_isCandidate_26 : decode cX9_isCandidate 26 = .ok (.iconst 1, 1) := by decide +kernel
theorem dX9_isCandidate_27 : decode cX9_isCandidate 27 = .ok (.goto 4, 3) := by decide +kernel
theorem dX9_isCandidate_30 : decode cX9_isCandidate 30 = .ok (.iconst 0, 1) := by decide +kernel
theorem dX9_isCandidate_31 : decode cX9_isCandidate 31 = .ok (.ireturn, 1) := by decide +kernel
theorem dX9_limited_0 : decode cX9_limited 0 = .ok (.lload_n 0, 1) := by decide +kernel
theorem dX9_limited_1 : decode cX9_limited 1 = .ok (.ldc2_w 235, 3) := by decide +kernel
theorem dX9_limited_4 : decode cX9_limited 4 = .ok (.lcmp, 1) := by decide +kernel
theorem dX9_limited_5 : decode cX9_limited 5 = .ok (.ifCond .le 9, 3) := by decide +kernel
theorem dX9_limited_8 : decode cX9_limited 8 = .ok (.ldc2_w 235, 3) := by decide +kernel
theorem dX9_limited_11 : decode cX9_limited 11 = .ok (.goto 18, 3) := by decide +kernel
theorem dX9_limited_14 : decode cX9_limited 14 = .ok (.lload_n 0, 1) := by decide +kernel
theorem dX9_limited_15 : decode cX9_limited 15 = .ok (.ldc2_w 237, 3) := by decide +kernel
theorem dX9_limited_18 : decode cX9_limited 18 = .ok (.lcmp, 1) := by decide +kernel
theorem dX9_limited_19 : decode cX9_limited 19 = .ok (.ifCond .ge 9, 3) := by decide +kernel
theorem dX9_limited_22 : decode cX9_limited 22 = .ok (.ldc2_w 237, 3) := by decide +kernel
theorem dX9_limited_25 : decode cX9_limited 25 = .ok (.goto 4, 3) := by decide +kernel
theorem dX9_limited_28 : decode cX9_limited 28 = .ok (.lload_n 0, 1) := by decide +kernel
theorem dX9_limited_29 : decode cX9_limited 29 = .ok (.lreturn, 1) := by decide +kernel
theorem dX9_operate_0 : decode cX9_operate 0 = .ok (.iload_n 0, 1) := by decide +kernel
theorem dX9_operate_1 : decode cX9_operate 1 = .ok (.iconst 5, 1) := by decide +kernel
theorem dX9_operate_2 : decode cX9_operate 2 = .ok (.if_icmp .ne 17, 3) := by decide +kernel
theorem dX9_operate_5 : decode cX9_operate 5 = .ok (.lload_n 3, 1) := by decide +kernel
theorem dX9_operate_6 : decode cX9_operate 6 = .ok (.lconst 0, 1) := by decide +kernel
theorem dX9_operate_7 : decode cX9_operate 7 = .ok (.lcmp, 1) := by decide +kernel
theorem dX9_operate_8 : decode cX9_operate 8 = .ok (.ifCond .ne 7, 3) := by decide +kernel
theorem dX9_operate_11 : decode cX9_operate 11 = .ok (.lconst 0, 1) := by decide +kernel
theorem dX9_operate_12 : decode cX9_operate 12 = .ok (.goto 6, 3) := by decide +kernel
theorem dX9_operate_15 : decode cX9_operate 15 = .ok (.lload_n 1, 1) := by decide +kernel
theorem dX9_operate_16 : decode cX9_operate 16 = .ok (.lload_n 3, 1) := by decide +kernel
theorem dX9_operate_17 : decode cX9_operate 17 = .ok (.ldiv, 1) := by decide +kernel
theorem dX9_operate_18 : decode cX9_operate 18 = .ok (.lreturn, 1) := by decide +kernel
theorem dX9_operate_19 : decode cX9_operate 19 = .ok (.iload_n 0, 1) := by decide +kernel
theorem dX9_operate_20 : decode cX9_operate 20 = .ok (.iconst 2, 1) := by decide +kernel
theorem dX9_operate_21 : decode cX9_operate 21 = .ok (.if_icmp .ne 9, 3) := by decide +kernel
theorem dX9_operate_24 : decode cX9_operate 24 = .ok (.lload_n 1, 1) := by decide +kernel
theorem dX9_operate_25 : decode cX9_operate 25 = .ok (.lload_n 3, 1) := by decide +kernel
theorem dX9_operate_26 : decode cX9_operate 26 = .ok (.ladd, 1) := by decide +kernel
theorem dX9_operate_27 : decode cX9_operate 27 = .ok (.goto 17, 3) := by decide +kernel
theorem dX9_operate_30 : decode cX9_operate 30 = .ok (.iload_n 0, 1) := by decide +kernel
theorem dX9_operate_31 : decode cX9_operate 31 = .ok (.iconst 3, 1) := by decide +kernel
theorem dX9_operate_32 : decode cX9_operate 32 = .ok (.if_icmp .ne 9, 3) := by decide +kernel
theorem dX9_operate_35 : decode cX9_operate 35 = .ok (.lload_n 1, 1) := by decide +kernel
theorem dX9_operate_36 : decode cX9_operate 36 = .ok (.lload_n 3, 1) := by decide +kernel
theorem dX9_operate_37 : decode cX9_operate 37 = .ok (.lsub, 1) := by decide +kernel
theorem dX9_operate_38 : decode cX9_operate 38 = .ok (.goto 6, 3) := by decide +kernel
theorem dX9_operate_41 : decode cX9_operate 41 = .ok (.lload_n 1, 1) := by decide +kernel
theorem dX9_operate_42 : decode cX9_operate 42 = .ok (.lload_n 3, 1) := by decide +kernel
theorem dX9_operate_43 : decode cX9_operate 43 = .ok (.lmul, 1) := by decide +kernel
theorem dX9_operate_44 : decode cX9_operate 44 = .ok (.invokestatic 239, 3) := by decide +kernel
theorem dX9_operate_47 : decode cX9_operate 47 = .ok (.lreturn, 1) := by decide +kernel
theorem dX9_weightOf_0 : decode cX9_weightOf 0 = .ok (.aload_n 0, 1) := by decide +kernel
theorem dX9_weightOf_1 : decode cX9_weightOf 1 = .ok (.iload_n 1, 1) := by decide +kernel
theorem dX9_weightOf_2 : decode cX9_weightOf 2 = .ok (.invokevirtual 232, 3) := by decide +kernel
theorem dX9_weightOf_5 : decode cX9_weightOf 5 = .ok (.ifCond .ne 5, 3) := by decide +kernel
theorem dX9_weightOf_8 : decode cX9_weightOf 8 = .ok (.iconst (-1), 1) := by decide +kernel
theorem dX9_weightOf_9 : decode cX9_weightOf 9 = .ok (.ireturn, 1) := by decide +kernel
theorem dX9_weightOf_10 : decode cX9_weightOf 10 = .ok (.iconst 0, 1) := by decide +kernel
theorem dX9_weightOf_11 : decode cX9_weightOf 11 = .ok (.istore_n 2, 1) := by decide +kernel
theorem dX9_weightOf_12 : decode cX9_weightOf 12 = .ok (.aload_n 0, 1) := by decide +kernel
theorem dX9_weightOf_13 : decode cX9_weightOf 13 = .ok (.getfield 35, 3) := by decide +kernel
theorem dX9_weightOf_16 : decode cX9_weightOf 16 = .ok (.iconst 0, 1) := by decide +kernel
theorem dX9_weightOf_17 : decode cX9_weightOf 17 = .ok (.aload_n 0, 1) := by decide +kernel
theorem dX9_weightOf_18 : decode cX9_weightOf 18 = .ok (.getfield 17, 3) := by decide +kernel
theorem dX9_weightOf_21 : decode cX9_weightOf 21 = .ok (.iload_n 1, 1) := by decide +kernel
theorem dX9_weightOf_22 : decode cX9_weightOf 22 = .ok (.invokestatic 174, 3) := by decide +kernel
theorem dX9_weightOf_25 : decode cX9_weightOf 25 = .ok (.iconst 0, 1) := by decide +kernel
theorem dX9_weightOf_26 : decode cX9_weightOf 26 = .ok (.iadd, 1) := by decide +kernel
theorem dX9_weightOf_27 : decode cX9_weightOf 27 = .ok (.iaload, 1) := by decide +kernel
theorem dX9_weightOf_28 : decode cX9_weightOf 28 = .ok (.i2l, 1) := by decide +kernel
theorem dX9_weightOf_29 : decode cX9_weightOf 29 = .ok (.lastore, 1) := by decide +kernel
theorem dX9_weightOf_30 : decode cX9_weightOf 30 = .ok (.iconst 0, 1) := by decide +kernel
theorem dX9_weightOf_31 : decode cX9_weightOf 31 = .ok (.istore_n 3, 1) := by decide +kernel
theorem dX9_weightOf_32 : decode cX9_weightOf 32 = .ok (.iload_n 3, 1) := by decide +kernel
theorem dX9_weightOf_33 : decode cX9_weightOf 33 = .ok (.aload_n 0, 1) := by decide +kernel
theorem dX9_weightOf_34 : decode cX9_weightOf 34 = .ok (.getfield 17, 3) := by decide +kernel
theorem dX9_weightOf_37 : decode cX9_weightOf 37 = .ok (.iconst 5, 1) := by decide +kernel
theorem dX9_weightOf_38 : decode cX9_weightOf 38 = .ok (.iaload, 1) := by decide +kernel
theorem dX9_weightOf_39 : decode cX9_weightOf 39 = .ok (.if_icmp .ge 151, 3) := by decide +kernel
theorem dX9_weightOf_42 : decode cX9_weightOf 42 = .ok (.aload_n 0, 1) := by decide +kernel
theorem dX9_weightOf_43 : decode cX9_weightOf 43 = .ok (.getfield 17, 3) := by decide +kernel
theorem dX9_weightOf_46 : decode cX9_weightOf 46 = .ok (.sipush 198, 3) := by decide +kernel
theorem dX9_weightOf_49 : decode cX9_weightOf 49 = .ok (.iload_n 3, 1) := by decide +kernel
theorem dX9_weightOf_50 : decode cX9_weightOf 50 = .ok (.iadd, 1) := by decide +kernel
theorem dX9_weightOf_51 : decode cX9_weightOf 51 = .ok (.iaload, 1) := by decide +kernel
theorem dX9_weightOf_52 : decode cX9_weightOf 52 = .ok (.istore 4, 2) := by decide +kernel
theorem dX9_weightOf_54 : decode cX9_weightOf 54 = .ok (.iload 4, 2) := by decide +kernel
theorem dX9_weightOf_56 : decode cX9_weightOf 56 = .ok (.iconst 1, 1) := by decide +kernel
theorem dX9_weightOf_57 : decode cX9_weightOf 57 = .ok (.if_icmp .gt 97, 3) := by decide +kernel
theorem dX9_weightOf_60 : decode cX9_weightOf 60 = .ok (.iinc 3 1, 3) := by decide +kernel
theorem dX9_weightOf_63 : decode cX9_weightOf 63 = .ok (.aload_n 0, 1) := by decide +kernel
theorem dX9_weightOf_64 : decode cX9_weightOf 64 = .ok (.getfield 17, 3) := by decide +kernel
theorem dX9_weightOf_67 : decode cX9_weightOf 67 = .ok (.sipush 198, 3) := by decide +kernel
theorem dX9_weightOf_70 : decode cX9_weightOf 70 = .ok (.iload_n 3, 1) := by decide +kernel
theorem dX9_weightOf_71 : decode cX9_weightOf 71 = .ok (.iadd, 1) := by decide +kernel
theorem dX9_weightOf_72 : decode cX9_weightOf 72 = .ok (.iaload, 1) := by decide +kernel
theorem dX9_weightOf_73 : decode cX9_weightOf 73 = .ok (.istore 5, 2) := by decide +kernel
theorem dX9_weightOf_75 : decode cX9_weightOf 75 = .ok (.aload_n 0, 1) := by decide +kernel
theorem dX9_weightOf_76 : decode cX9_weightOf 76 = .ok (.getfield 35, 3) := by decide +kernel
theorem dX9_weightOf_79 : decode cX9_weightOf 79 = .ok (.iload_n 2, 1) := by decide +kernel
theorem dX9_weightOf_80 : decode cX9_weightOf 80 = .ok (.iload 4, 2) := by decide +kernel
theorem dX9_weightOf_82 : decode cX9_weightOf 82 = .ok (.ifCond .ne 9, 3) := by decide +kernel
theorem dX9_weightOf_85 : decode cX9_weightOf 85 = .ok (.iload 5, 2) := by decide +kernel
theorem dX9_weightOf_87 : decode cX9_weightOf 87 = .ok (.i2l, 1) := by decide +kernel
theorem dX9_weightOf_88 : decode cX9_weightOf 88 = .ok (.goto 59, 3) := by decide +kernel
theorem dX9_weightOf_91 : decode cX9_weightOf 91 = .ok (.iload 5, 2) := by decide +kernel
theorem dX9_weightOf_93 : decode cX9_weightOf 93 = .ok (.ifCond .ne 18, 3) := by decide +kernel
theorem dX9_weightOf_96 : decode cX9_weightOf 96 = .ok (.aload_n 0, 1) := by decide +kernel
theorem dX9_weightOf_97 : decode cX9_weightOf 97 = .ok (.getfield 17, 3) := by decide +kernel
theorem dX9_weightOf_100 : decode cX9_weightOf 100 = .ok (.iload_n 1, 1) := by decide +kernel
theorem dX9_weightOf_101 : decode cX9_weightOf 101 = .ok (.invokestatic 174, 3) := by decide +kernel
theorem dX9_weightOf_104 : decode cX9_weightOf 104 = .ok (.iconst 0, 1) := by decide +kernel
theorem dX9_weightOf_105 : decode cX9_weightOf 105 = .ok (.iadd, 1) := by decide +kernel
theorem dX9_weightOf_106 : decode cX9_weightOf 106 = .ok (.iaload, 1) := by decide +kernel
theorem dX9_weightOf_107 : decode cX9_weightOf 107 = .ok (.i2l, 1) := by decide +kernel
theorem dX9_weightOf_108 : decode cX9_weightOf 108 = .ok (.goto 39, 3) := by decide +kernel
theorem dX9_weightOf_111 : decode cX9_weightOf 111 = .ok (.iload 5, 2) := by decide +kernel
theorem dX9_weightOf_113 : decode cX9_weightOf 113 = .ok (.iconst 1, 1) := by decide +kernel
theorem dX9_weightOf_114 : decode cX9_weightOf 114 = .ok (.if_icmp .ne 12, 3) := by decide +kernel
theorem dX9_weightOf_117 : decode cX9_weightOf 117 = .ok (.aload_n 0, 1) := by decide +kernel
theorem dX9_weightOf_118 : decode cX9_weightOf 118 = .ok (.iload_n 1, 1) := by decide +kernel
theorem dX9_weightOf_119 : decode cX9_weightOf 119 = .ok (.invokevirtual 243, 3) := by decide +kernel
theorem dX9_weightOf_122 : decode cX9_weightOf 122 = .ok (.i2l, 1) := by decide +kernel
theorem dX9_weightOf_123 : decode cX9_weightOf 123 = .ok (.goto 24, 3) := by decide +kernel
theorem dX9_weightOf_126 : decode cX9_weightOf 126 = .ok (.iload 5, 2) := by decide +kernel
theorem dX9_weightOf_128 : decode cX9_weightOf 128 = .ok (.iconst 2, 1) := by decide +kernel
theorem dX9_weightOf_129 : decode cX9_weightOf 129 = .ok (.if_icmp .ne 12, 3) := by decide +kernel
theorem dX9_weightOf_132 : decode cX9_weightOf 132 = .ok (.aload_n 0, 1) := by decide +kernel
theorem dX9_weightOf_133 : decode cX9_weightOf 133 = .ok (.iload_n 1, 1) := by decide +kernel
theorem dX9_weightOf_134 : decode cX9_weightOf 134 = .ok (.invokevirtual 246, 3) := by decide +kernel
theorem dX9_weightOf_137 : decode cX9_weightOf 137 = .ok (.i2l, 1) := by decide +kernel
theorem dX9_weightOf_138 : decode cX9_weightOf 138 = .ok (.goto 9, 3) := by decide +kernel
theorem dX9_weightOf_141 : decode cX9_weightOf 141 = .ok (.aload_n 0, 1) := by decide +kernel
theorem dX9_weightOf_142 : decode cX9_weightOf 142 = .ok (.iload_n 1, 1) := by decide +kernel
theorem dX9_weightOf_143 : decode cX9_weightOf 143 = .ok (.invokevirtual 249, 3) := by decide +kernel
theorem dX9_weightOf_146 : decode cX9_weightOf 146 = .ok (.i2l, 1) := by decide +kernel
theorem dX9_weightOf_147 : decode cX9_weightOf 147 = .ok (.lastore, 1) := by decide +kernel
theorem dX9_weightOf_148 : decode cX9_weightOf 148 = .ok (.iinc 2 1, 3) := by decide +kernel
theorem dX9_weightOf_151 : decode cX9_weightOf 151 = .ok (.goto 33, 3) := by decide +kernel
theorem dX9_weightOf_154 : decode cX9_weightOf 154 = .ok (.iinc 2 (-1), 3) := by decide +kernel
theorem dX9_weightOf_157 : decode cX9_weightOf 157 = .ok (.aload_n 0, 1) := by decide +kernel
theorem dX9_weightOf_158 : decode cX9_weightOf 158 = .ok (.getfield 35, 3) := by decide +kernel
theorem dX9_weightOf_161 : decode cX9_weightOf 161 = .ok (.iload_n 2, 1) := by decide +kernel
theorem dX9_weightOf_162 : decode cX9_weightOf 162 = .ok (.iconst 1, 1) := by decide +kernel
theorem dX9_weightOf_163 : decode cX9_weightOf 163 = .ok (.isub, 1) := by decide +kernel
theorem dX9_weightOf_164 : decode cX9_weightOf 164 = .ok (.iload 4, 2) := by decide +kernel
theorem dX9_weightOf_166 : decode cX9_weightOf 166 = .ok (.aload_n 0, 1) := by decide +kernel
theorem dX9_weightOf_167 : decode cX9_weightOf 167 = .ok (.getfield 35, 3) := by decide +kernel
theorem dX9_weightOf_170 : decode cX9_weightOf 170 = .ok (.iload_n 2, 1) := by decide +kernel
theorem dX9_weightOf_171 : decode cX9_weightOf 171 = .ok (.iconst 1, 1) := by decide +kernel
theorem dX9_weightOf_172 : decode cX9_weightOf 172 = .ok (.isub, 1) := by decide +kernel
theorem dX9_weightOf_173 : decode cX9_weightOf 173 = .ok (.laload, 1) := by decide +kernel
theorem dX9_weightOf_174 : decode cX9_weightOf 174 = .ok (.aload_n 0, 1) := by decide +kernel
theorem dX9_weightOf_175 : decode cX9_weightOf 175 = .ok (.getfield 35, 3) := by decide +kernel
theorem dX9_weightOf_178 : decode cX9_weightOf 178 = .ok (.iload_n 2, 1) := by decide +kernel
theorem dX9_weightOf_179 : decode cX9_weightOf 179 = .ok (.laload, 1) := by decide +kernel
theorem dX9_weightOf_180 : decode cX9_weightOf 180 = .ok (.invokestatic 252, 3) := by decide +kernel
theorem dX9_weightOf_183 : decode cX9_weightOf 183 = .ok (.lastore, 1) := by decide +kernel
theorem dX9_weightOf_184 : decode cX9_weightOf 184 = .ok (.iinc 3 1, 3) := by decide +kernel
theorem dX9_weightOf_187 : decode cX9_weightOf 187 = .ok (.goto (-155), 3) := by decide +kernel
theorem dX9_weightOf_190 : decode cX9_weightOf 190 = .ok (.aload_n 0, 1) := by decide +kernel
theorem dX9_weightOf_191 : decode cX9_weightOf 191 = .ok (.getfield 35, 3) := by decide +kernel
theorem dX9_weightOf_194 : decode cX9_weightOf 194 = .ok (.iconst 0, 1) := by decide +kernel
theorem dX9_weightOf_195 : decode cX9_weightOf 195 = .ok (.laload, 1) := by decide +kernel
theorem dX9_weightOf_196 : decode cX9_weightOf 196 = .ok (.lconst 0, 1) := by decide +kernel
theorem dX9_weightOf_197 : decode cX9_weightOf 197 = .ok (.lcmp, 1) := by decide +kernel
theorem dX9_weightOf_198 : decode cX9_weightOf 198 = .ok (.ifCond .ge 7, 3) := by decide +kernel
theorem dX9_weightOf_201 : decode cX9_weightOf 201 = .ok (.iconst 0, 1) := by decide +kernel
theorem dX9_weightOf_202 : decode cX9_weightOf 202 = .ok (.goto 29, 3) := by decide +kernel
theorem dX9_weightOf_205 : decode cX9_weightOf 205 = .ok (.aload_n 0, 1) := by decide +kernel
theorem dX9_weightOf_206 : decode cX9_weightOf 206 = .ok (.getfield 35, 3) := by decide +kernel
theorem dX9_weightOf_209 : decode cX9_weightOf 209 = .ok (.iconst 0, 1) := by decide +kernel
theorem dX9_weightOf_210 : decode cX9_weightOf 210 = .ok (.laload, 1) := by decide +kernel
theorem dX9_weightOf_211 : decode cX9_weightOf 211 = .ok (.ldc2_w 256, 3) := by decide +kernel
theorem dX9_weightOf_214 : decode cX9_weightOf 214 = .ok (.lcmp, 1) := by decide +kernel
theorem dX9_weightOf_215 : decode cX9_weightOf 215 = .ok (.ifCond .le 9, 3) := by decide +kernel
theorem dX9_weightOf_218 : decode cX9_weightOf 218 = .ok (.sipush 9999, 3) := by decide +kernel
theorem dX9_weightOf_221 : decode cX9_weightOf 221 = .ok (.goto 10, 3) := by decide +kernel
theorem dX9_weightOf_224 : decode cX9_weightOf 224 = .ok (.aload_n 0, 1) := by decide +kernel
theorem dX9_weightOf_225 : decode cX9_weightOf 225 = .ok (.getfield 35, 3) := by decide +kernel
theorem dX9_weightOf_228 : decode cX9_weightOf 228 = .ok (.iconst 0, 1) := by decide +kernel
theorem dX9_weightOf_229 : decode cX9_weightOf 229 = .ok (.laload, 1) := by decide +kernel
theorem dX9_weightOf_230 : decode cX9_weightOf 230 = .ok (.l2i, 1) := by decide +kernel
theorem dX9_weightOf_231 : decode cX9_weightOf 231 = .ok (.ireturn, 1) := by decide +kernel
theorem dX9_voteOf_0 : decode cX9_voteOf 0 = .ok (.aload_n 0, 1) := by decide +kernel
theorem dX9_voteOf_1 : decode cX9_voteOf 1 = .ok (.iload_n 1, 1) := by decide +kernel
theorem dX9_voteOf_2 : decode cX9_voteOf 2 = .ok (.invokevirtual 232, 3) := by decide +kernel
theorem dX9_voteOf_5 : decode cX9_voteOf 5 = .ok (.ifCond .eq 12, 3) := by decide +kernel
theorem dX9_voteOf_8 : decode cX9_voteOf 8 = .ok (.aload_n 0, 1) := by decide +kernel
theorem dX9_voteOf_9 : decode cX9_voteOf 9 = .ok (.iload_n 1, 1) := by decide +kernel
theorem dX9_voteOf_10 : decode cX9_voteOf 10 = .ok (.iload_n 2, 1) := by decide +kernel
theorem dX9_voteOf_11 : decode cX9_voteOf 11 = .ok (.invokevirtual 258, 3) := by decide +kernel
theorem dX9_voteOf_14 : decode cX9_voteOf 14 = .ok (.ifCond .eq 17, 3) := by decide +kernel
theorem dX9_voteOf_17 : decode cX9_voteOf 17 = .ok (.aload_n 0, 1) := by decide +kernel
theorem dX9_voteOf_18 : decode cX9_voteOf 18 = .ok (.iload_n 1, 1) := by decide +kernel
theorem dX9_voteOf_19 : decode cX9_voteOf 19 = .ok (.invokevirtual 232, 3) := by decide +kernel
theorem dX9_voteOf_22 : decode cX9_voteOf 22 = .ok (.ifCond .eq 7, 3) := by decide +kernel
theorem dX9_voteOf_25 : decode cX9_voteOf 25 = .ok (.iload_n 1, 1) := by decide +kernel
theorem dX9_voteOf_26 : decode cX9_voteOf 26 = .ok (.goto 4, 3) := by decide +kernel
theorem dX9_voteOf_29 : decode cX9_voteOf 29 = .ok (.iconst (-1), 1) := by decide +kernel
theorem dX9_voteOf_30 : decode cX9_voteOf 30 = .ok (.ireturn, 1) := by decide +kernel
theorem dX9_voteOf_31 : decode cX9_voteOf 31 = .ok (.iconst 0, 1) := by decide +kernel
theorem dX9_voteOf_32 : decode cX9_voteOf 32 = .ok (.istore_n 3, 1) := by decide +kernel
theorem dX9_voteOf_33 : decode cX9_voteOf 33 = .ok (.iload_n 3, 1) := by decide +kernel
theorem dX9_voteOf_34 : decode cX9_voteOf 34 = .ok (.aload_n 0, 1) := by decide +kernel
theorem dX9_voteOf_35 : decode cX9_voteOf 35 = .ok (.getfield 17, 3) := by decide +kernel
theorem dX9_voteOf_38 : decode cX9_voteOf 38 = .ok (.iload_n 1, 1) := by decide +kernel
theorem dX9_voteOf_39 : decode cX9_voteOf 39 = .ok (.invokestatic 174, 3) := by decide +kernel
theorem dX9_voteOf_42 : decode cX9_voteOf 42 = .ok (.iconst 3, 1) := by decide +kernel
theorem dX9_voteOf_43 : decode cX9_voteOf 43 = .ok (.iadd, 1) := by decide +kernel
theorem dX9_voteOf_44 : decode cX9_voteOf 44 = .ok (.iaload, 1) := by decide +kernel
theorem dX9_voteOf_45 : decode cX9_voteOf 45 = .ok (.if_icmp .ge 37, 3) := by decide +kernel
theorem dX9_voteOf_48 : decode cX9_voteOf 48 = .ok (.aload_n 0, 1) := by decide +kernel
theorem dX9_voteOf_49 : decode cX9_voteOf 49 = .ok (.getfield 17, 3) := by decide +kernel
theorem dX9_voteOf_52 : decode cX9_voteOf 52 = .ok (.iload_n 1, 1) := by decide +kernel
theorem dX9_voteOf_53 : decode cX9_voteOf 53 = .ok (.invokestatic 174, 3) := by decide +kernel
theorem dX9_voteOf_56 : decode cX9_voteOf 56 = .ok (.iconst 4, 1) := by decide +kernel
theorem dX9_voteOf_57 : decode cX9_voteOf 57 = .ok (.iadd, 1) := by decide +kernel
theorem dX9_voteOf_58 : decode cX9_voteOf 58 = .ok (.iload_n 3, 1) := by decide +kernel
theorem dX9_voteOf_59 : decode cX9_voteOf 59 = .ok (.iadd, 1) := by decide +kernel
theorem dX9_voteOf_60 : decode cX9_voteOf 60 = .ok (.iaload, 1) := by decide +kernel
theorem dX9_voteOf_61 : decode cX9_voteOf 61 = .ok (.istore 4, 2) := by decide +kernel
theorem dX9_voteOf_63 : decode cX9_voteOf 63 = .ok (.aload_n 0, 1) := by decide +kernel
theorem dX9_voteOf_64 : decode cX9_voteOf 64 = .ok (.iload 4, 2) := by decide +kernel
theorem dX9_voteOf_66 : decode cX9_voteOf 66 = .ok (.iload_n 2, 1) := by decide +kernel
theorem dX9_voteOf_67 : decode cX9_voteOf 67 = .ok (.invokevirtual 258, 3) := by decide +kernel
theorem dX9_voteOf_70 : decode cX9_voteOf 70 = .ok (.ifCond .eq 6, 3) := by decide +kernel
theorem dX9_voteOf_73 : decode cX9_voteOf 73 = .ok (.iload 4, 2) := by decide +kernel
theorem dX9_voteOf_75 : decode cX9_voteOf 75 = .ok (.ireturn, 1) := by decide +kernel
theorem dX9_voteOf_76 : decode cX9_voteOf 76 = .ok (.iinc 3 1, 3) := by decide +kernel
theorem dX9_voteOf_79 : decode cX9_voteOf 79 = .ok (.goto (-46), 3) := by decide +kernel
theorem dX9_voteOf_82 : decode cX9_voteOf 82 = .ok (.iconst (-1), 1) := by decide +kernel
theorem dX9_voteOf_83 : decode cX9_voteOf 83 = .ok (.ireturn, 1) := by decide +kernel
theorem dX9_layName_0 : decode cX9_layName 0 = .ok (.iconst 0, 1) := by decide +kernel
theorem dX9_layName_1 : decode cX9_layName 1 = .ok (.istore_n 2, 1) := by decide +kernel
theorem dX9_layName_2 : decode cX9_layName 2 = .ok (.iconst (-1), 1) := by decide +kernel
theorem dX9_layName_3 : decode cX9_layName 3 = .ok (.istore_n 3, 1) := by decide +kernel
theorem dX9_layName_4 : decode cX9_layName 4 = .ok (.iconst 0, 1) := by decide +kernel
theorem dX9_layName_5 : decode cX9_layName 5 = .ok (.istore 4, 2) := by decide +kernel
theorem dX9_layName_7 : decode cX9_layName 7 = .ok (.iload 4, 2) := by decide +kernel
theorem dX9_layName_9 : decode cX9_layName 9 = .ok (.aload_n 0, 1) := by decide +kernel
theorem dX9_layName_10 : decode cX9_layName 10 = .ok (.getfield 17, 3) := by decide +kernel
theorem dX9_layName_13 : decode cX9_layName 13 = .ok (.iconst 1, 1) := by decide +kernel
theorem dX9_layName_14 : decode cX9_layName 14 = .ok (.iaload, 1) := by decide +kernel
theorem dX9_layName_15 : decode cX9_layName 15 = .ok (.if_icmp .ge 19, 3) := by decide +kernel
theorem dX9_layName_18 : decode cX9_layName 18 = .ok (.aload_n 0, 1) := by decide +kernel
theorem dX9_layName_19 : decode cX9_layName 19 = .ok (.getfield 47, 3) := by decide +kernel
theorem dX9_layName_22 : decode cX9_layName 22 = .ok (.iload 4, 2) := by decide +kernel
theorem dX9_layName_24 : decode cX9_layName 24 = .ok (.aaload, 1) := by decide +kernel
theorem dX9_layName_25 : decode cX9_layName 25 = .ok (.iload_n 1, 1) := by decide +kernel
theorem dX9_layName_26 : decode cX9_layName 26 = .ok (.iconst 0, 1) := by decide +kernel
theorem dX9_layName_27 : decode cX9_layName 27 = .ok (.iastore, 1) := by decide +kernel
theorem dX9_layName_28 : decode cX9_layName 28 = .ok (.iinc 4 1, 3) := by decide +kernel
theorem dX9_layName_31 : decode cX9_layName 31 = .ok (.goto (-24), 3) := by decide +kernel
theorem dX9_layName_34 : decode cX9_layName 34 = .ok (.iconst 0, 1) := by decide +kernel
theorem dX9_layName_35 : decode cX9_layName 35 = .ok (.istore 4, 2) := by decide +kernel
theorem dX9_layName_37 : decode cX9_layName 37 = .ok (.iload 4, 2) := by decide +kernel
theorem dX9_layName_39 : decode cX9_layName 39 = .ok (.aload_n 0, 1) := by decide +kernel
theorem dX9_layName_40 : decode cX9_layName 40 = .ok (.getfield 17, 3) := by decide +kernel
theorem dX9_layName_43 : decode cX9_layName 43 = .ok (.iconst 1, 1) := by decide +kernel
theorem dX9_layName_44 : decode cX9_layName 44 = .ok (.iaload, 1) := by decide +kernel
theorem dX9_layName_45 : decode cX9_layName 45 = .ok (.if_icmp .ge 56, 3) := by decide +kernel
theorem dX9_layName_48 : decode cX9_layName 48 = .ok (.aload_n 0, 1) := by decide +kernel
theorem dX9_layName_49 : decode cX9_layName 49 = .ok (.iload 4, 2) := by decide +kernel
theorem dX9_layName_51 : decode cX9_layName 51 = .ok (.iload_n 1, 1) := by decide +kernel
theorem dX9_layName_52 : decode cX9_layName 52 = .ok (.invokevirtual 262, 3) := by decide +kernel
theorem dX9_layName_55 : decode cX9_layName 55 = .ok (.istore 5, 2) := by decide +kernel
theorem dX9_layName_57 : decode cX9_layName 57 = .ok (.iload 5, 2) := by decide +kernel
theorem dX9_layName_59 : decode cX9_layName 59 = .ok (.iconst (-1), 1) := by decide +kernel
theorem dX9_layName_60 : decode cX9_layName 60 = .ok (.if_icmp .ne 6, 3) := by decide +kernel
theorem dX9_layName_63 : decode cX9_layName 63 = .ok (.goto 32, 3) := by decide +kernel
theorem dX9_layName_66 : decode cX9_layName 66 = .ok (.aload_n 0, 1) := by decide +kernel
theorem dX9_layName_67 : decode cX9_layName 67 = .ok (.getfield 47, 3) := by decide +kernel
theorem dX9_layName_70 : decode cX9_layName 70 = .ok (.iload 5, 2) := by decide +kernel
theorem dX9_layName_72 : decode cX9_layName 72 = .ok (.aaload, 1) := by decide +kernel
theorem dX9_layName_73 : decode cX9_layName 73 = .ok (.iload_n 1, 1) := by decide +kernel
theorem dX9_layName_74 : decode cX9_layName 74 = .ok (.dup2, 1) := by decide +kernel
theorem dX9_layName_75 : decode cX9_layName 75 = .ok (.iaload, 1) := by decide +kernel
theorem dX9_layName_76 : decode cX9_layName 76 = .ok (.aload_n 0, 1) := by decide +kernel
theorem dX9_layName_77 : decode cX9_layName 77 = .ok (.getfield 38, 3) := by decide +kernel
theorem dX9_layName_80 : decode cX9_layName 80 = .ok (.iload 4, 2) := by decide +kernel
theorem dX9_layName_82 : decode cX9_layName 82 = .ok (.iaload, 1) := by decide +kernel
theorem dX9_layName_83 : decode cX9_layName 83 = .ok (.iadd, 1) := by decide +kernel
theorem dX9_layName_84 : decode cX9_layName 84 = .ok (.iastore, 1) := by decide +kernel
theorem dX9_layName_85 : decode cX9_layName 85 = .ok (.iload_n 2, 1) := by decide +kernel
theorem dX9_layName_86 : decode cX9_layName 86 = .ok (.aload_n 0, 1) := by decide +kernel
theorem dX9_layName_87 : decode cX9_layName 87 = .ok (.getfield 38, 3) := by decide +kernel
theorem dX9_layName_90 : decode cX9_layName 90 = .ok (.iload 4, 2) := by decide +kernel
theorem dX9_layName_92 : decode cX9_layName 92 = .ok (.iaload, 1) := by decide +kernel
theorem dX9_layName_93 : decode cX9_layName 93 = .ok (.iadd, 1) := by decide +kernel
theorem dX9_layName_94 : decode cX9_layName 94 = .ok (.istore_n 2, 1) := by decide +kernel
theorem dX9_layName_95 : decode cX9_layName 95 = .ok (.iinc 4 1, 3) := by decide +kernel
theorem dX9_layName_98 : decode cX9_layName 98 = .ok (.goto (-61), 3) := by decide +kernel
theorem dX9_layName_101 : decode cX9_layName 101 = .ok (.iconst 0, 1) := by decide +kernel
theorem dX9_layName_102 : decode cX9_layName 102 = .ok (.istore 4, 2) := by decide +kernel
theorem dX9_layName_104 : decode cX9_layName 104 = .ok (.iload 4, 2) := by decide +kernel
theorem dX9_layName_106 : decode cX9_layName 106 = .ok (.aload_n 0, 1) := by decide +kernel
theorem dX9_layName_107 : decode cX9_layName 107 = .ok (.getfield 17, 3) := by decide +kernel
theorem dX9_layName_110 : decode cX9_layName 110 = .ok (.iconst 1, 1) := by decide +kernel
theorem dX9_layName_111 : decode cX9_layName 111 = .ok (.iaload, 1) := by decide +kernel
theorem dX9_layName_112 : decode cX9_layName 112 = .ok (.if_icmp .ge 80, 3) := by decide +kernel
theorem dX9_layName_115 : decode cX9_layName 115 = .ok (.aload_n 0, 1) := by decide +kernel
theorem dX9_layName_116 : decode cX9_layName 116 = .ok (.iload 4, 2) := by decide +kernel
theorem dX9_layName_118 : decode cX9_layName 118 = .ok (.iload_n 1, 1) := by decide +kernel
theorem dX9_layName_119 : decode cX9_layName 119 = .ok (.invokevirtual 258, 3) := by decide +kernel
theorem dX9_layName_122 : decode cX9_layName 122 = .ok (.ifCond .ne 6, 3) := by decide +kernel
theorem dX9_layName_125 : decode cX9_layName 125 = .ok (.goto 61, 3) := by decide +kernel
theorem dX9_layName_128 : decode cX9_layName 128 = .ok (.iload_n 3, 1) := by decide +kernel
theorem dX9_layName_129 : decode cX9_layName 129 = .ok (.iconst (-1), 1) := by decide +kernel
theorem dX9_layName_130 : decode cX9_layName 130 = .ok (.if_icmp .ne 7, 3) := by decide +kernel
theorem dX9_layName_133 : decode cX9_layName 133 = .ok (.iconst 1, 1) := by decide +kernel
theorem dX9_layName_134 : decode cX9_layName 134 = .ok (.goto 21, 3) := by decide +kernel
theorem dX9_layName_137 : decode cX9_layName 137 = .ok (.aload_n 0, 1) := by decide +kernel
theorem dX9_layName_138 : decode cX9_layName 138 = .ok (.getfield 47, 3) := by decide +kernel
theorem dX9_layName_141 : decode cX9_layName 141 = .ok (.iload 4, 2) := by decide +kernel
theorem dX9_layName_143 : decode cX9_layName 143 = .ok (.aaload, 1) := by decide +kernel
theorem dX9_layName_144 : decode cX9_layName 144 = .ok (.iload_n 1, 1) := by decide +kernel
theorem dX9_layName_145 : decode cX9_layName 145 = .ok (.iaload, 1) := by decide +kernel
theorem dX9_layName_146 : decode cX9_layName 146 = .ok (.aload_n 0, 1) := by decide +kernel
theorem dX9_layName_147 : decode cX9_layName 147 = .ok (.getfield 47, 3) := by decide +kernel
theorem dX9_layName_150 : decode cX9_layName 150 = .ok (.iload_n 3, 1) := by decide +kernel
theorem dX9_layName_151 : decode cX9_layName 151 = .ok (.aaload, 1) := by decide +kernel
theorem dX9_layName_152 : decode cX9_layName 152 = .ok (.iload_n 1, 1) := by decide +kernel
theorem dX9_layName_153 : decode cX9_layName 153 = .ok (.iaload, 1) := by decide +kernel
theorem dX9_layName_154 : decode cX9_layName 154 = .ok (.isub, 1) := by decide +kernel
theorem dX9_layName_155 : decode cX9_layName 155 = .ok (.istore 5, 2) := by decide +kernel
theorem dX9_layName_157 : decode cX9_layName 157 = .ok (.iload 5, 2) := by decide +kernel
theorem dX9_layName_159 : decode cX9_layName 159 = .ok (.ifCond .gt 24, 3) := by decide +kernel
theorem dX9_layName_162 : decode cX9_layName 162 = .ok (.iload 5, 2) := by decide +kernel
theorem dX9_layName_164 : decode cX9_layName 164 = .ok (.ifCond .ne 22, 3) := by decide +kernel
theorem dX9_layName_167 : decode cX9_layName 167 = .ok (.aload_n 0, 1) := by decide +kernel
theorem dX9_layName_168 : decode cX9_layName 168 = .ok (.getfield 41, 3) := by decide +kernel
theorem dX9_layName_171 : decode cX9_layName 171 = .ok (.iload 4, 2) := by decide +kernel
theorem dX9_layName_173 : decode cX9_layName 173 = .ok (.iaload, 1) := by decide +kernel
theorem dX9_layName_174 : decode cX9_layName 174 = .ok (.aload_n 0, 1) := by decide +kernel
theorem dX9_layName_175 : decode cX9_layName 175 = .ok (.getfield 41, 3) := by decide +kernel
theorem dX9_layName_178 : decode cX9_layName 178 = .ok (.iload_n 3, 1) := by decide +kernel
theorem dX9_layName_179 : decode cX9_layName 179 = .ok (.iaload, 1) := by decide +kernel
theorem dX9_layName_180 : decode cX9_layName 180 = .ok (.if_icmp .ge 6, 3) := by decide +kernel
theorem dX9_layName_183 : decode cX9_layName 183 = .ok (.iload 4, 2) := by decide +kernel
theorem dX9_layName_185 : decode cX9_layName 185 = .ok (.istore_n 3, 1) := by decide +kernel
theorem dX9_layName_186 : decode cX9_layName 186 = .ok (.iinc 4 1, 3) := by decide +kernel
theorem dX9_layName_189 : decode cX9_layName 189 = .ok (.goto (-85), 3) := by decide +kernel
theorem dX9_layName_192 : decode cX9_layName 192 = .ok (.aload_n 0, 1) := by decide +kernel
theorem dX9_layName_193 : decode cX9_layName 193 = .ok (.getfield 44, 3) := by decide +kernel
theorem dX9_layName_196 : decode cX9_layName 196 = .ok (.iload_n 1, 1) := by decide +kernel
theorem dX9_layName_197 : decode cX9_layName 197 = .ok (.iload_n 3, 1) := by decide +kernel
theorem dX9_layName_198 : decode cX9_layName 198 = .ok (.iastore, 1) := by decide +kernel
theorem dX9_layName_199 : decode cX9_layName 199 = .ok (.iconst 0, 1) := by decide +kernel
theorem dX9_layName_200 : decode cX9_layName 200 = .ok (.istore 4, 2) := by decide +kernel
theorem dX9_layName_202 : decode cX9_layName 202 = .ok (.iload 4, 2) := by decide +kernel
theorem dX9_layName_204 : decode cX9_layName 204 = .ok (.aload_n 0, 1) := by decide +kernel
theorem dX9_layName_205 : decode cX9_layName 205 = .ok (.getfield 17, 3) := by decide +kernel
theorem dX9_layName_208 : decode cX9_layName 208 = .ok (.iconst 1, 1) := by decide +kernel
theorem dX9_layName_209 : decode cX9_layName 209 = .ok (.iaload, 1) := by decide +kernel
theorem dX9_layName_210 : decode cX9_layName 210 = .ok (.if_icmp .ge 103, 3) := by decide +kernel
theorem dX9_layName_213 : decode cX9_layName 213 = .ok (.aload_n 0, 1) := by decide +kernel
theorem dX9_layName_214 : decode cX9_layName 214 = .ok (.iload 4, 2) := by decide +kernel
theorem dX9_layName_216 : decode cX9_layName 216 = .ok (.iload_n 1, 1) := by decide +kernel
theorem dX9_layName_217 : decode cX9_layName 217 = .ok (.invokevirtual 262, 3) := by decide +kernel
theorem dX9_layName_220 : decode cX9_layName 220 = .ok (.istore 5, 2) := by decide +kernel
theorem dX9_layName_222 : decode cX9_layName 222 = .ok (.aload_n 0, 1) := by decide +kernel
theorem dX9_layName_223 : decode cX9_layName 223 = .ok (.getfield 17, 3) := by decide +kernel
theorem dX9_layName_226 : decode cX9_layName 226 = .ok (.iload 4, 2) := by decide +kernel
theorem dX9_layName_228 : decode cX9_layName 228 = .ok (.invokestatic 174, 3) := by decide +kernel
theorem dX9_layName_231 : decode cX9_layName 231 = .ok (.iconst 1, 1) := by decide +kernel
theorem dX9_layName_232 : decode cX9_layName 232 = .ok (.iadd, 1) := by decide +kernel
theorem dX9_layName_233 : decode cX9_layName 233 = .ok (.iaload, 1) := by decide +kernel
theorem dX9_layName_234 : decode cX9_layName 234 = .ok (.iconst 1, 1) := by decide +kernel
theorem dX9_layName_235 : decode cX9_layName 235 = .ok (.if_icmp .ne 36, 3) := by decide +kernel
theorem dX9_layName_238 : decode cX9_layName 238 = .ok (.iload 5, 2) := by decide +kernel
theorem dX9_layName_240 : decode cX9_layName 240 = .ok (.iconst (-1), 1) := by decide +kernel
theorem dX9_layName_241 : decode cX9_layName 241 = .ok (.if_icmp .eq 30, 3) := by decide +kernel
theorem dX9_layName_244 : decode cX9_layName 244 = .ok (.bipush 100, 2) := by decide +kernel
theorem dX9_layName_246 : decode cX9_layName 246 = .ok (.aload_n 0, 1) := by decide +kernel
theorem dX9_layName_247 : decode cX9_layName 247 = .ok (.getfield 47, 3) := by decide +kernel
theorem dX9_layName_250 : decode cX9_layName 250 = .ok (.iload 5, 2) := by decide +kernel
theorem dX9_layName_252 : decode cX9_layName 252 = .ok (.aaload, 1) := by decide +kernel
theorem dX9_layName_253 : decode cX9_layName 253 = .ok (.iload_n 1, 1) := by decide +kernel
theorem dX9_layName_254 : decode cX9_layName 254 = .ok (.iaload, 1) := by decide +kernel
theorem dX9_layName_255 : decode cX9_layName 255 = .ok (.imul, 1) := by decide +kernel
theorem dX9_layName_256 : decode cX9_layName 256 = .ok (.aload_n 0, 1) := by decide +kernel
theorem dX9_layName_257 : decode cX9_layName 257 = .ok (.getfield 17, 3) := by decide +kernel
theorem dX9_layName_260 : decode cX9_layName 260 = .ok (.iconst 0, 1) := by decide +kernel
theorem dX9_layName_261 : decode cX9_layName 261 = .ok (.iaload, 1) := by decide +kernel
theorem dX9_layName_262 : decode cX9_layName 262 = .ok (.iload_n 2, 1) := by decide +kernel
theorem dX9_layName_263 : decode cX9_layName 263 = .ok (.imul, 1) := by decide +kernel
theorem dX9_layName_264 : decode cX9_layName 264 = .ok (.if_icmp .lt 7, 3) := by decide +kernel
theorem dX9_layName_267 : decode cX9_layName 267 = .ok (.iconst 1, 1) := by decide +kernel
theorem dX9_layName_268 : decode cX9_layName 268 = .ok (.goto 4, 3) := by decide +kernel
theorem dX9_layName_271 : decode cX9_layName 271 = .ok (.iconst 0, 1) := by decide +kernel
theorem dX9_layName_272 : decode cX9_layName 272 = .ok (.istore 6, 2) := by decide +kernel
theorem dX9_layName_274 : decode cX9_layName 274 = .ok (.aload_n 0, 1) := by decide +kernel
theorem dX9_layName_275 : decode cX9_layName 275 = .ok (.getfield 50, 3) := by decide +kernel
theorem dX9_layName_278 : decode cX9_layName 278 = .ok (.iload 4, 2) := by decide +kernel
theorem dX9_layName_280 : decode cX9_layName 280 = .ok (.aaload, 1) := by decide +kernel
theorem dX9_layName_281 : decode cX9_layName 281 = .ok (.iload_n 1, 1) := by decide +kernel
theorem dX9_layName_282 : decode cX9_layName 282 = .ok (.aload_n 0, 1) := by decide +kernel
theorem dX9_layName_283 : decode cX9_layName 283 = .ok (.iload 4, 2) := by decide +kernel
theorem dX9_layName_285 : decode cX9_layName 285 = .ok (.invokevirtual 232, 3) := by decide +kernel
theorem dX9_layName_288 : decode cX9_layName 288 = .ok (.ifCond .ne 7, 3) := by decide +kernel
theorem dX9_layName_291 : decode cX9_layName 291 = .ok (.iconst (-1), 1) := by decide +kernel
theorem dX9_layName_292 : decode cX9_layName 292 = .ok (.goto 14, 3) := by decide +kernel
theorem dX9_layName_295 : decode cX9_layName 295 = .ok (.iload 6, 2) := by decide +kernel
theorem dX9_layName_297 : decode cX9_layName 297 = .ok (.ifCond .eq 8, 3) := by decide +kernel
theorem dX9_layName_300 : decode cX9_layName 300 = .ok (.iload 5, 2) := by decide +kernel
theorem dX9_layName_302 : decode cX9_layName 302 = .ok (.goto 4, 3) := by decide +kernel
theorem dX9_layName_305 : decode cX9_layName 305 = .ok (.iload_n 3, 1) := by decide +kernel
theorem dX9_layName_306 : decode cX9_layName 306 = .ok (.iastore, 1) := by decide +kernel
theorem dX9_layName_307 : decode cX9_layName 307 = .ok (.iinc 4 1, 3) := by decide +kernel
theorem dX9_layName_310 : decode cX9_layName 310 = .ok (.goto (-108), 3) := by decide +kernel
theorem dX9_layName_313 : decode cX9_layName 313 = .ok (.return_, 1) := by decide +kernel
theorem dX9_layAll_0 : decode cX9_layAll 0 = .ok (.iconst 0, 1) := by decide +kernel
theorem dX9_layAll_1 : decode cX9_layAll 1 = .ok (.istore_n 1, 1) := by decide +kernel
theorem dX9_layAll_2 : decode cX9_layAll 2 = .ok (.iload_n 1, 1) := by decide +kernel
theorem dX9_layAll_3 : decode cX9_layAll 3 = .ok (.aload_n 0, 1) := by decide +kernel
theorem dX9_layAll_4 : decode cX9_layAll 4 = .ok (.getfield 17, 3) := by decide +kernel
theorem dX9_layAll_7 : decode cX9_layAll 7 = .ok (.iconst 1, 1) := by decide +kernel
theorem dX9_layAll_8 : decode cX9_layAll 8 = .ok (.iaload, 1) := by decide +kernel
theorem dX9_layAll_9 : decode cX9_layAll 9 = .ok (.if_icmp .ge 31, 3) := by decide +kernel
theorem dX9_layAll_12 : decode cX9_layAll 12 = .ok (.aload_n 0, 1) := by decide +kernel
theorem dX9_layAll_13 : decode cX9_layAll 13 = .ok (.getfield 38, 3) := by decide +kernel
theorem dX9_layAll_16 : decode cX9_layAll 16 = .ok (.iload_n 1, 1) := by decide +kernel
theorem dX9_layAll_17 : decode cX9_layAll 17 = .ok (.aload_n 0, 1) := by decide +kernel
theorem dX9_layAll_18 : decode cX9_layAll 18 = .ok (.iload_n 1, 1) := by decide +kernel
theorem dX9_layAll_19 : decode cX9_layAll 19 = .ok (.invokevirtual 265, 3) := by decide +kernel
theorem dX9_layAll_22 : decode cX9_layAll 22 = .ok (.iastore, 1) := by decide +kernel
theorem dX9_layAll_23 : decode cX9_layAll 23 = .ok (.aload_n 0, 1) := by decide +kernel
theorem dX9_layAll_24 : decode cX9_layAll 24 = .ok (.getfield 41, 3) := by decide +kernel
theorem dX9_layAll_27 : decode cX9_layAll 27 = .ok (.iload_n 1, 1) := by decide +kernel
theorem dX9_layAll_28 : decode cX9_layAll 28 = .ok (.aload_n 0, 1) := by decide +kernel
theorem dX9_layAll_29 : decode cX9_layAll 29 = .ok (.iload_n 1, 1) := by decide +kernel
theorem dX9_layAll_30 : decode cX9_layAll 30 = .ok (.invokevirtual 243, 3) := by decide +kernel
theorem dX9_layAll_33 : decode cX9_layAll 33 = .ok (.iastore, 1) := by decide +kernel
theorem dX9_layAll_34 : decode cX9_layAll 34 = .ok (.iinc 1 1, 3) := by decide +kernel
theorem dX9_layAll_37 : decode cX9_layAll 37 = .ok (.goto (-35), 3) := by decide +kernel
theorem dX9_layAll_40 : decode cX9_layAll 40 = .ok (.iconst 0, 1) := by decide +kernel
theorem dX9_layAll_41 : decode cX9_layAll 41 = .ok (.istore_n 1, 1) := by decide +kernel
theorem dX9_layAll_42 : decode cX9_layAll 42 = .ok (.iload_n 1, 1) := by decide +kernel
theorem dX9_layAll_43 : decode cX9_layAll 43 = .ok (.aload_n 0, 1) := by decide +kernel
theorem dX9_layAll_44 : decode cX9_layAll 44 = .ok (.getfield 17, 3) := by decide +kernel
theorem dX9_layAll_47 : decode cX9_layAll 47 = .ok (.iconst 2, 1) := by decide +kernel
theorem dX9_layAll_48 : decode cX9_layAll 48 = .ok (.iaload, 1) := by decide +kernel
theorem dX9_layAll_49 : decode cX9_layAll 49 = .ok (.if_icmp .ge 14, 3) := by decide +kernel
theorem dX9_layAll_52 : decode cX9_layAll 52 = .ok (.aload_n 0, 1) := by decide +kernel
theorem dX9_layAll_53 : decode cX9_layAll 53 = .ok (.iload_n 1, 1) := by decide +kernel
theorem dX9_layAll_54 : decode cX9_layAll 54 = .ok (.invokevirtual 268, 3) := by decide +kernel
theorem dX9_layAll_57 : decode cX9_layAll 57 = .ok (.iinc 1 1, 3) := by decide +kernel
theorem dX9_layAll_60 : decode cX9_layAll 60 = .ok (.goto (-18), 3) := by decide +kernel
theorem dX9_layAll_63 : decode cX9_layAll 63 = .ok (.return_, 1) := by decide +kernel
theorem dX9_keepBindings_0 : decode cX9_keepBindings 0 = .ok (.aload_n 0, 1) := by decide +kernel
theorem dX9_keepBindings_1 : decode cX9_keepBindings 1 = .ok (.invokevirtual 271, 3) := by decide +kernel
theorem dX9_keepBindings_4 : decode cX9_keepBindings 4 = .ok (.iconst 0, 1) := by decide +kernel
theorem dX9_keepBindings_5 : decode cX9_keepBindings 5 = .ok (.istore_n 1, 1) := by decide +kernel
theorem dX9_keepBindings_6 : decode cX9_keepBindings 6 = .ok (.iload_n 1, 1) := by decide +kernel
theorem dX9_keepBindings_7 : decode cX9_keepBindings 7 = .ok (.aload_n 0, 1) := by decide +kernel
theorem dX9_keepBindings_8 : decode cX9_keepBindings 8 = .ok (.getfield 17, 3) := by decide +kernel
theorem dX9_keepBindings_11 : decode cX9_keepBindings 11 = .ok (.iconst 1, 1) := by decide +kernel
theorem dX9_keepBindings_12 : decode cX9_keepBindings 12 = .ok (.iaload, 1) := by decide +kernel
theorem dX9_keepBindings_13 : decode cX9_keepBindings 13 = .ok (.if_icmp .ge 43, 3) := by decide +kernel
theorem dX9_keepBindings_16 : decode cX9_keepBindings 16 = .ok (.iconst 0, 1) := by decide +kernel
theorem dX9_keepBindings_17 : decode cX9_keepBindings 17 = .ok (.istore_n 2, 1) := by decide +kernel
theorem dX9_keepBindings_18 : decode cX9_keepBindings 18 = .ok (.iload_n 2, 1) := by decide +kernel
theorem dX9_keepBindings_19 : decode cX9_keepBindings 19 = .ok (.aload_n 0, 1) := by decide +kernel
theorem dX9_keepBindings_20 : decode cX9_keepBindings 20 = .ok (.getfield 17, 3) := by decide +kernel
theorem dX9_keepBindings_23 : decode cX9_keepBindings 23 = .ok (.iconst 2, 1) := by decide +kernel
theorem dX9_keepBindings_24 : decode cX9_keepBindings 24 = .ok (.iaload, 1) := by decide +kernel
theorem dX9_keepBindings_25 : decode cX9_keepBindings 25 = .ok (.if_icmp .ge 25, 3) := by decide +kernel
theorem dX9_keepBindings_28 : decode cX9_keepBindings 28 = .ok (.aload_n 0, 1) := by decide +kernel
theorem dX9_keepBindings_29 : decode cX9_keepBindings 29 = .ok (.getfield 53, 3) := by decide +kernel
theorem dX9_keepBindings_32 : decode cX9_keepBindings 32 = .ok (.iload_n 1, 1) := by decide +kernel
theorem dX9_keepBindings_33 : decode cX9_keepBindings 33 = .ok (.aaload, 1) := by decide +kernel
theorem dX9_keepBindings_34 : decode cX9_keepBindings 34 = .ok (.iload_n 2, 1) := by decide +kernel
theorem dX9_keepBindings_35 : decode cX9_keepBindings 35 = .ok (.aload_n 0, 1) := by decide +kernel
theorem dX9_keepBindings_36 : decode cX9_keepBindings 36 = .ok (.getfield 50, 3) := by decide +kernel
theorem dX9_keepBindings_39 : decode cX9_keepBindings 39 = .ok (.iload_n 1, 1) := by decide +kernel
theorem dX9_keepBindings_40 : decode cX9_keepBindings 40 = .ok (.aaload, 1) := by decide +kernel
theorem dX9_keepBindings_41 : decode cX9_keepBindings 41 = .ok (.iload_n 2, 1) := by decide +kernel
theorem dX9_keepBindings_42 : decode cX9_keepBindings 42 = .ok (.iaload, 1) := by decide +kernel
theorem dX9_keepBindings_43 : decode cX9_keepBindings 43 = .ok (.iastore, 1) := by decide +kernel
theorem dX9_keepBindings_44 : decode cX9_keepBindings 44 = .ok (.iinc 2 1, 3) := by decide +kernel
theorem dX9_keepBindings_47 : decode cX9_keepBindings 47 = .ok (.goto (-29), 3) := by decide +kernel
theorem dX9_keepBindings_50 : decode cX9_keepBindings 50 = .ok (.iinc 1 1, 3) := by decide +kernel
theorem dX9_keepBindings_53 : decode cX9_keepBindings 53 = .ok (.goto (-47), 3) := by decide +kernel
theorem dX9_keepBindings_56 : decode cX9_keepBindings 56 = .ok (.return_, 1) := by decide +kernel
theorem dX9_changedBut_0 : decode cX9_changedBut 0 = .ok (.aload_n 0, 1) := by decide +kernel
theorem dX9_changedBut_1 : decode cX9_changedBut 1 = .ok (.invokevirtual 271, 3) := by decide +kernel
theorem dX9_changedBut_4 : decode cX9_changedBut 4 = .ok (.iconst 0, 1) := by decide +kernel
theorem dX9_changedBut_5 : decode cX9_changedBut 5 = .ok (.istore_n 2, 1) := by decide +kernel
theorem dX9_changedBut_6 : decode cX9_changedBut 6 = .ok (.iconst 0, 1) := by decide +kernel
theorem dX9_changedBut_7 : decode cX9_changedBut 7 = .ok (.istore_n 3, 1) := by decide +kernel
theorem dX9_changedBut_8 : decode cX9_changedBut 8 = .ok (.iload_n 3, 1) := by decide +kernel
theorem dX9_changedBut_9 : decode cX9_changedBut 9 = .ok (.aload_n 0, 1) := by decide +kernel
theorem dX9_changedBut_10 : decode cX9_changedBut 10 = .ok (.getfield 17, 3) := by decide +kernel
theorem dX9_changedBut_13 : decode cX9_changedBut 13 = .ok (.iconst 1, 1) := by decide +kernel
theorem dX9_changedBut_14 : decode cX9_changedBut 14 = .ok (.iaload, 1) := by decide +kernel
theorem dX9_changedBut_15 : decode cX9_changedBut 15 = .ok (.if_icmp .ge 71, 3) := by decide +kernel
theorem dX9_changedBut_18 : decode cX9_changedBut 18 = .ok (.iconst 0, 1) := by decide +kernel
theorem dX9_changedBut_19 : decode cX9_changedBut 19 = .ok (.istore 4, 2) := by decide +kernel
theorem dX9_changedBut_21 : decode cX9_changedBut 21 = .ok (.iload 4, 2) := by decide +kernel
theorem dX9_changedBut_23 : decode cX9_changedBut 23 = .ok (.aload_n 0, 1) := by decide +kernel
theorem dX9_changedBut_24 : decode cX9_changedBut 24 = .ok (.getfield 17, 3) := by decide +kernel
theorem dX9_changedBut_27 : decode cX9_changedBut 27 = .ok (.iconst 2, 1) := by decide +kernel
theorem dX9_changedBut_28 : decode cX9_changedBut 28 = .ok (.iaload, 1) := by decide +kernel
theorem dX9_changedBut_29 : decode cX9_changedBut 29 = .ok (.if_icmp .ge 51, 3) := by decide +kernel
theorem dX9_changedBut_32 : decode cX9_changedBut 32 = .ok (.iload_n 2, 1) := by decide +kernel
theorem dX9_changedBut_33 : decode cX9_changedBut 33 = .ok (.iload_n 3, 1) := by decide +kernel
theorem dX9_changedBut_34 : decode cX9_changedBut 34 = .ok (.iload_n 1, 1) := by decide +kernel
theorem dX9_changedBut_35 : decode cX9_changedBut 35 = .ok (.if_icmp .eq 36, 3) := by decide +kernel
theorem dX9_changedBut_38 : decode cX9_changedBut 38 = .ok (.aload_n 0, 1) := by decide +kernel
theorem dX9_changedBut_39 : decode cX9_changedBut 39 = .ok (.iload_n 3, 1) := by decide +kernel
theorem dX9_changedBut_40 : decode cX9_changedBut 40 = .ok (.invokevirtual 232, 3) := by decide +kernel
theorem dX9_changedBut_43 : decode cX9_changedBut 43 = .ok (.ifCond .eq 28, 3) := by decide +kernel
theorem dX9_changedBut_46 : decode cX9_changedBut 46 = .ok (.aload_n 0, 1) := by decide +kernel
theorem dX9_changedBut_47 : decode cX9_changedBut 47 = .ok (.getfield 53, 3) := by decide +kernel
theorem dX9_changedBut_50 : decode cX9_changedBut 50 = .ok (.iload_n 3, 1) := by decide +kernel
theorem dX9_changedBut_51 : decode cX9_changedBut 51 = .ok (.aaload, 1) := by decide +kernel
theorem dX9_changedBut_52 : decode cX9_changedBut 52 = .ok (.iload 4, 2) := by decide +kernel
theorem dX9_changedBut_54 : decode cX9_changedBut 54 = .ok (.iaload, 1) := by decide +kernel
theorem dX9_changedBut_55 : decode cX9_changedBut 55 = .ok (.aload_n 0, 1) := by decide +kernel
theorem dX9_changedBut_56 : decode cX9_changedBut 56 = .ok (.getfield 50, 3) := by decide +kernel
theorem dX9_changedBut_59 : decode cX9_changedBut 59 = .ok (.iload_n 3, 1) := by decide +kernel
theorem dX9_changedBut_60 : decode cX9_changedBut 60 = .ok (.aaload, 1) := by decide +kernel
theorem dX9_changedBut_61 : decode cX9_changedBut 61 = .ok (.iload 4, 2) := by decide +kernel
theorem dX9_changedBut_63 : decode cX9_changedBut 63 = .ok (.iaload, 1) := by decide +kernel
theorem dX9_changedBut_64 : decode cX9_changedBut 64 = .ok (.if_icmp .eq 7, 3) := by decide +kernel
theorem dX9_changedBut_67 : decode cX9_changedBut 67 = .ok (.iconst 1, 1) := by decide +kernel
theorem dX9_changedBut_68 : decode cX9_changedBut 68 = .ok (.goto 4, 3) := by decide +kernel
theorem dX9_changedBut_71 : decode cX9_changedBut 71 = .ok (.iconst 0, 1) := by decide +kernel
theorem dX9_changedBut_72 : decode cX9_changedBut 72 = .ok (.iadd, 1) := by decide +kernel
theorem dX9_changedBut_73 : decode cX9_changedBut 73 = .ok (.istore_n 2, 1) := by decide +kernel
theorem dX9_changedBut_74 : decode cX9_changedBut 74 = .ok (.iinc 4 1, 3) := by decide +kernel
theorem dX9_changedBut_77 : decode cX9_changedBut 77 = .ok (.goto (-56), 3) := by decide +kernel
theorem dX9_changedBut_80 : decode cX9_changedBut 80 = .ok (.iinc 3 1, 3) := by decide +kernel
theorem dX9_changedBut_83 : decode cX9_changedBut 83 = .ok (.goto (-75), 3) := by decide +kernel
theorem dX9_changedBut_86 : decode cX9_changedBut 86 = .ok (.iload_n 2, 1) := by decide +kernel
theorem dX9_changedBut_87 : decode cX9_changedBut 87 = .ok (.ireturn, 1) := by decide +kernel
theorem dX9_follow_0 : decode cX9_follow 0 = .ok (.aload_n 0, 1) := by decide +kernel
theorem dX9_follow_1 : decode cX9_follow 1 = .ok (.iconst 0, 1) := by decide +kernel
theorem dX9_follow_2 : decode cX9_follow 2 = .ok (.putfield 274, 3) := by decide +kernel
theorem dX9_follow_5 : decode cX9_follow 5 = .ok (.iconst 0, 1) := by decide +kernel
theorem dX9_follow_6 : decode cX9_follow 6 = .ok (.istore_n 3, 1) := by decide +kernel
theorem dX9_follow_7 : decode cX9_follow 7 = .ok (.iload_n 3, 1) := by decide +kernel
theorem dX9_follow_8 : decode cX9_follow 8 = .ok (.bipush 8, 2) := by decide +kernel
theorem dX9_follow_10 : decode cX9_follow 10 = .ok (.if_icmp .ge 16, 3) := by decide +kernel
theorem dX9_follow_13 : decode cX9_follow 13 = .ok (.aload_n 0, 1) := by decide +kernel
theorem dX9_follow_14 : decode cX9_follow 14 = .ok (.getfield 56, 3) := by decide +kernel
theorem dX9_follow_17 : decode cX9_follow 17 = .ok (.iload_n 3, 1) := by decide +kernel
theorem dX9_follow_18 : decode cX9_follow 18 = .ok (.iconst 0, 1) := by decide +kernel
theorem dX9_follow_19 : decode cX9_follow 19 = .ok (.iastore, 1) := by decide +kernel
theorem dX9_follow_20 : decode cX9_follow 20 = .ok (.iinc 3 1, 3) := by decide +kernel
theorem dX9_follow_23 : decode cX9_follow 23 = .ok (.goto (-16), 3) := by decide +kernel
theorem dX9_follow_26 : decode cX9_follow 26 = .ok (.iload_n 1, 1) := by decide +kernel
theorem dX9_follow_27 : decode cX9_follow 27 = .ok (.istore_n 3, 1) := by decide +kernel
theorem dX9_follow_28 : decode cX9_follow 28 = .ok (.iload_n 2, 1) := by decide +kernel
theorem dX9_follow_29 : decode cX9_follow 29 = .ok (.istore 4, 2) := by decide +kernel
theorem dX9_follow_31 : decode cX9_follow 31 = .ok (.aload_n 0, 1) := by decide +kernel
theorem dX9_follow_32 : decode cX9_follow 32 = .ok (.getfield 56, 3) := by decide +kernel
theorem dX9_follow_35 : decode cX9_follow 35 = .ok (.iload_n 3, 1) := by decide +kernel
theorem dX9_follow_36 : decode cX9_follow 36 = .ok (.iaload, 1) := by decide +kernel
theorem dX9_follow_37 : decode cX9_follow 37 = .ok (.iload 4, 2) := by decide +kernel
theorem dX9_follow_39 : decode cX9_follow 39 = .ok (.ishr, 1) := by decide +kernel
theorem dX9_follow_40 : decode cX9_follow 40 = .ok (.iconst 1, 1) := by decide +kernel
theorem dX9_follow_41 : decode cX9_follow 41 = .ok (.iand, 1) := by decide +kernel
theorem dX9_follow_42 : decode cX9_follow 42 = .ok (.iconst 1, 1) := by decide +kernel
theorem dX9_follow_43 : decode cX9_follow 43 = .ok (.if_icmp .ne 6, 3) := by decide +kernel
theorem dX9_follow_46 : decode cX9_follow 46 = .ok (.bipush (-2), 2) := by decide +kernel
theorem dX9_follow_48 : decode cX9_follow 48 = .ok (.ireturn, 1) := by decide +kernel
theorem dX9_follow_49 : decode cX9_follow 49 = .ok (.aload_n 0, 1) := by decide +kernel
theorem dX9_follow_50 : decode cX9_follow 50 = .ok (.getfield 56, 3) := by decide +kernel
theorem dX9_follow_53 : decode cX9_follow 53 = .ok (.iload_n 3, 1) := by decide +kernel
theorem dX9_follow_54 : decode cX9_follow 54 = .ok (.dup2, 1) := by decide +kernel
theorem dX9_follow_55 : decode cX9_follow 55 = .ok (.iaload, 1) := by decide +kernel
theorem dX9_follow_56 : decode cX9_follow 56 = .ok (.iconst 1, 1) := by decide +kernel
theorem dX9_follow_57 : decode cX9_follow 57 = .ok (.iload 4, 2) := by decide +kernel
theorem dX9_follow_59 : decode cX9_follow 59 = .ok (.ishl, 1) := by decide +kernel
theorem dX9_follow_60 : decode cX9_follow 60 = .ok (.ior, 1) := by decide +kernel
theorem dX9_follow_61 : decode cX9_follow 61 = .ok (.iastore, 1) := by decide +kernel
theorem dX9_follow_62 : decode cX9_follow 62 = .ok (.aload_n 0, 1) := by decide +kernel
theorem dX9_follow_63 : decode cX9_follow 63 = .ok (.getfield 50, 3) := by decide +kernel
theorem dX9_follow_66 : decode cX9_follow 66 = .ok (.iload_n 3, 1) := by decide +kernel
theorem dX9_follow_67 : decode cX9_follow 67 = .ok (.aaload, 1) := by decide +kernel
theorem dX9_follow_68 : decode cX9_follow 68 = .ok (.iload 4, 2) := by decide +kernel
theorem dX9_follow_70 : decode cX9_follow 70 = .ok (.iaload, 1) := by decide +kernel
theorem dX9_follow_71 : decode cX9_follow 71 = .ok (.istore 5, 2) := by decide +kernel
theorem dX9_follow_73 : decode cX9_follow 73 = .ok (.iload 5, 2) := by decide +kernel
theorem dX9_follow_75 : decode cX9_follow 75 = .ok (.iconst (-1), 1) := by decide +kernel
theorem dX9_follow_76 : decode cX9_follow 76 = .ok (.if_icmp .ne 5, 3) := by decide +kernel
theorem dX9_follow_79 : decode cX9_follow 79 = .ok (.iconst (-1), 1) := by decide +kernel
theorem dX9_follow_80 : decode cX9_follow 80 = .ok (.ireturn, 1) := by decide +kernel
theorem dX9_follow_81 : decode cX9_follow 81 = .ok (.aload_n 0, 1) := by decide +kernel
theorem dX9_follow_82 : decode cX9_follow 82 = .ok (.dup, 1) := by decide +kernel
theorem dX9_follow_83 : decode cX9_follow 83 = .ok (.getfield 274, 3) := by decide +kernel
theorem dX9_follow_86 : decode cX9_follow 86 = .ok (.iconst 1, 1) := by decide +kernel
theorem dX9_follow_87 : decode cX9_follow 87 = .ok (.iadd, 1) := by decide +kernel
theorem dX9_follow_88 : decode cX9_follow 88 = .ok (.putfield 274, 3) := by decide +kernel
theorem dX9_follow_91 : decode cX9_follow 91 = .ok (.aload_n 0, 1) := by decide +kernel
theorem dX9_follow_92 : decode cX9_follow 92 = .ok (.getfield 17, 3) := by decide +kernel
theorem dX9_follow_95 : decode cX9_follow 95 = .ok (.iload 5, 2) := by decide +kernel
theorem dX9_follow_97 : decode cX9_follow 97 = .ok (.invokestatic 174, 3) := by decide +kernel
theorem dX9_follow_100 : decode cX9_follow 100 = .ok (.bipush 12, 2) := by decide +kernel
theorem dX9_follow_102 : decode cX9_follow 102 = .ok (.iadd, 1) := by decide +kernel
theorem dX9_follow_103 : decode cX9_follow 103 = .ok (.iload 4, 2) := by decide +kernel
theorem dX9_follow_105 : decode cX9_follow 105 = .ok (.iadd, 1) := by decide +kernel
theorem dX9_follow_106 : decode cX9_follow 106 = .ok (.iaload, 1) := by decide +kernel
theorem dX9_follow_107 : decode cX9_follow 107 = .ok (.istore 6, 2) := by decide +kernel
theorem dX9_follow_109 : decode cX9_follow 109 = .ok (.iload 6, 2) := by decide +kernel
theorem dX9_follow_111 : decode cX9_follow 111 = .ok (.ifCond .lt 6, 3) := by decide +kernel
theorem dX9_follow_114 : decode cX9_follow 114 = .ok (.iload 6, 2) := by decide +kernel
theorem dX9_follow_116 : decode cX9_follow 116 = .ok (.ireturn, 1) := by decide +kernel
theorem dX9_follow_117 : decode cX9_follow 117 = .ok (.iload 5, 2) := by decide +kernel
theorem dX9_follow_119 : decode cX9_follow 119 = .ok (.istore_n 3, 1) := by decide +kernel
theorem dX9_follow_120 : decode cX9_follow 120 = .ok (.bipush (-2), 2) := by decide +kernel
theorem dX9_follow_122 : decode cX9_follow 122 = .ok (.iload 6, 2) := by decide +kernel
theorem dX9_follow_124 : decode cX9_follow 124 = .ok (.isub, 1) := by decide +kernel
theorem dX9_follow_125 : decode cX9_follow 125 = .ok (.istore 4, 2) := by decide +kernel
theorem dX9_follow_127 : decode cX9_follow 127 = .ok (.goto (-96), 3) := by decide +kernel
theorem dX9_noLibrary_0 : decode cX9_noLibrary 0 = .ok (.aload_n 0, 1) := by decide +kernel
theorem dX9_noLibrary_1 : decode cX9_noLibrary 1 = .ok (.iload_n 1, 1) := by decide +kernel
theorem dX9_noLibrary_2 : decode cX9_noLibrary 2 = .ok (.iconst 0, 1) := by decide +kernel
theorem dX9_noLibrary_3 : decode cX9_noLibrary 3 = .ok (.aload_n 0, 1) := by decide +kernel
theorem dX9_noLibrary_4 : decode cX9_noLibrary 4 = .ok (.getfield 17, 3) := by decide +kernel
theorem dX9_noLibrary_7 : decode cX9_noLibrary 7 = .ok (.iconst 1, 1) := by decide +kernel
theorem dX9_noLibrary_8 : decode cX9_noLibrary 8 = .ok (.iaload, 1) := by decide +kernel
theorem dX9_noLibrary_9 : decode cX9_noLibrary 9 = .ok (.iconst 1, 1) := by decide +kernel
theorem dX9_noLibrary_10 : decode cX9_noLibrary 10 = .ok (.isub, 1) := by decide +kernel
theorem dX9_noLibrary_11 : decode cX9_noLibrary 11 = .ok (.invokestatic 81, 3) := by decide +kernel
theorem dX9_noLibrary_14 : decode cX9_noLibrary 14 = .ok (.ifCond .ne 7, 3) := by decide +kernel
theorem dX9_noLibrary_17 : decode cX9_noLibrary 17 = .ok (.iconst 1, 1) := by decide +kernel
theorem dX9_noLibrary_18 : decode cX9_noLibrary 18 = .ok (.goto 4, 3) := by decide +kernel
theorem dX9_noLibrary_21 : decode cX9_noLibrary 21 = .ok (.iconst 0, 1) := by decide +kernel
theorem dX9_noLibrary_22 : decode cX9_noLibrary 22 = .ok (.iconst 1, 1) := by decide +kernel
theorem dX9_noLibrary_23 : decode cX9_noLibrary 23 = .ok (.invokevirtual 216, 3) := by decide +kernel
theorem dX9_noLibrary_26 : decode cX9_noLibrary 26 = .ok (.ireturn, 1) := by decide +kernel
theorem dX9_noName_0 : decode cX9_noName 0 = .ok (.aload_n 0, 1) := by decide +kernel
theorem dX9_noName_1 : decode cX9_noName 1 = .ok (.iload_n 1, 1) := by decide +kernel
theorem dX9_noName_2 : decode cX9_noName 2 = .ok (.iconst 0, 1) := by decide +kernel
theorem dX9_noName_3 : decode cX9_noName 3 = .ok (.aload_n 0, 1) := by decide +kernel
theorem dX9_noName_4 : decode cX9_noName 4 = .ok (.getfield 17, 3) := by decide +kernel
theorem dX9_noName_7 : decode cX9_noName 7 = .ok (.iconst 2, 1) := by decide +kernel
theorem dX9_noName_8 : decode cX9_noName 8 = .ok (.iaload, 1) := by decide +kernel
theorem dX9_noName_9 : decode cX9_noName 9 = .ok (.iconst 1, 1) := by decide +kernel
theorem dX9_noName_10 : decode cX9_noName 10 = .ok (.isub, 1) := by decide +kernel
theorem dX9_noName_11 : decode cX9_noName 11 = .ok (.invokestatic 81, 3) := by decide +kernel
theorem dX9_noName_14 : decode cX9_noName 14 = .ok (.ifCond .ne 7, 3) := by decide +kernel
theorem dX9_noName_17 : decode cX9_noName 17 = .ok (.iconst 1, 1) := by decide +kernel
theorem dX9_noName_18 : decode cX9_noName 18 = .ok (.goto 4, 3) := by decide +kernel
theorem dX9_noName_21 : decode cX9_noName 21 = .ok (.iconst 0, 1) := by decide +kernel
theorem dX9_noName_22 : decode cX9_noName 22 = .ok (.iconst 1, 1) := by decide +kernel
theorem dX9_noName_23 : decode cX9_noName 23 = .ok (.invokevirtual 216, 3) := by decide +kernel
theorem dX9_noName_26 : decode cX9_noName 26 = .ok (.ireturn, 1) := by decide +kernel
theorem dX9_isMissing_0 : decode cX9_isMissing 0 = .ok (.aload_n 0, 1) := by decide +kernel
theorem dX9_isMissing_1 : decode cX9_isMissing 1 = .ok (.iload_n 1, 1) := by decide +kernel
theorem dX9_isMissing_2 : decode cX9_isMissing 2 = .ok (.invokevirtual 277, 3) := by decide +kernel
theorem dX9_isMissing_5 : decode cX9_isMissing 5 = .ok (.ifCond .ne 11, 3) := by decide +kernel
theorem dX9_isMissing_8 : decode cX9_isMissing 8 = .ok (.aload_n 0, 1) := by decide +kernel
theorem dX9_isMissing_9 : decode cX9_isMissing 9 = .ok (.iload_n 2, 1) := by decide +kernel
theorem dX9_isMissing_10 : decode cX9_isMissing 10 = .ok (.invokevirtual 280, 3) := by decide +kernel
theorem dX9_isMissing_13 : decode cX9_isMissing 13 = .ok (.ifCond .eq 5, 3) := by decide +kernel
theorem dX9_isMissing_16 : decode cX9_isMissing 16 = .ok (.iconst 1, 1) := by decide +kernel
theorem dX9_isMissing_17 : decode cX9_isMissing 17 = .ok (.ireturn, 1) := by decide +kernel
theorem dX9_isMissing_18 : decode cX9_isMissing 18 = .ok (.aload_n 0, 1) := by decide +kernel
theorem dX9_isMissing_19 : decode cX9_isMissing 19 = .ok (.invokevirtual 271, 3) := by decide +kernel
theorem dX9_isMissing_22 : decode cX9_isMissing 22 = .ok (.iconst 0, 1) := by decide +kernel
theorem dX9_isMissing_23 : decode cX9_isMissing 23 = .ok (.ireturn, 1) := by decide +kernel
theorem dX9_libraries_0 : decode cX9_libraries 0 = .ok (.aload_n 0, 1) := by decide +kernel
theorem dX9_libraries_1 : decode cX9_libraries 1 = .ok (.iconst 0, 1) := by decide +kernel
theorem dX9_libraries_2 : decode cX9_libraries 2 = .ok (.putfield 59, 3) := by decide +kernel
theorem dX9_libraries_5 : decode cX9_libraries 5 = .ok (.aload_n 0, 1) := by decide +kernel
theorem dX9_libraries_6 : decode cX9_libraries 6 = .ok (.getfield 17, 3) := by decide +kernel
theorem dX9_libraries_9 : decode cX9_libraries 9 = .ok (.iconst 1, 1) := by decide +kernel
theorem dX9_libraries_10 : decode cX9_libraries 10 = .ok (.iaload, 1) := by decide +kernel
theorem dX9_libraries_11 : decode cX9_libraries 11 = .ok (.ireturn, 1) := by decide +kernel
theorem dX9_names_0 : decode cX9_names 0 = .ok (.aload_n 0, 1) := by decide +kernel
theorem dX9_names_1 : decode cX9_names 1 = .ok (.iconst 0, 1) := by decide +kernel
theorem dX9_names_2 : decode cX9_names 2 = .ok (.putfield 59, 3) := by decide +kernel
theorem dX9_names_5 : decode cX9_names 5 = .ok (.aload_n 0, 1) := by decide +kernel
theorem dX9_names_6 : decode cX9_names 6 = .ok (.getfield 17, 3) := by decide +kernel
theorem dX9_names_9 : decode cX9_names 9 = .ok (.iconst 2, 1) := by decide +kernel
theorem dX9_names_10 : decode cX9_names 10 = .ok (.iaload, 1) := by decide +kernel
theorem dX9_names_11 : decode cX9_names 11 = .ok (.ireturn, 1) := by decide +kernel
theorem dX9_share_0 : decode cX9_share 0 = .ok (.aload_n 0, 1) := by decide +kernel
theorem dX9_share_1 : decode cX9_share 1 = .ok (.iconst 0, 1) := by decide +kernel
theorem dX9_share_2 : decode cX9_share 2 = .ok (.putfield 59, 3) := by decide +kernel
theorem dX9_share_5 : decode cX9_share 5 = .ok (.aload_n 0, 1) := by decide +kernel
theorem dX9_share_6 : decode cX9_share 6 = .ok (.getfield 17, 3) := by decide +kernel
theorem dX9_share_9 : decode cX9_share 9 = .ok (.iconst 0, 1) := by decide +kernel
theorem dX9_share_10 : decode cX9_share 10 = .ok (.iaload, 1) := by decide +kernel
theorem dX9_share_11 : decode cX9_share 11 = .ok (.ireturn, 1) := by decide +kernel
theorem dX9_told_0 : decode cX9_told 0 = .ok (.iload_n 2, 1) := by decide +kernel
theorem dX9_told_1 : decode cX9_told 1 = .ok (.iconst 2, 1) := by decide +kernel
theorem dX9_told_2 : decode cX9_told 2 = .ok (.if_icmp .ge 17, 3) := by decide +kernel
theorem dX9_told_5 : decode cX9_told 5 = .ok (.aload_n 0, 1) := by decide +kernel
theorem dX9_told_6 : decode cX9_told 6 = .ok (.getfield 17, 3) := by decide +kernel
theorem dX9_told_9 : decode cX9_told 9 = .ok (.iload_n 1, 1) := by decide +kernel
theorem dX9_told_10 : decode cX9_told 10 = .ok (.invokestatic 174, 3) := by decide +kernel
theorem dX9_told_13 : decode cX9_told 13 = .ok (.iload_n 2, 1) := by decide +kernel
theorem dX9_told_14 : decode cX9_told 14 = .ok (.iadd, 1) := by decide +kernel
theorem dX9_told_15 : decode cX9_told 15 = .ok (.iaload, 1) := by decide +kernel
theorem dX9_told_16 : decode cX9_told 16 = .ok (.goto 53, 3) := by decide +kernel
theorem dX9_told_19 : decode cX9_told 19 = .ok (.iload_n 2, 1) := by decide +kernel
theorem dX9_told_20 : decode cX9_told 20 = .ok (.iconst 2, 1) := by decide +kernel
theorem dX9_told_21 : decode cX9_told 21 = .ok (.if_icmp .ne 11, 3) := by decide +kernel
theorem dX9_told_24 : decode cX9_told 24 = .ok (.aload_n 0, 1) := by decide +kernel
theorem dX9_told_25 : decode cX9_told 25 = .ok (.iload_n 1, 1) := by decide +kernel
theorem dX9_told_26 : decode cX9_told 26 = .ok (.invokevirtual 243, 3) := by decide +kernel
theorem dX9_told_29 : decode cX9_told 29 = .ok (.goto 40, 3) := by decide +kernel
theorem dX9_told_32 : decode cX9_told 32 = .ok (.iload_n 2, 1) := by decide +kernel
theorem dX9_told_33 : decode cX9_told 33 = .ok (.iconst 3, 1) := by decide +kernel
theorem dX9_told_34 : decode cX9_told 34 = .ok (.if_icmp .ne 11, 3) := by decide +kernel
theorem dX9_told_37 : decode cX9_told 37 = .ok (.aload_n 0, 1) := by decide +kernel
theorem dX9_told_38 : decode cX9_told 38 = .ok (.iload_n 1, 1) := by decide +kernel
theorem dX9_told_39 : decode cX9_told 39 = .ok (.invokevirtual 246, 3) := by decide +kernel
theorem dX9_told_42 : decode cX9_told 42 = .ok (.goto 27, 3) := by decide +kernel
theorem dX9_told_45 : decode cX9_told 45 = .ok (.iload_n 2, 1) := by decide +kernel
theorem dX9_told_46 : decode cX9_told 46 = .ok (.iconst 4, 1) := by decide +kernel
theorem dX9_told_47 : decode cX9_told 47 = .ok (.if_icmp .ne 17, 3) := by decide +kernel
theorem dX9_told_50 : decode cX9_told 50 = .ok (.aload_n 0, 1) := by decide +kernel
theorem dX9_told_51 : decode cX9_told 51 = .ok (.getfield 17, 3) := by decide +kernel
theorem dX9_told_54 : decode cX9_told 54 = .ok (.iload_n 1, 1) := by decide +kernel
theorem dX9_told_55 : decode cX9_told 55 = .ok (.invokestatic 174, 3) := by decide +kernel
theorem dX9_told_58 : decode cX9_told 58 = .ok (.iconst 3, 1) := by decide +kernel
theorem dX9_told_59 : decode cX9_told 59 = .ok (.iadd, 1) := by decide +kernel
theorem dX9_told_60 : decode cX9_told 60 = .ok (.iaload, 1) := by decide +kernel
theorem dX9_told_61 : decode cX9_told 61 = .ok (.goto 8, 3) := by decide +kernel
theorem dX9_told_64 : decode cX9_told 64 = .ok (.aload_n 0, 1) := by decide +kernel
theorem dX9_told_65 : decode cX9_told 65 = .ok (.iload_n 1, 1) := by decide +kernel
theorem dX9_told_66 : decode cX9_told 66 = .ok (.invokevirtual 265, 3) := by decide +kernel
theorem dX9_told_69 : decode cX9_told 69 = .ok (.ireturn, 1) := by decide +kernel
theorem dX9_library_0 : decode cX9_library 0 = .ok (.aload_n 0, 1) := by decide +kernel
theorem dX9_library_1 : decode cX9_library 1 = .ok (.iconst 0, 1) := by decide +kernel
theorem dX9_library_2 : decode cX9_library 2 = .ok (.putfield 59, 3) := by decide +kernel
theorem dX9_library_5 : decode cX9_library 5 = .ok (.aload_n 0, 1) := by decide +kernel
theorem dX9_library_6 : decode cX9_library 6 = .ok (.iload_n 1, 1) := by decide +kernel
theorem dX9_library_7 : decode cX9_library 7 = .ok (.invokevirtual 277, 3) := by decide +kernel
theorem dX9_library_10 : decode cX9_library 10 = .ok (.ifCond .ne 25, 3) := by decide +kernel
theorem dX9_library_13 : decode cX9_library 13 = .ok (.aload_n 0, 1) := by decide +kernel
theorem dX9_library_14 : decode cX9_library 14 = .ok (.iload_n 2, 1) := by decide +kernel
theorem dX9_library_15 : decode cX9_library 15 = .ok (.iconst 0, 1) := by decide +kernel
theorem dX9_library_16 : decode cX9_library 16 = .ok (.iconst 5, 1) := by decide +kernel
theorem dX9_library_17 : decode cX9_library 17 = .ok (.invokestatic 81, 3) := by decide +kernel
theorem dX9_library_20 : decode cX9_library 20 = .ok (.ifCond .ne 7, 3) := by decide +kernel
theorem dX9_library_23 : decode cX9_library 23 = .ok (.iconst 1, 1) := by decide +kernel
theorem dX9_library_24 : decode cX9_library 24 = .ok (.goto 4, 3) := by decide +kernel
theorem dX9_library_27 : decode cX9_library 27 = .ok (.iconst 0, 1) := by decide +kernel
theorem dX9_library_28 : decode cX9_library 28 = .ok (.iconst 2, 1) := by decide +kernel
theorem dX9_library_29 : decode cX9_library 29 = .ok (.invokevirtual 216, 3) := by decide +kernel
theorem dX9_library_32 : decode cX9_library 32 = .ok (.ifCond .eq 7, 3) := by decide +kernel
theorem dX9_library_35 : decode cX9_library 35 = .ok (.iconst 0, 1) := by decide +kernel
theorem dX9_library_36 : decode cX9_library 36 = .ok (.goto 9, 3) := by decide +kernel
theorem dX9_library_39 : decode cX9_library 39 = .ok (.aload_n 0, 1) := by decide +kernel
theorem dX9_library_40 : decode cX9_library 40 = .ok (.iload_n 1, 1) := by decide +kernel
theorem dX9_library_41 : decode cX9_library 41 = .ok (.iload_n 2, 1) := by decide +kernel
theorem dX9_library_42 : decode cX9_library 42 = .ok (.invokevirtual 283, 3) := by decide +kernel
theorem dX9_library_45 : decode cX9_library 45 = .ok (.ireturn, 1) := by decide +kernel
theorem dX9_offer_0 : decode cX9_offer 0 = .ok (.aload_n 0, 1) := by decide +kernel
theorem dX9_offer_1 : decode cX9_offer 1 = .ok (.iconst 0, 1) := by decide +kernel
theorem dX9_offer_2 : decode cX9_offer 2 = .ok (.putfield 59, 3) := by decide +kernel
theorem dX9_offer_5 : decode cX9_offer 5 = .ok (.aload_n 0, 1) := by decide +kernel
theorem dX9_offer_6 : decode cX9_offer 6 = .ok (.iload_n 1, 1) := by decide +kernel
theorem dX9_offer_7 : decode cX9_offer 7 = .ok (.invokevirtual 277, 3) := by decide +kernel
theorem dX9_offer_10 : decode cX9_offer 10 = .ok (.ifCond .ne 11, 3) := by decide +kernel
theorem dX9_offer_13 : decode cX9_offer 13 = .ok (.aload_n 0, 1) := by decide +kernel
theorem dX9_offer_14 : decode cX9_offer 14 = .ok (.iload_n 2, 1) := by decide +kernel
theorem dX9_offer_15 : decode cX9_offer 15 = .ok (.invokevirtual 280, 3) := by decide +kernel
theorem dX9_offer_18 : decode cX9_offer 18 = .ok (.ifCond .eq 7, 3) := by decide +kernel
theorem dX9_offer_21 : decode cX9_offer 21 = .ok (.iconst 0, 1) := by decide +kernel
theorem dX9_offer_22 : decode cX9_offer 22 = .ok (.goto 17, 3) := by decide +kernel
theorem dX9_offer_25 : decode cX9_offer 25 = .ok (.aload_n 0, 1) := by decide +kernel
theorem dX9_offer_26 : decode cX9_offer 26 = .ok (.getfield 17, 3) := by decide +kernel
theorem dX9_offer_29 : decode cX9_offer 29 = .ok (.iload_n 1, 1) := by decide +kernel
theorem dX9_offer_30 : decode cX9_offer 30 = .ok (.invokestatic 174, 3) := by decide +kernel
theorem dX9_offer_33 : decode cX9_offer 33 = .ok (.bipush 12, 2) := by decide +kernel
theorem dX9_offer_35 : decode cX9_offer 35 = .ok (.iadd, 1) := by decide +kernel
theorem dX9_offer_36 : decode cX9_offer 36 = .ok (.iload_n 2, 1) := by decide +kernel
theorem dX9_offer_37 : decode cX9_offer 37 = .ok (.iadd, 1) := by decide +kernel
theorem dX9_offer_38 : decode cX9_offer 38 = .ok (.iaload, 1) := by decide +kernel
theorem dX9_offer_39 : decode cX9_offer 39 = .ok (.ireturn, 1) := by decide +kernel
theorem dX9_candidates_0 : decode cX9_candidates 0 = .ok (.aload_n 0, 1) := by decide +kernel
theorem dX9_candidates_1 : decode cX9_candidates 1 = .ok (.iconst 0, 1) := by decide +kernel
theorem dX9_candidates_2 : decode cX9_candidates 2 = .ok (.putfield 59, 3) := by decide +kernel
theorem dX9_candidates_5 : decode cX9_candidates 5 = .ok (.aload_n 0, 1) := by decide +kernel
theorem dX9_candidates_6 : decode cX9_candidates 6 = .ok (.iload_n 1, 1) := by decide +kernel
theorem dX9_candidates_7 : decode cX9_candidates 7 = .ok (.invokevirtual 280, 3) := by decide +kernel
theorem dX9_candidates_10 : decode cX9_candidates 10 = .ok (.ifCond .eq 5, 3) := by decide +kernel
theorem dX9_candidates_13 : decode cX9_candidates 13 = .ok (.iconst 0, 1) := by decide +kernel
theorem dX9_candidates_14 : decode cX9_candidates 14 = .ok (.ireturn, 1) := by decide +kernel
theorem dX9_candidates_15 : decode cX9_candidates 15 = .ok (.iconst 0, 1) := by decide +kernel
theorem dX9_candidates_16 : decode cX9_candidates 16 = .ok (.istore_n 2, 1) := by decide +kernel
theorem dX9_candidates_17 : decode cX9_candidates 17 = .ok (.iconst 0, 1) := by decide +kernel
theorem dX9_candidates_18 : decode cX9_candidates 18 = .ok (.istore_n 3, 1) := by decide +kernel
theorem dX9_candidates_19 : decode cX9_candidates 19 = .ok (.iload_n 3, 1) := by decide +kernel
theorem dX9_candidates_20 : decode cX9_candidates 20 = .ok (.aload_n 0, 1) := by decide +kernel
theorem dX9_candidates_21 : decode cX9_candidates 21 = .ok (.getfield 17, 3) := by decide +kernel
theorem dX9_candidates_24 : decode cX9_candidates 24 = .ok (.iconst 1, 1) := by decide +kernel
theorem dX9_candidates_25 : decode cX9_candidates 25 = .ok (.iaload, 1) := by decide +kernel
theorem dX9_candidates_26 : decode cX9_candidates 26 = .ok (.if_icmp .ge 26, 3) := by decide +kernel
theorem dX9_candidates_29 : decode cX9_candidates 29 = .ok (.iload_n 2, 1) := by decide +kernel
theorem dX9_candidates_30 : decode cX9_candidates 30 = .ok (.aload_n 0, 1) := by decide +kernel
theorem dX9_candidates_31 : decode cX9_candidates 31 = .ok (.iload_n 3, 1) := by decide +kernel
theorem dX9_candidates_32 : decode cX9_candidates 32 = .ok (.iload_n 1, 1) := by decide +kernel
theorem dX9_candidates_33 : decode cX9_candidates 33 = .ok (.invokevirtual 258, 3) := by decide +kernel
theorem dX9_candidates_36 : decode cX9_candidates 36 = .ok (.ifCond .eq 7, 3) := by decide +kernel
theorem dX9_candidates_39 : decode cX9_candidates 39 = .ok (.iconst 1, 1) := by decide +kernel
theorem dX9_candidates_40 : decode cX9_candidates 40 = .ok (.goto 4, 3) := by decide +kernel
theorem dX9_candidates_43 : decode cX9_candidates 43 = .ok (.iconst 0, 1) := by decide +kernel
theorem dX9_candidates_44 : decode cX9_candidates 44 = .ok (.iadd, 1) := by decide +kernel
theorem dX9_candidates_45 : decode cX9_candidates 45 = .ok (.istore_n 2, 1) := by decide +kernel
theorem dX9_candidates_46 : decode cX9_candidates 46 = .ok (.iinc 3 1, 3) := by decide +kernel
theorem dX9_candidates_49 : decode cX9_candidates 49 = .ok (.goto (-30), 3) := by decide +kernel
theorem dX9_candidates_52 : decode cX9_candidates 52 = .ok (.iload_n 2, 1) := by decide +kernel
theorem dX9_candidates_53 : decode cX9_candidates 53 = .ok (.ireturn, 1) := by decide +kernel
theorem dX9_vote_0 : decode cX9_vote 0 = .ok (.aload_n 0, 1) := by decide +kernel
theorem dX9_vote_1 : decode cX9_vote 1 = .ok (.iconst 0, 1) := by decide +kernel
theorem dX9_vote_2 : decode cX9_vote 2 = .ok (.putfield 59, 3) := by decide +kernel
theorem dX9_vote_5 : decode cX9_vote 5 = .ok (.aload_n 0, 1) := by decide +kernel
theorem dX9_vote_6 : decode cX9_vote 6 = .ok (.iload_n 1, 1) := by decide +kernel
theorem dX9_vote_7 : decode cX9_vote 7 = .ok (.invokevirtual 277, 3) := by decide +kernel
theorem dX9_vote_10 : decode cX9_vote 10 = .ok (.ifCond .ne 11, 3) := by decide +kernel
theorem dX9_vote_13 : decode cX9_vote 13 = .ok (.aload_n 0, 1) := by decide +kernel
theorem dX9_vote_14 : decode cX9_vote 14 = .ok (.iload_n 2, 1) := by decide +kernel
theorem dX9_vote_15 : decode cX9_vote 15 = .ok (.invokevirtual 280, 3) := by decide +kernel
theorem dX9_vote_18 : decode cX9_vote 18 = .ok (.ifCond .eq 7, 3) := by decide +kernel
theorem dX9_vote_21 : decode cX9_vote 21 = .ok (.iconst 0, 1) := by decide +kernel
theorem dX9_vote_22 : decode cX9_vote 22 = .ok (.goto 9, 3) := by decide +kernel
theorem dX9_vote_25 : decode cX9_vote 25 = .ok (.aload_n 0, 1) := by decide +kernel
theorem dX9_vote_26 : decode cX9_vote 26 = .ok (.iload_n 1, 1) := by decide +kernel
theorem dX9_vote_27 : decode cX9_vote 27 = .ok (.iload_n 2, 1) := by decide +kernel
theorem dX9_vote_28 : decode cX9_vote 28 = .ok (.invokevirtual 262, 3) := by decide +kernel
theorem dX9_vote_31 : decode cX9_vote 31 = .ok (.ireturn, 1) := by decide +kernel
theorem dX9_support_0 : decode cX9_support 0 = .ok (.aload_n 0, 1) := by decide +kernel
theorem dX9_support_1 : decode cX9_support 1 = .ok (.iconst 0, 1) := by decide +kernel
theorem dX9_support_2 : decode cX9_support 2 = .ok (.putfield 59, 3) := by decide +kernel
theorem dX9_support_5 : decode cX9_support 5 = .ok (.aload_n 0, 1) := by decide +kernel
theorem dX9_support_6 : decode cX9_support 6 = .ok (.iload_n 1, 1) := by decide +kernel
theorem dX9_support_7 : decode cX9_support 7 = .ok (.iload_n 2, 1) := by decide +kernel
theorem dX9_support_8 : decode cX9_support 8 = .ok (.invokevirtual 286, 3) := by decide +kernel
theorem dX9_support_11 : decode cX9_support 11 = .ok (.ifCond .eq 7, 3) := by decide +kernel
theorem dX9_support_14 : decode cX9_support 14 = .ok (.iconst 0, 1) := by decide +kernel
theorem dX9_support_15 : decode cX9_support 15 = .ok (.goto 24, 3) := by decide +kernel
theorem dX9_support_18 : decode cX9_support 18 = .ok (.aload_n 0, 1) := by decide +kernel
theorem dX9_support_19 : decode cX9_support 19 = .ok (.iload_n 1, 1) := by decide +kernel
theorem dX9_support_20 : decode cX9_support 20 = .ok (.iload_n 2, 1) := by decide +kernel
theorem dX9_support_21 : decode cX9_support 21 = .ok (.invokevirtual 258, 3) := by decide +kernel
theorem dX9_support_24 : decode cX9_support 24 = .ok (.ifCond .eq 14, 3) := by decide +kernel
theorem dX9_support_27 : decode cX9_support 27 = .ok (.aload_n 0, 1) := by decide +kernel
theorem dX9_support_28 : decode cX9_support 28 = .ok (.getfield 47, 3) := by decide +kernel
theorem dX9_support_31 : decode cX9_support 31 = .ok (.iload_n 1, 1) := by decide +kernel
theorem dX9_support_32 : decode cX9_support 32 = .ok (.aaload, 1) := by decide +kernel
theorem dX9_support_33 : decode cX9_support 33 = .ok (.iload_n 2, 1) := by decide +kernel
theorem dX9_support_34 : decode cX9_support 34 = .ok (.iaload, 1) := by decide +kernel
theorem dX9_support_35 : decode cX9_support 35 = .ok (.goto 4, 3) := by decide +kernel
theorem dX9_support_38 : decode cX9_support 38 = .ok (.iconst (-1), 1) := by decide +kernel
theorem dX9_support_39 : decode cX9_support 39 = .ok (.ireturn, 1) := by decide +kernel
theorem dX9_winner_0 : decode cX9_winner 0 = .ok (.aload_n 0, 1) := by decide +kernel
theorem dX9_winner_1 : decode cX9_winner 1 = .ok (.iconst 0, 1) := by decide +kernel
theorem dX9_winner_2 : decode cX9_winner 2 = .ok (.putfield 59, 3) := by decide +kernel
theorem dX9_winner_5 : decode cX9_winner 5 = .ok (.aload_n 0, 1) := by decide +kernel
theorem dX9_winner_6 : decode cX9_winner 6 = .ok (.iload_n 1, 1) := by decide +kernel
theorem dX9_winner_7 : decode cX9_winner 7 = .ok (.invokevirtual 280, 3) := by decide +kernel
theorem dX9_winner_10 : decode cX9_winner 10 = .ok (.ifCond .eq 5, 3) := by decide +kernel
theorem dX9_winner_13 : decode cX9_winner 13 = .ok (.iconst 0, 1) := by decide +kernel
theorem dX9_winner_14 : decode cX9_winner 14 = .ok (.ireturn, 1) := by decide +kernel
theorem dX9_winner_15 : decode cX9_winner 15 = .ok (.aload_n 0, 1) := by decide +kernel
theorem dX9_winner_16 : decode cX9_winner 16 = .ok (.invokevirtual 271, 3) := by decide +kernel
theorem dX9_winner_19 : decode cX9_winner 19 = .ok (.aload_n 0, 1) := by decide +kernel
theorem dX9_winner_20 : decode cX9_winner 20 = .ok (.getfield 44, 3) := by decide +kernel
theorem dX9_winner_23 : decode cX9_winner 23 = .ok (.iload_n 1, 1) := by decide +kernel
theorem dX9_winner_24 : decode cX9_winner 24 = .ok (.iaload, 1) := by decide +kernel
theorem dX9_winner_25 : decode cX9_winner 25 = .ok (.ireturn, 1) := by decide +kernel
theorem dX9_margin_0 : decode cX9_margin 0 = .ok (.aload_n 0, 1) := by decide +kernel
theorem dX9_margin_1 : decode cX9_margin 1 = .ok (.iconst 0, 1) := by decide +kernel
theorem dX9_margin_2 : decode cX9_margin 2 = .ok (.putfield 59, 3) := by decide +kernel
theorem dX9_margin_5 : decode cX9_margin 5 = .ok (.aload_n 0, 1) := by decide +kernel
theorem dX9_margin_6 : decode cX9_margin 6 = .ok (.iload_n 1, 1) := by decide +kernel
theorem dX9_margin_7 : decode cX9_margin 7 = .ok (.invokevirtual 280, 3) := by decide +kernel
theorem dX9_margin_10 : decode cX9_margin 10 = .ok (.ifCond .eq 5, 3) := by decide +kernel
theorem dX9_margin_13 : decode cX9_margin 13 = .ok (.iconst 0, 1) := by decide +kernel
theorem dX9_margin_14 : decode cX9_margin 14 = .ok (.ireturn, 1) := by decide +kernel
theorem dX9_margin_15 : decode cX9_margin 15 = .ok (.aload_n 0, 1) := by decide +kernel
theorem dX9_margin_16 : decode cX9_margin 16 = .ok (.invokevirtual 271, 3) := by decide +kernel
theorem dX9_margin_19 : decode cX9_margin 19 = .ok (.aload_n 0, 1) := by decide +kernel
theorem dX9_margin_20 : decode cX9_margin 20 = .ok (.getfield 44, 3) := by decide +kernel
theorem dX9_margin_23 : decode cX9_margin 23 = .ok (.iload_n 1, 1) := by decide +kernel
theorem dX9_margin_24 : decode cX9_margin 24 = .ok (.iaload, 1) := by decide +kernel
theorem dX9_margin_25 : decode cX9_margin 25 = .ok (.istore_n 2, 1) := by decide +kernel
theorem dX9_margin_26 : decode cX9_margin 26 = .ok (.iconst 0, 1) := by decide +kernel
theorem dX9_margin_27 : decode cX9_margin 27 = .ok (.istore_n 3, 1) := by decide +kernel
theorem dX9_margin_28 : decode cX9_margin 28 = .ok (.iload_n 2, 1) := by decide +kernel
theorem dX9_margin_29 : decode cX9_margin 29 = .ok (.iconst (-1), 1) := by decide +kernel
theorem dX9_margin_30 : decode cX9_margin 30 = .ok (.if_icmp .ne 5, 3) := by decide +kernel
theorem dX9_margin_33 : decode cX9_margin 33 = .ok (.iconst (-1), 1) := by decide +kernel
theorem dX9_margin_34 : decode cX9_margin 34 = .ok (.ireturn, 1) := by decide +kernel
theorem dX9_margin_35 : decode cX9_margin 35 = .ok (.iconst 0, 1) := by decide +kernel
theorem dX9_margin_36 : decode cX9_margin 36 = .ok (.istore 4, 2) := by decide +kernel
theorem dX9_margin_38 : decode cX9_margin 38 = .ok (.iload 4, 2) := by decide +kernel
theorem dX9_margin_40 : decode cX9_margin 40 = .ok (.aload_n 0, 1) := by decide +kernel
theorem dX9_margin_41 : decode cX9_margin 41 = .ok (.getfield 17, 3) := by decide +kernel
theorem dX9_margin_44 : decode cX9_margin 44 = .ok (.iconst 1, 1) := by decide +kernel
theorem dX9_margin_45 : decode cX9_margin 45 = .ok (.iaload, 1) := by decide +kernel
theorem dX9_margin_46 : decode cX9_margin 46 = .ok (.if_icmp .ge 48, 3) := by decide +kernel
theorem dX9_margin_49 : decode cX9_margin 49 = .ok (.iload 4, 2) := by decide +kernel
theorem dX9_margin_51 : decode cX9_margin 51 = .ok (.iload_n 2, 1) := by decide +kernel
theorem dX9_margin_52 : decode cX9_margin 52 = .ok (.if_icmp .eq 36, 3) := by decide +kernel
theorem dX9_margin_55 : decode cX9_margin 55 = .ok (.aload_n 0, 1) := by decide +kernel
theorem dX9_margin_56 : decode cX9_margin 56 = .ok (.iload 4, 2) := by decide +kernel
theorem dX9_margin_58 : decode cX9_margin 58 = .ok (.iload_n 1, 1) := by decide +kernel
theorem dX9_margin_59 : decode cX9_margin 59 = .ok (.invokevirtual 258, 3) := by decide +kernel
theorem dX9_margin_62 : decode cX9_margin 62 = .ok (.ifCond .eq 26, 3) := by decide +kernel
theorem dX9_margin_65 : decode cX9_margin 65 = .ok (.aload_n 0, 1) := by decide +kernel
theorem dX9_margin_66 : decode cX9_margin 66 = .ok (.getfield 47, 3) := by decide +kernel
theorem dX9_margin_69 : decode cX9_margin 69 = .ok (.iload 4, 2) := by decide +kernel
theorem dX9_margin_71 : decode cX9_margin 71 = .ok (.aaload, 1) := by decide +kernel
theorem dX9_margin_72 : decode cX9_margin 72 = .ok (.iload_n 1, 1) := by decide +kernel
theorem dX9_margin_73 : decode cX9_margin 73 = .ok (.iaload, 1) := by decide +kernel
theorem dX9_margin_74 : decode cX9_margin 74 = .ok (.iload_n 3, 1) := by decide +kernel
theorem dX9_margin_75 : decode cX9_margin 75 = .ok (.if_icmp .le 13, 3) := by decide +kernel
theorem dX9_margin_78 : decode cX9_margin 78 = .ok (.aload_n 0, 1) := by decide +kernel
theorem dX9_margin_79 : decode cX9_margin 79 = .ok (.getfield 47, 3) := by decide +kernel
theorem dX9_margin_82 : decode cX9_margin 82 = .ok (.iload 4, 2) := by decide +kernel
theorem dX9_margin_84 : decode cX9_margin 84 = .ok (.aaload, 1) := by decide +kernel
theorem dX9_margin_85 : decode cX9_margin 85 = .ok (.iload_n 1, 1) := by decide +kernel
theorem dX9_margin_86 : decode cX9_margin 86 = .ok (.iaload, 1) := by decide +kernel
theorem dX9_margin_87 : decode cX9_margin 87 = .ok (.istore_n 3, 1) := by decide +kernel
theorem dX9_margin_88 : decode cX9_margin 88 = .ok (.iinc 4 1, 3) := by decide +kernel
theorem dX9_margin_91 : decode cX9_margin 91 = .ok (.goto (-53), 3) := by decide +kernel
theorem dX9_margin_94 : decode cX9_margin 94 = .ok (.aload_n 0, 1) := by decide +kernel
theorem dX9_margin_95 : decode cX9_margin 95 = .ok (.getfield 47, 3) := by decide +kernel
theorem dX9_margin_98 : decode cX9_margin 98 = .ok (.iload_n 2, 1) := by decide +kernel
theorem dX9_margin_99 : decode cX9_margin 99 = .ok (.aaload, 1) := by decide +kernel
theorem dX9_margin_100 : decode cX9_margin 100 = .ok (.iload_n 1, 1) := by decide +kernel
theorem dX9_margin_101 : decode cX9_margin 101 = .ok (.iaload, 1) := by decide +kernel
theorem dX9_margin_102 : decode cX9_margin 102 = .ok (.iload_n 3, 1) := by decide +kernel
theorem dX9_margin_103 : decode cX9_margin 103 = .ok (.isub, 1) := by decide +kernel
theorem dX9_margin_104 : decode cX9_margin 104 = .ok (.ireturn, 1) := by decide +kernel
theorem dX9_binding_0 : decode cX9_binding 0 = .ok (.aload_n 0, 1) := by decide +kernel
theorem dX9_binding_1 : decode cX9_binding 1 = .ok (.iconst 0, 1) := by decide +kernel
theorem dX9_binding_2 : decode cX9_binding 2 = .ok (.putfield 59, 3) := by decide +kernel
theorem dX9_binding_5 : decode cX9_binding 5 = .ok (.aload_n 0, 1) := by decide +kernel
theorem dX9_binding_6 : decode cX9_binding 6 = .ok (.iload_n 1, 1) := by decide +kernel
theorem dX9_binding_7 : decode cX9_binding 7 = .ok (.iload_n 2, 1) := by decide +kernel
theorem dX9_binding_8 : decode cX9_binding 8 = .ok (.invokevirtual 286, 3) := by decide +kernel
theorem dX9_binding_11 : decode cX9_binding 11 = .ok (.ifCond .eq 7, 3) := by decide +kernel
theorem dX9_binding_14 : decode cX9_binding 14 = .ok (.iconst 0, 1) := by decide +kernel
theorem dX9_binding_15 : decode cX9_binding 15 = .ok (.goto 11, 3) := by decide +kernel
theorem dX9_binding_18 : decode cX9_binding 18 = .ok (.aload_n 0, 1) := by decide +kernel
theorem dX9_binding_19 : decode cX9_binding 19 = .ok (.getfield 50, 3) := by decide +kernel
theorem dX9_binding_22 : decode cX9_binding 22 = .ok (.iload_n 1, 1) := by decide +kernel
theorem dX9_binding_23 : decode cX9_binding 23 = .ok (.aaload, 1) := by decide +kernel
theorem dX9_binding_24 : decode cX9_binding 24 = .ok (.iload_n 2, 1) := by decide +kernel
theorem dX9_binding_25 : decode cX9_binding 25 = .ok (.iaload, 1) := by decide +kernel
theorem dX9_binding_26 : decode cX9_binding 26 = .ok (.ireturn, 1) := by decide +kernel
theorem dX9_minority_0 : decode cX9_minority 0 = .ok (.aload_n 0, 1) := by decide +kernel
theorem dX9_minority_1 : decode cX9_minority 1 = .ok (.iconst 0, 1) := by decide +kernel
theorem dX9_minority_2 : decode cX9_minority 2 = .ok (.putfield 59, 3) := by decide +kernel
theorem dX9_minority_5 : decode cX9_minority 5 = .ok (.aload_n 0, 1) := by decide +kernel
theorem dX9_minority_6 : decode cX9_minority 6 = .ok (.iload_n 1, 1) := by decide +kernel
theorem dX9_minority_7 : decode cX9_minority 7 = .ok (.invokevirtual 280, 3) := by decide +kernel
theorem dX9_minority_10 : decode cX9_minority 10 = .ok (.ifCond .eq 5, 3) := by decide +kernel
theorem dX9_minority_13 : decode cX9_minority 13 = .ok (.iconst 0, 1) := by decide +kernel
theorem dX9_minority_14 : decode cX9_minority 14 = .ok (.ireturn, 1) := by decide +kernel
theorem dX9_minority_15 : decode cX9_minority 15 = .ok (.aload_n 0, 1) := by decide +kernel
theorem dX9_minority_16 : decode cX9_minority 16 = .ok (.invokevirtual 271, 3) := by decide +kernel
theorem dX9_minority_19 : decode cX9_minority 19 = .ok (.iconst 0, 1) := by decide +kernel
theorem dX9_minority_20 : decode cX9_minority 20 = .ok (.istore_n 2, 1) := by decide +kernel
theorem dX9_minority_21 : decode cX9_minority 21 = .ok (.iconst 0, 1) := by decide +kernel
theorem dX9_minority_22 : decode cX9_minority 22 = .ok (.istore_n 3, 1) := by decide +kernel
theorem dX9_minority_23 : decode cX9_minority 23 = .ok (.iload_n 3, 1) := by decide +kernel
theorem dX9_minority_24 : decode cX9_minority 24 = .ok (.aload_n 0, 1) := by decide +kernel
theorem dX9_minority_25 : decode cX9_minority 25 = .ok (.getfield 17, 3) := by decide +kernel
theorem dX9_minority_28 : decode cX9_minority 28 = .ok (.iconst 1, 1) := by decide +kernel
theorem dX9_minority_29 : decode cX9_minority 29 = .ok (.iaload, 1) := by decide +kernel
theorem dX9_minority_30 : decode cX9_minority 30 = .ok (.if_icmp .ge 42, 3) := by decide +kernel
theorem dX9_minority_33 : decode cX9_minority 33 = .ok (.iload_n 2, 1) := by decide +kernel
theorem dX9_minority_34 : decode cX9_minority 34 = .ok (.aload_n 0, 1) := by decide +kernel
theorem dX9_minority_35 : decode cX9_minority 35 = .ok (.iload_n 3, 1) := by decide +kernel
theorem dX9_minority_36 : decode cX9_minority 36 = .ok (.invokevirtual 232, 3) := by decide +kernel
theorem dX9_minority_39 : decode cX9_minority 39 = .ok (.ifCond .eq 24, 3) := by decide +kernel
theorem dX9_minority_42 : decode cX9_minority 42 = .ok (.aload_n 0, 1) := by decide +kernel
theorem dX9_minority_43 : decode cX9_minority 43 = .ok (.getfield 50, 3) := by decide +kernel
theorem dX9_minority_46 : decode cX9_minority 46 = .ok (.iload_n 3, 1) := by decide +kernel
theorem dX9_minority_47 : decode cX9_minority 47 = .ok (.aaload, 1) := by decide +kernel
theorem dX9_minority_48 : decode cX9_minority 48 = .ok (.iload_n 1, 1) := by decide +kernel
theorem dX9_minority_49 : decode cX9_minority 49 = .ok (.iaload, 1) := by decide +kernel
theorem dX9_minority_50 : decode cX9_minority 50 = .ok (.aload_n 0, 1) := by decide +kernel
theorem dX9_minority_51 : decode cX9_minority 51 = .ok (.getfield 44, 3) := by decide +kernel
theorem dX9_minority_54 : decode cX9_minority 54 = .ok (.iload_n 1, 1) := by decide +kernel
theorem dX9_minority_55 : decode cX9_minority 55 = .ok (.iaload, 1) := by decide +kernel
theorem dX9_minority_56 : decode cX9_minority 56 = .ok (.if_icmp .eq 7, 3) := by decide +kernel
theorem dX9_minority_59 : decode cX9_minority 59 = .ok (.iconst 1, 1) := by decide +kernel
theorem dX9_minority_60 : decode cX9_minority 60 = .ok (.goto 4, 3) := by decide +kernel
theorem dX9_minority_63 : decode cX9_minority 63 = .ok (.iconst 0, 1) := by decide +kernel
theorem dX9_minority_64 : decode cX9_minority 64 = .ok (.iadd, 1) := by decide +kernel
theorem dX9_minority_65 : decode cX9_minority 65 = .ok (.istore_n 2, 1) := by decide +kernel
theorem dX9_minority_66 : decode cX9_minority 66 = .ok (.iinc 3 1, 3) := by decide +kernel
theorem dX9_minority_69 : decode cX9_minority 69 = .ok (.goto (-46), 3) := by decide +kernel
theorem dX9_minority_72 : decode cX9_minority 72 = .ok (.iload_n 2, 1) := by decide +kernel
theorem dX9_minority_73 : decode cX9_minority 73 = .ok (.ireturn, 1) := by decide +kernel
theorem dX9_call_0 : decode cX9_call 0 = .ok (.aload_n 0, 1) := by decide +kernel
theorem dX9_call_1 : decode cX9_call 1 = .ok (.iconst 0, 1) := by decide +kernel
theorem dX9_call_2 : decode cX9_call 2 = .ok (.putfield 59, 3) := by decide +kernel
theorem dX9_call_5 : decode cX9_call 5 = .ok (.aload_n 0, 1) := by decide +kernel
theorem dX9_call_6 : decode cX9_call 6 = .ok (.iload_n 1, 1) := by decide +kernel
theorem dX9_call_7 : decode cX9_call 7 = .ok (.iload_n 2, 1) := by decide +kernel
theorem dX9_call_8 : decode cX9_call 8 = .ok (.invokevirtual 286, 3) := by decide +kernel
theorem dX9_call_11 : decode cX9_call 11 = .ok (.ifCond .eq 7, 3) := by decide +kernel
theorem dX9_call_14 : decode cX9_call 14 = .ok (.iconst 0, 1) := by decide +kernel
theorem dX9_call_15 : decode cX9_call 15 = .ok (.goto 9, 3) := by decide +kernel
theorem dX9_call_18 : decode cX9_call 18 = .ok (.aload_n 0, 1) := by decide +kernel
theorem dX9_call_19 : decode cX9_call 19 = .ok (.iload_n 1, 1) := by decide +kernel
theorem dX9_call_20 : decode cX9_call 20 = .ok (.iload_n 2, 1) := by decide +kernel
theorem dX9_call_21 : decode cX9_call 21 = .ok (.invokevirtual 289, 3) := by decide +kernel
theorem dX9_call_24 : decode cX9_call 24 = .ok (.ireturn, 1) := by decide +kernel
theorem dX9_steps_0 : decode cX9_steps 0 = .ok (.aload_n 0, 1) := by decide +kernel
theorem dX9_steps_1 : decode cX9_steps 1 = .ok (.iconst 0, 1) := by decide +kernel
theorem dX9_steps_2 : decode cX9_steps 2 = .ok (.putfield 59, 3) := by decide +kernel
theorem dX9_steps_5 : decode cX9_steps 5 = .ok (.aload_n 0, 1) := by decide +kernel
theorem dX9_steps_6 : decode cX9_steps 6 = .ok (.iload_n 1, 1) := by decide +kernel
theorem dX9_steps_7 : decode cX9_steps 7 = .ok (.iload_n 2, 1) := by decide +kernel
theorem dX9_steps_8 : decode cX9_steps 8 = .ok (.invokevirtual 286, 3) := by decide +kernel
theorem dX9_steps_11 : decode cX9_steps 11 = .ok (.ifCond .eq 5, 3) := by decide +kernel
theorem dX9_steps_14 : decode cX9_steps 14 = .ok (.iconst 0, 1) := by decide +kernel
theorem dX9_steps_15 : decode cX9_steps 15 = .ok (.ireturn, 1) := by decide +kernel
theorem dX9_steps_16 : decode cX9_steps 16 = .ok (.aload_n 0, 1) := by decide +kernel
theorem dX9_steps_17 : decode cX9_steps 17 = .ok (.iload_n 1, 1) := by decide +kernel
theorem dX9_steps_18 : decode cX9_steps 18 = .ok (.iload_n 2, 1) := by decide +kernel
theorem dX9_steps_19 : decode cX9_steps 19 = .ok (.invokevirtual 289, 3) := by decide +kernel
theorem dX9_steps_22 : decode cX9_steps 22 = .ok (.istore_n 3, 1) := by decide +kernel
theorem dX9_steps_23 : decode cX9_steps 23 = .ok (.aload_n 0, 1) := by decide +kernel
theorem dX9_steps_24 : decode cX9_steps 24 = .ok (.getfield 274, 3) := by decide +kernel
theorem dX9_steps_27 : decode cX9_steps 27 = .ok (.ireturn, 1) := by decide +kernel
theorem dX9_users_0 : decode cX9_users 0 = .ok (.aload_n 0, 1) := by decide +kernel
theorem dX9_users_1 : decode cX9_users 1 = .ok (.iconst 0, 1) := by decide +kernel
theorem dX9_users_2 : decode cX9_users 2 = .ok (.putfield 59, 3) := by decide +kernel
theorem dX9_users_5 : decode cX9_users 5 = .ok (.aload_n 0, 1) := by decide +kernel
theorem dX9_users_6 : decode cX9_users 6 = .ok (.iload_n 1, 1) := by decide +kernel
theorem dX9_users_7 : decode cX9_users 7 = .ok (.iload_n 2, 1) := by decide +kernel
theorem dX9_users_8 : decode cX9_users 8 = .ok (.invokevirtual 286, 3) := by decide +kernel
theorem dX9_users_11 : decode cX9_users 11 = .ok (.ifCond .eq 5, 3) := by decide +kernel
theorem dX9_users_14 : decode cX9_users 14 = .ok (.iconst 0, 1) := by decide +kernel
theorem dX9_users_15 : decode cX9_users 15 = .ok (.ireturn, 1) := by decide +kernel
theorem dX9_users_16 : decode cX9_users 16 = .ok (.iconst 0, 1) := by decide +kernel
theorem dX9_users_17 : decode cX9_users 17 = .ok (.istore_n 3, 1) := by decide +kernel
theorem dX9_users_18 : decode cX9_users 18 = .ok (.iconst 0, 1) := by decide +kernel
theorem dX9_users_19 : decode cX9_users 19 = .ok (.istore 4, 2) := by decide +kernel
theorem dX9_users_21 : decode cX9_users 21 = .ok (.iload 4, 2) := by decide +kernel
theorem dX9_users_23 : decode cX9_users 23 = .ok (.aload_n 0, 1) := by decide +kernel
theorem dX9_users_24 : decode cX9_users 24 = .ok (.getfield 17, 3) := by decide +kernel
theorem dX9_users_27 : decode cX9_users 27 = .ok (.iconst 1, 1) := by decide +kernel
theorem dX9_users_28 : decode cX9_users 28 = .ok (.iaload, 1) := by decide +kernel
theorem dX9_users_29 : decode cX9_users 29 = .ok (.if_icmp .ge 39, 3) := by decide +kernel
theorem dX9_users_32 : decode cX9_users 32 = .ok (.iload_n 3, 1) := by decide +kernel
theorem dX9_users_33 : decode cX9_users 33 = .ok (.aload_n 0, 1) := by decide +kernel
theorem dX9_users_34 : decode cX9_users 34 = .ok (.iload 4, 2) := by decide +kernel
theorem dX9_users_36 : decode cX9_users 36 = .ok (.invokevirtual 232, 3) := by decide +kernel
theorem dX9_users_39 : decode cX9_users 39 = .ok (.ifCond .eq 20, 3) := by decide +kernel
theorem dX9_users_42 : decode cX9_users 42 = .ok (.aload_n 0, 1) := by decide +kernel
theorem dX9_users_43 : decode cX9_users 43 = .ok (.getfield 50, 3) := by decide +kernel
theorem dX9_users_46 : decode cX9_users 46 = .ok (.iload 4, 2) := by decide +kernel
theorem dX9_users_48 : decode cX9_users 48 = .ok (.aaload, 1) := by decide +kernel
theorem dX9_users_49 : decode cX9_users 49 = .ok (.iload_n 2, 1) := by decide +kernel
theorem dX9_users_50 : decode cX9_users 50 = .ok (.iaload, 1) := by decide +kernel
theorem dX9_users_51 : decode cX9_users 51 = .ok (.iload_n 1, 1) := by decide +kernel
theorem dX9_users_52 : decode cX9_users 52 = .ok (.if_icmp .ne 7, 3) := by decide +kernel
theorem dX9_users_55 : decode cX9_users 55 = .ok (.iconst 1, 1) := by decide +kernel
theorem dX9_users_56 : decode cX9_users 56 = .ok (.goto 4, 3) := by decide +kernel
theorem dX9_users_59 : decode cX9_users 59 = .ok (.iconst 0, 1) := by decide +kernel
theorem dX9_users_60 : decode cX9_users 60 = .ok (.iadd, 1) := by decide +kernel
theorem dX9_users_61 : decode cX9_users 61 = .ok (.istore_n 3, 1) := by decide +kernel
theorem dX9_users_62 : decode cX9_users 62 = .ok (.iinc 4 1, 3) := by decide +kernel
theorem dX9_users_65 : decode cX9_users 65 = .ok (.goto (-44), 3) := by decide +kernel
theorem dX9_users_68 : decode cX9_users 68 = .ok (.iload_n 3, 1) := by decide +kernel
theorem dX9_users_69 : decode cX9_users 69 = .ok (.ireturn, 1) := by decide +kernel
theorem dX9_remember_0 : decode cX9_remember 0 = .ok (.aload_n 0, 1) := by decide +kernel
theorem dX9_remember_1 : decode cX9_remember 1 = .ok (.getfield 292, 3) := by decide +kernel
theorem dX9_remember_4 : decode cX9_remember 4 = .ok (.bipush 8, 2) := by decide +kernel
theorem dX9_remember_6 : decode cX9_remember 6 = .ok (.if_icmp .ne 44, 3) := by decide +kernel
theorem dX9_remember_9 : decode cX9_remember 9 = .ok (.iconst 1, 1) := by decide +kernel
theorem dX9_remember_10 : decode cX9_remember 10 = .ok (.istore_n 1, 1) := by decide +kernel
theorem dX9_remember_11 : decode cX9_remember 11 = .ok (.iload_n 1, 1) := by decide +kernel
theorem dX9_remember_12 : decode cX9_remember 12 = .ok (.bipush 8, 2) := by decide +kernel
theorem dX9_remember_14 : decode cX9_remember 14 = .ok (.if_icmp .ge 26, 3) := by decide +kernel
theorem dX9_remember_17 : decode cX9_remember 17 = .ok (.aload_n 0, 1) := by decide +kernel
theorem dX9_remember_18 : decode cX9_remember 18 = .ok (.getfield 25, 3) := by decide +kernel
theorem dX9_remember_21 : decode cX9_remember 21 = .ok (.iload_n 1, 1) := by decide +kernel
theorem dX9_remember_22 : decode cX9_remember 22 = .ok (.aaload, 1) := by decide +kernel
theorem dX9_remember_23 : decode cX9_remember 23 = .ok (.aload_n 0, 1) := by decide +kernel
theorem dX9_remember_24 : decode cX9_remember 24 = .ok (.getfield 25, 3) := by decide +kernel
theorem dX9_remember_27 : decode cX9_remember 27 = .ok (.iload_n 1, 1) := by decide +kernel
theorem dX9_remember_28 : decode cX9_remember 28 = .ok (.iconst 1, 1) := by decide +kernel
theorem dX9_remember_29 : decode cX9_remember 29 = .ok (.isub, 1) := by decide +kernel
theorem dX9_remember_30 : decode cX9_remember 30 = .ok (.aaload, 1) := by decide +kernel
theorem dX9_remember_31 : decode cX9_remember 31 = .ok (.invokestatic 228, 3) := by decide +kernel
theorem dX9_remember_34 : decode cX9_remember 34 = .ok (.iinc 1 1, 3) := by decide +kernel
theorem dX9_remember_37 : decode cX9_remember 37 = .ok (.goto (-26), 3) := by decide +kernel
theorem dX9_remember_40 : decode cX9_remember 40 = .ok (.aload_n 0, 1) := by decide +kernel
theorem dX9_remember_41 : decode cX9_remember 41 = .ok (.dup, 1) := by decide +kernel
theorem dX9_remember_42 : decode cX9_remember 42 = .ok (.getfield 292, 3) := by decide +kernel
theorem dX9_remember_45 : decode cX9_remember 45 = .ok (.iconst 1, 1) := by decide +kernel
theorem dX9_remember_46 : decode cX9_remember 46 = .ok (.isub, 1) := by decide +kernel
theorem dX9_remember_47 : decode cX9_remember 47 = .ok (.putfield 292, 3) := by decide +kernel
theorem dX9_remember_50 : decode cX9_remember 50 = .ok (.aload_n 0, 1) := by decide +kernel
theorem dX9_remember_51 : decode cX9_remember 51 = .ok (.getfield 17, 3) := by decide +kernel
theorem dX9_remember_54 : decode cX9_remember 54 = .ok (.aload_n 0, 1) := by decide +kernel
theorem dX9_remember_55 : decode cX9_remember 55 = .ok (.getfield 25, 3) := by decide +kernel
theorem dX9_remember_58 : decode cX9_remember 58 = .ok (.aload_n 0, 1) := by decide +kernel
theorem dX9_remember_59 : decode cX9_remember 59 = .ok (.getfield 292, 3) := by decide +kernel
theorem dX9_remember_62 : decode cX9_remember 62 = .ok (.aaload, 1) := by decide +kernel
theorem dX9_remember_63 : decode cX9_remember 63 = .ok (.invokestatic 228, 3) := by decide +kernel
theorem dX9_remember_66 : decode cX9_remember 66 = .ok (.aload_n 0, 1) := by decide +kernel
theorem dX9_remember_67 : decode cX9_remember 67 = .ok (.dup, 1) := by decide +kernel
theorem dX9_remember_68 : decode cX9_remember 68 = .ok (.getfield 292, 3) := by decide +kernel
theorem dX9_remember_71 : decode cX9_remember 71 = .ok (.iconst 1, 1) := by decide +kernel
theorem dX9_remember_72 : decode cX9_remember 72 = .ok (.iadd, 1) := by decide +kernel
theorem dX9_remember_73 : decode cX9_remember 73 = .ok (.putfield 292, 3) := by decide +kernel
theorem dX9_remember_76 : decode cX9_remember 76 = .ok (.return_, 1) := by decide +kernel
theorem dX9_unload_0 : decode cX9_unload 0 = .ok (.aload_n 0, 1) := by decide +kernel
theorem dX9_unload_1 : decode cX9_unload 1 = .ok (.iconst 0, 1) := by decide +kernel
theorem dX9_unload_2 : decode cX9_unload 2 = .ok (.putfield 59, 3) := by decide +kernel
theorem dX9_unload_5 : decode cX9_unload 5 = .ok (.aload_n 0, 1) := by decide +kernel
theorem dX9_unload_6 : decode cX9_unload 6 = .ok (.iload_n 1, 1) := by decide +kernel
theorem dX9_unload_7 : decode cX9_unload 7 = .ok (.invokevirtual 277, 3) := by decide +kernel
theorem dX9_unload_10 : decode cX9_unload 10 = .ok (.ifCond .ne 24, 3) := by decide +kernel
theorem dX9_unload_13 : decode cX9_unload 13 = .ok (.aload_n 0, 1) := by decide +kernel
theorem dX9_unload_14 : decode cX9_unload 14 = .ok (.aload_n 0, 1) := by decide +kernel
theorem dX9_unload_15 : decode cX9_unload 15 = .ok (.iload_n 1, 1) := by decide +kernel
theorem dX9_unload_16 : decode cX9_unload 16 = .ok (.invokevirtual 232, 3) := by decide +kernel
theorem dX9_unload_19 : decode cX9_unload 19 = .ok (.ifCond .ne 7, 3) := by decide +kernel
theorem dX9_unload_22 : decode cX9_unload 22 = .ok (.iconst 1, 1) := by decide +kernel
theorem dX9_unload_23 : decode cX9_unload 23 = .ok (.goto 4, 3) := by decide +kernel
theorem dX9_unload_26 : decode cX9_unload 26 = .ok (.iconst 0, 1) := by decide +kernel
theorem dX9_unload_27 : decode cX9_unload 27 = .ok (.iconst 2, 1) := by decide +kernel
theorem dX9_unload_28 : decode cX9_unload 28 = .ok (.invokevirtual 216, 3) := by decide +kernel
theorem dX9_unload_31 : decode cX9_unload 31 = .ok (.ifCond .eq 5, 3) := by decide +kernel
theorem dX9_unload_34 : decode cX9_unload 34 = .ok (.iconst 0, 1) := by decide +kernel
theorem dX9_unload_35 : decode cX9_unload 35 = .ok (.ireturn, 1) := by decide +kernel
theorem dX9_unload_36 : decode cX9_unload 36 = .ok (.aload_n 0, 1) := by decide +kernel
theorem dX9_unload_37 : decode cX9_unload 37 = .ok (.invokevirtual 225, 3) := by decide +kernel
theorem dX9_unload_40 : decode cX9_unload 40 = .ok (.aload_n 0, 1) := by decide +kernel
theorem dX9_unload_41 : decode cX9_unload 41 = .ok (.invokevirtual 295, 3) := by decide +kernel
theorem dX9_unload_44 : decode cX9_unload 44 = .ok (.aload_n 0, 1) := by decide +kernel
theorem dX9_unload_45 : decode cX9_unload 45 = .ok (.getfield 17, 3) := by decide +kernel
theorem dX9_unload_48 : decode cX9_unload 48 = .ok (.iload_n 1, 1) := by decide +kernel
theorem dX9_unload_49 : decode cX9_unload 49 = .ok (.invokestatic 174, 3) := by decide +kernel
theorem dX9_unload_52 : decode cX9_unload 52 = .ok (.iconst 2, 1) := by decide +kernel
theorem dX9_unload_53 : decode cX9_unload 53 = .ok (.iadd, 1) := by decide +kernel
theorem dX9_unload_54 : decode cX9_unload 54 = .ok (.iconst 0, 1) := by decide +kernel
theorem dX9_unload_55 : decode cX9_unload 55 = .ok (.iastore, 1) := by decide +kernel
theorem dX9_unload_56 : decode cX9_unload 56 = .ok (.aload_n 0, 1) := by decide +kernel
theorem dX9_unload_57 : decode cX9_unload 57 = .ok (.iconst (-1), 1) := by decide +kernel
theorem dX9_unload_58 : decode cX9_unload 58 = .ok (.invokevirtual 298, 3) := by decide +kernel
theorem dX9_unload_61 : decode cX9_unload 61 = .ok (.ireturn, 1) := by decide +kernel
theorem dX9_reload_0 : decode cX9_reload 0 = .ok (.aload_n 0, 1) := by decide +kernel
theorem dX9_reload_1 : decode cX9_reload 1 = .ok (.iconst 0, 1) := by decide +kernel
theorem dX9_reload_2 : decode cX9_reload 2 = .ok (.putfield 59, 3) := by decide +kernel
theorem dX9_reload_5 : decode cX9_reload 5 = .ok (.aload_n 0, 1) := by decide +kernel
theorem dX9_reload_6 : decode cX9_reload 6 = .ok (.iload_n 1, 1) := by decide +kernel
theorem dX9_reload_7 : decode cX9_reload 7 = .ok (.invokevirtual 277, 3) := by decide +kernel
theorem dX9_reload_10 : decode cX9_reload 10 = .ok (.ifCond .ne 16, 3) := by decide +kernel
theorem dX9_reload_13 : decode cX9_reload 13 = .ok (.aload_n 0, 1) := by decide +kernel
theorem dX9_reload_14 : decode cX9_reload 14 = .ok (.aload_n 0, 1) := by decide +kernel
theorem dX9_reload_15 : decode cX9_reload 15 = .ok (.iload_n 1, 1) := by decide +kernel
theorem dX9_reload_16 : decode cX9_reload 16 = .ok (.invokevirtual 232, 3) := by decide +kernel
theorem dX9_reload_19 : decode cX9_reload 19 = .ok (.iconst 2, 1) := by decide +kernel
theorem dX9_reload_20 : decode cX9_reload 20 = .ok (.invokevirtual 216, 3) := by decide +kernel
theorem dX9_reload_23 : decode cX9_reload 23 = .ok (.ifCond .eq 5, 3) := by decide +kernel
theorem dX9_reload_26 : decode cX9_reload 26 = .ok (.iconst 0, 1) := by decide +kernel
theorem dX9_reload_27 : decode cX9_reload 27 = .ok (.ireturn, 1) := by decide +kernel
theorem dX9_reload_28 : decode cX9_reload 28 = .ok (.aload_n 0, 1) := by decide +kernel
theorem dX9_reload_29 : decode cX9_reload 29 = .ok (.invokevirtual 225, 3) := by decide +kernel
theorem dX9_reload_32 : decode cX9_reload 32 = .ok (.aload_n 0, 1) := by decide +kernel
theorem dX9_reload_33 : decode cX9_reload 33 = .ok (.invokevirtual 295, 3) := by decide +kernel
theorem dX9_reload_36 : decode cX9_reload 36 = .ok (.aload_n 0, 1) := by decide +kernel
theorem dX9_reload_37 : decode cX9_reload 37 = .ok (.getfield 17, 3) := by decide +kernel
theorem dX9_reload_40 : decode cX9_reload 40 = .ok (.iconst 3, 1) := by decide +kernel
theorem dX9_reload_41 : decode cX9_reload 41 = .ok (.dup2, 1) := by decide +kernel
theorem dX9_reload_42 : decode cX9_reload 42 = .ok (.iaload, 1) := by decide +kernel
theorem dX9_reload_43 : decode cX9_reload 43 = .ok (.iconst 1, 1) := by decide +kernel
theorem dX9_reload_44 : decode cX9_reload 44 = .ok (.iadd, 1) := by decide +kernel
theorem dX9_reload_45 : decode cX9_reload 45 = .ok (.iastore, 1) := by decide +kernel
theorem dX9_reload_46 : decode cX9_reload 46 = .ok (.aload_n 0, 1) := by decide +kernel
theorem dX9_reload_47 : decode cX9_reload 47 = .ok (.getfield 17, 3) := by decide +kernel
theorem dX9_reload_50 : decode cX9_reload 50 = .ok (.iload_n 1, 1) := by decide +kernel
theorem dX9_reload_51 : decode cX9_reload 51 = .ok (.invokestatic 174, 3) := by decide +kernel
theorem dX9_reload_54 : decode cX9_reload 54 = .ok (.iconst 2, 1) := by decide +kernel
theorem dX9_reload_55 : decode cX9_reload 55 = .ok (.iadd, 1) := by decide +kernel
theorem dX9_reload_56 : decode cX9_reload 56 = .ok (.aload_n 0, 1) := by decide +kernel
theorem dX9_reload_57 : decode cX9_reload 57 = .ok (.getfield 17, 3) := by decide +kernel
theorem dX9_reload_60 : decode cX9_reload 60 = .ok (.iconst 3, 1) := by decide +kernel
theorem dX9_reload_61 : decode cX9_reload 61 = .ok (.iaload, 1) := by decide +kernel
theorem dX9_reload_62 : decode cX9_reload 62 = .ok (.iastore, 1) := by decide +kernel
theorem dX9_reload_63 : decode cX9_reload 63 = .ok (.aload_n 0, 1) := by decide +kernel
theorem dX9_reload_64 : decode cX9_reload 64 = .ok (.iload_n 1, 1) := by decide +kernel
theorem dX9_reload_65 : decode cX9_reload 65 = .ok (.invokevirtual 298, 3) := by decide +kernel
theorem dX9_reload_68 : decode cX9_reload 68 = .ok (.ireturn, 1) := by decide +kernel
theorem dX9_put_0 : decode cX9_put 0 = .ok (.aload_n 0, 1) := by decide +kernel
theorem dX9_put_1 : decode cX9_put 1 = .ok (.invokevirtual 225, 3) := by decide +kernel
theorem dX9_put_4 : decode cX9_put 4 = .ok (.aload_n 0, 1) := by decide +kernel
theorem dX9_put_5 : decode cX9_put 5 = .ok (.getfield 17, 3) := by decide +kernel
theorem dX9_put_8 : decode cX9_put 8 = .ok (.iload_n 1, 1) := by decide +kernel
theorem dX9_put_9 : decode cX9_put 9 = .ok (.invokestatic 174, 3) := by decide +kernel
theorem dX9_put_12 : decode cX9_put 12 = .ok (.bipush 12, 2) := by decide +kernel
theorem dX9_put_14 : decode cX9_put 14 = .ok (.iadd, 1) := by decide +kernel
theorem dX9_put_15 : decode cX9_put 15 = .ok (.iload_n 2, 1) := by decide +kernel
theorem dX9_put_16 : decode cX9_put 16 = .ok (.iadd, 1) := by decide +kernel
theorem dX9_put_17 : decode cX9_put 17 = .ok (.iload_n 3, 1) := by decide +kernel
theorem dX9_put_18 : decode cX9_put 18 = .ok (.iastore, 1) := by decide +kernel
theorem dX9_put_19 : decode cX9_put 19 = .ok (.aload_n 0, 1) := by decide +kernel
theorem dX9_put_20 : decode cX9_put 20 = .ok (.invokevirtual 271, 3) := by decide +kernel
theorem dX9_put_23 : decode cX9_put 23 = .ok (.aload_n 0, 1) := by decide +kernel
theorem dX9_put_24 : decode cX9_put 24 = .ok (.getfield 44, 3) := by decide +kernel
theorem dX9_put_27 : decode cX9_put 27 = .ok (.iload_n 2, 1) := by decide +kernel
theorem dX9_put_28 : decode cX9_put 28 = .ok (.iaload, 1) := by decide +kernel
theorem dX9_put_29 : decode cX9_put 29 = .ok (.ireturn, 1) := by decide +kernel
theorem dX9_offerValue_0 : decode cX9_offerValue 0 = .ok (.aload_n 0, 1) := by decide +kernel
theorem dX9_offerValue_1 : decode cX9_offerValue 1 = .ok (.iconst 0, 1) := by decide +kernel
theorem dX9_offerValue_2 : decode cX9_offerValue 2 = .ok (.putfield 59, 3) := by decide +kernel
theorem dX9_offerValue_5 : decode cX9_offerValue 5 = .ok (.aload_n 0, 1) := by decide +kernel
theorem dX9_offerValue_6 : decode cX9_offerValue 6 = .ok (.iload_n 1, 1) := by decide +kernel
theorem dX9_offerValue_7 : decode cX9_offerValue 7 = .ok (.invokevirtual 277, 3) := by decide +kernel
theorem dX9_offerValue_10 : decode cX9_offerValue 10 = .ok (.ifCond .ne 35, 3) := by decide +kernel
theorem dX9_offerValue_13 : decode cX9_offerValue 13 = .ok (.aload_n 0, 1) := by decide +kernel
theorem dX9_offerValue_14 : decode cX9_offerValue 14 = .ok (.iload_n 2, 1) := by decide +kernel
theorem dX9_offerValue_15 : decode cX9_offerValue 15 = .ok (.invokevirtual 280, 3) := by decide +kernel
theorem dX9_offerValue_18 : decode cX9_offerValue 18 = .ok (.ifCond .ne 27, 3) := by decide +kernel
theorem dX9_offerValue_21 : decode cX9_offerValue 21 = .ok (.aload_n 0, 1) := by decide +kernel
theorem dX9_offerValue_22 : decode cX9_offerValue 22 = .ok (.iload_n 3, 1) := by decide +kernel
theorem dX9_offerValue_23 : decode cX9_offerValue 23 = .ok (.iconst 0, 1) := by decide +kernel
theorem dX9_offerValue_24 : decode cX9_offerValue 24 = .ok (.sipush 9999, 3) := by decide +kernel
theorem dX9_offerValue_27 : decode cX9_offerValue 27 = .ok (.invokestatic 81, 3) := by decide +kernel
theorem dX9_offerValue_30 : decode cX9_offerValue 30 = .ok (.ifCond .ne 7, 3) := by decide +kernel
theorem dX9_offerValue_33 : decode cX9_offerValue 33 = .ok (.iconst 1, 1) := by decide +kernel
theorem dX9_offerValue_34 : decode cX9_offerValue 34 = .ok (.goto 4, 3) := by decide +kernel
theorem dX9_offerValue_37 : decode cX9_offerValue 37 = .ok (.iconst 0, 1) := by decide +kernel
theorem dX9_offerValue_38 : decode cX9_offerValue 38 = .ok (.iconst 2, 1) := by decide +kernel
theorem dX9_offerValue_39 : decode cX9_offerValue 39 = .ok (.invokevirtual 216, 3) := by decide +kernel
theorem dX9_offerValue_42 : decode cX9_offerValue 42 = .ok (.ifCond .eq 7, 3) := by decide +kernel
theorem dX9_offerValue_45 : decode cX9_offerValue 45 = .ok (.iconst 0, 1) := by decide +kernel
theorem dX9_offerValue_46 : decode cX9_offerValue 46 = .ok (.goto 10, 3) := by decide +kernel
theorem dX9_offerValue_49 : decode cX9_offerValue 49 = .ok (.aload_n 0, 1) := by decide +kernel
theorem dX9_offerValue_50 : decode cX9_offerValue 50 = .ok (.iload_n 1, 1) := by decide +kernel
theorem dX9_offerValue_51 : decode cX9_offerValue 51 = .ok (.iload_n 2, 1) := by decide +kernel
theorem dX9_offerValue_52 : decode cX9_offerValue 52 = .ok (.iload_n 3, 1) := by decide +kernel
theorem dX9_offerValue_53 : decode cX9_offerValue 53 = .ok (.invokevirtual 301, 3) := by decide +kernel
theorem dX9_offerValue_56 : decode cX9_offerValue 56 = .ok (.ireturn, 1) := by decide +kernel
theorem dX9_offerForward_0 : decode cX9_offerForward 0 = .ok (.aload_n 0, 1) := by decide +kernel
theorem dX9_offerForward_1 : decode cX9_offerForward 1 = .ok (.iconst 0, 1) := by decide +kernel
theorem dX9_offerForward_2 : decode cX9_offerForward 2 = .ok (.putfield 59, 3) := by decide +kernel
theorem dX9_offerForward_5 : decode cX9_offerForward 5 = .ok (.aload_n 0, 1) := by decide +kernel
theorem dX9_offerForward_6 : decode cX9_offerForward 6 = .ok (.iload_n 1, 1) := by decide +kernel
theorem dX9_offerForward_7 : decode cX9_offerForward 7 = .ok (.invokevirtual 277, 3) := by decide +kernel
theorem dX9_offerForward_10 : decode cX9_offerForward 10 = .ok (.ifCond .ne 19, 3) := by decide +kernel
theorem dX9_offerForward_13 : decode cX9_offerForward 13 = .ok (.aload_n 0, 1) := by decide +kernel
theorem dX9_offerForward_14 : decode cX9_offerForward 14 = .ok (.iload_n 2, 1) := by decide +kernel
theorem dX9_offerForward_15 : decode cX9_offerForward 15 = .ok (.invokevirtual 280, 3) := by decide +kernel
theorem dX9_offerForward_18 : decode cX9_offerForward 18 = .ok (.ifCond .ne 11, 3) := by decide +kernel
theorem dX9_offerForward_21 : decode cX9_offerForward 21 = .ok (.aload_n 0, 1) := by decide +kernel
theorem dX9_offerForward_22 : decode cX9_offerForward 22 = .ok (.iload_n 3, 1) := by decide +kernel
theorem dX9_offerForward_23 : decode cX9_offerForward 23 = .ok (.invokevirtual 280, 3) := by decide +kernel
theorem dX9_offerForward_26 : decode cX9_offerForward 26 = .ok (.ifCond .eq 7, 3) := by decide +kernel
theorem dX9_offerForward_29 : decode cX9_offerForward 29 = .ok (.iconst 0, 1) := by decide +kernel
theorem dX9_offerForward_30 : decode cX9_offerForward 30 = .ok (.goto 13, 3) := by decide +kernel
theorem dX9_offerForward_33 : decode cX9_offerForward 33 = .ok (.aload_n 0, 1) := by decide +kernel
theorem dX9_offerForward_34 : decode cX9_offerForward 34 = .ok (.iload_n 1, 1) := by decide +kernel
theorem dX9_offerForward_35 : decode cX9_offerForward 35 = .ok (.iload_n 2, 1) := by decide +kernel
theorem dX9_offerForward_36 : decode cX9_offerForward 36 = .ok (.bipush (-2), 2) := by decide +kernel
theorem dX9_offerForward_38 : decode cX9_offerForward 38 = .ok (.iload_n 3, 1) := by decide +kernel
theorem dX9_offerForward_39 : decode cX9_offerForward 39 = .ok (.isub, 1) := by decide +kernel
theorem dX9_offerForward_40 : decode cX9_offerForward 40 = .ok (.invokevirtual 301, 3) := by decide +kernel
theorem dX9_offerForward_43 : decode cX9_offerForward 43 = .ok (.ireturn, 1) := by decide +kernel
theorem dX9_withdraw_0 : decode cX9_withdraw 0 = .ok (.aload_n 0, 1) := by decide +kernel
theorem dX9_withdraw_1 : decode cX9_withdraw 1 = .ok (.iconst 0, 1) := by decide +kernel
theorem dX9_withdraw_2 : decode cX9_withdraw 2 = .ok (.putfield 59, 3) := by decide +kernel
theorem dX9_withdraw_5 : decode cX9_withdraw 5 = .ok (.aload_n 0, 1) := by decide +kernel
theorem dX9_withdraw_6 : decode cX9_withdraw 6 = .ok (.iload_n 1, 1) := by decide +kernel
theorem dX9_withdraw_7 : decode cX9_withdraw 7 = .ok (.invokevirtual 277, 3) := by decide +kernel
theorem dX9_withdraw_10 : decode cX9_withdraw 10 = .ok (.ifCond .ne 42, 3) := by decide +kernel
theorem dX9_withdraw_13 : decode cX9_withdraw 13 = .ok (.aload_n 0, 1) := by decide +kernel
theorem dX9_withdraw_14 : decode cX9_withdraw 14 = .ok (.iload_n 2, 1) := by decide +kernel
theorem dX9_withdraw_15 : decode cX9_withdraw 15 = .ok (.invokevirtual 280, 3) := by decide +kernel
theorem dX9_withdraw_18 : decode cX9_withdraw 18 = .ok (.ifCond .ne 34, 3) := by decide +kernel
theorem dX9_withdraw_21 : decode cX9_withdraw 21 = .ok (.aload_n 0, 1) := by decide +kernel
theorem dX9_withdraw_22 : decode cX9_withdraw 22 = .ok (.aload_n 0, 1) := by decide +kernel
theorem dX9_withdraw_23 : decode cX9_withdraw 23 = .ok (.getfield 17, 3) := by decide +kernel
theorem dX9_withdraw_26 : decode cX9_withdraw 26 = .ok (.iload_n 1, 1) := by decide +kernel
theorem dX9_withdraw_27 : decode cX9_withdraw 27 = .ok (.invokestatic 174, 3) := by decide +kernel
theorem dX9_withdraw_30 : decode cX9_withdraw 30 = .ok (.bipush 12, 2) := by decide +kernel
theorem dX9_withdraw_32 : decode cX9_withdraw 32 = .ok (.iadd, 1) := by decide +kernel
theorem dX9_withdraw_33 : decode cX9_withdraw 33 = .ok (.iload_n 2, 1) := by decide +kernel
theorem dX9_withdraw_34 : decode cX9_withdraw 34 = .ok (.iadd, 1) := by decide +kernel
theorem dX9_withdraw_35 : decode cX9_withdraw 35 = .ok (.iaload, 1) := by decide +kernel
theorem dX9_withdraw_36 : decode cX9_withdraw 36 = .ok (.iconst (-1), 1) := by decide +kernel
theorem dX9_withdraw_37 : decode cX9_withdraw 37 = .ok (.if_icmp .ne 7, 3) := by decide +kernel
theorem dX9_withdraw_40 : decode cX9_withdraw 40 = .ok (.iconst 1, 1) := by decide +kernel
theorem dX9_withdraw_41 : decode cX9_withdraw 41 = .ok (.goto 4, 3) := by decide +kernel
theorem dX9_withdraw_44 : decode cX9_withdraw 44 = .ok (.iconst 0, 1) := by decide +kernel
theorem dX9_withdraw_45 : decode cX9_withdraw 45 = .ok (.iconst 2, 1) := by decide +kernel
theorem dX9_withdraw_46 : decode cX9_withdraw 46 = .ok (.invokevirtual 216, 3) := by decide +kernel
theorem dX9_withdraw_49 : decode cX9_withdraw 49 = .ok (.ifCond .eq 7, 3) := by decide +kernel
theorem dX9_withdraw_52 : decode cX9_withdraw 52 = .ok (.iconst 0, 1) := by decide +kernel
theorem dX9_withdraw_53 : decode cX9_withdraw 53 = .ok (.goto 10, 3) := by decide +kernel
theorem dX9_withdraw_56 : decode cX9_withdraw 56 = .ok (.aload_n 0, 1) := by decide +kernel
theorem dX9_withdraw_57 : decode cX9_withdraw 57 = .ok (.iload_n 1, 1) := by decide +kernel
theorem dX9_withdraw_58 : decode cX9_withdraw 58 = .ok (.iload_n 2, 1) := by decide +kernel
theorem dX9_withdraw_59 : decode cX9_withdraw 59 = .ok (.iconst (-1), 1) := by decide +kernel
theorem dX9_withdraw_60 : decode cX9_withdraw 60 = .ok (.invokevirtual 301, 3) := by decide +kernel
theorem dX9_withdraw_63 : decode cX9_withdraw 63 = .ok (.ireturn, 1) := by decide +kernel
theorem dX9_setTrust_0 : decode cX9_setTrust 0 = .ok (.aload_n 0, 1) := by decide +kernel
theorem dX9_setTrust_1 : decode cX9_setTrust 1 = .ok (.iconst 0, 1) := by decide +kernel
theorem dX9_setTrust_2 : decode cX9_setTrust 2 = .ok (.putfield 59, 3) := by decide +kernel
theorem dX9_setTrust_5 : decode cX9_setTrust 5 = .ok (.aload_n 0, 1) := by decide +kernel
theorem dX9_setTrust_6 : decode cX9_setTrust 6 = .ok (.iload_n 1, 1) := by decide +kernel
theorem dX9_setTrust_7 : decode cX9_setTrust 7 = .ok (.invokevirtual 277, 3) := by decide +kernel
theorem dX9_setTrust_10 : decode cX9_setTrust 10 = .ok (.ifCond .ne 27, 3) := by decide +kernel
theorem dX9_setTrust_13 : decode cX9_setTrust 13 = .ok (.aload_n 0, 1) := by decide +kernel
theorem dX9_setTrust_14 : decode cX9_setTrust 14 = .ok (.iload_n 2, 1) := by decide +kernel
theorem dX9_setTrust_15 : decode cX9_setTrust 15 = .ok (.iconst 0, 1) := by decide +kernel
theorem dX9_setTrust_16 : decode cX9_setTrust 16 = .ok (.sipush 999, 3) := by decide +kernel
theorem dX9_setTrust_19 : decode cX9_setTrust 19 = .ok (.invokestatic 81, 3) := by decide +kernel
theorem dX9_setTrust_22 : decode cX9_setTrust 22 = .ok (.ifCond .ne 7, 3) := by decide +kernel
theorem dX9_setTrust_25 : decode cX9_setTrust 25 = .ok (.iconst 1, 1) := by decide +kernel
theorem dX9_setTrust_26 : decode cX9_setTrust 26 = .ok (.goto 4, 3) := by decide +kernel
theorem dX9_setTrust_29 : decode cX9_setTrust 29 = .ok (.iconst 0, 1) := by decide +kernel
theorem dX9_setTrust_30 : decode cX9_setTrust 30 = .ok (.iconst 2, 1) := by decide +kernel
theorem dX9_setTrust_31 : decode cX9_setTrust 31 = .ok (.invokevirtual 216, 3) := by decide +kernel
theorem dX9_setTrust_34 : decode cX9_setTrust 34 = .ok (.ifCond .eq 5, 3) := by decide +kernel
theorem dX9_setTrust_37 : decode cX9_setTrust 37 = .ok (.iconst 0, 1) := by decide +kernel
theorem dX9_setTrust_38 : decode cX9_setTrust 38 = .ok (.ireturn, 1) := by decide +kernel
theorem dX9_setTrust_39 : decode cX9_setTrust 39 = .ok (.aload_n 0, 1) := by decide +kernel
theorem dX9_setTrust_40 : decode cX9_setTrust 40 = .ok (.invokevirtual 225, 3) := by decide +kernel
theorem dX9_setTrust_43 : decode cX9_setTrust 43 = .ok (.aload_n 0, 1) := by decide +kernel
theorem dX9_setTrust_44 : decode cX9_setTrust 44 = .ok (.getfield 17, 3) := by decide +kernel
theorem dX9_setTrust_47 : decode cX9_setTrust 47 = .ok (.iload_n 1, 1) := by decide +kernel
theorem dX9_setTrust_48 : decode cX9_setTrust 48 = .ok (.invokestatic 174, 3) := by decide +kernel
theorem dX9_setTrust_51 : decode cX9_setTrust 51 = .ok (.iconst 0, 1) := by decide +kernel
theorem dX9_setTrust_52 : decode cX9_setTrust 52 = .ok (.iadd, 1) := by decide +kernel
theorem dX9_setTrust_53 : decode cX9_setTrust 53 = .ok (.iaload, 1) := by decide +kernel
theorem dX9_setTrust_54 : decode cX9_setTrust 54 = .ok (.istore_n 3, 1) := by decide +kernel
theorem dX9_setTrust_55 : decode cX9_setTrust 55 = .ok (.aload_n 0, 1) := by decide +kernel
theorem dX9_setTrust_56 : decode cX9_setTrust 56 = .ok (.getfield 17, 3) := by decide +kernel
theorem dX9_setTrust_59 : decode cX9_setTrust 59 = .ok (.iload_n 1, 1) := by decide +kernel
theorem dX9_setTrust_60 : decode cX9_setTrust 60 = .ok (.invokestatic 174, 3) := by decide +kernel
theorem dX9_setTrust_63 : decode cX9_setTrust 63 = .ok (.iconst 0, 1) := by decide +kernel
theorem dX9_setTrust_64 : decode cX9_setTrust 64 = .ok (.iadd, 1) := by decide +kernel
theorem dX9_setTrust_65 : decode cX9_setTrust 65 = .ok (.iload_n 2, 1) := by decide +kernel
theorem dX9_setTrust_66 : decode cX9_setTrust 66 = .ok (.iastore, 1) := by decide +kernel
theorem dX9_setTrust_67 : decode cX9_setTrust 67 = .ok (.iload_n 3, 1) := by decide +kernel
theorem dX9_setTrust_68 : decode cX9_setTrust 68 = .ok (.ireturn, 1) := by decide +kernel
theorem dX9_setKeeps_0 : decode cX9_setKeeps 0 = .ok (.aload_n 0, 1) := by decide +kernel
theorem dX9_setKeeps_1 : decode cX9_setKeeps 1 = .ok (.iconst 0, 1) := by decide +kernel
theorem dX9_setKeeps_2 : decode cX9_setKeeps 2 = .ok (.putfield 59, 3) := by decide +kernel
theorem dX9_setKeeps_5 : decode cX9_setKeeps 5 = .ok (.aload_n 0, 1) := by decide +kernel
theorem dX9_setKeeps_6 : decode cX9_setKeeps 6 = .ok (.iload_n 1, 1) := by decide +kernel
theorem dX9_setKeeps_7 : decode cX9_setKeeps 7 = .ok (.invokevirtual 277, 3) := by decide +kernel
theorem dX9_setKeeps_10 : decode cX9_setKeeps 10 = .ok (.ifCond .eq 5, 3) := by decide +kernel
theorem dX9_setKeeps_13 : decode cX9_setKeeps 13 = .ok (.iconst 0, 1) := by decide +kernel
theorem dX9_setKeeps_14 : decode cX9_setKeeps 14 = .ok (.ireturn, 1) := by decide +kernel
theorem dX9_setKeeps_15 : decode cX9_setKeeps 15 = .ok (.aload_n 0, 1) := by decide +kernel
theorem dX9_setKeeps_16 : decode cX9_setKeeps 16 = .ok (.invokevirtual 225, 3) := by decide +kernel
theorem dX9_setKeeps_19 : decode cX9_setKeeps 19 = .ok (.aload_n 0, 1) := by decide +kernel
theorem dX9_setKeeps_20 : decode cX9_setKeeps 20 = .ok (.invokevirtual 295, 3) := by decide +kernel
theorem dX9_setKeeps_23 : decode cX9_setKeeps 23 = .ok (.aload_n 0, 1) := by decide +kernel
theorem dX9_setKeeps_24 : decode cX9_setKeeps 24 = .ok (.getfield 17, 3) := by decide +kernel
theorem dX9_setKeeps_27 : decode cX9_setKeeps 27 = .ok (.iload_n 1, 1) := by decide +kernel
theorem dX9_setKeeps_28 : decode cX9_setKeeps 28 = .ok (.invokestatic 174, 3) := by decide +kernel
theorem dX9_setKeeps_31 : decode cX9_setKeeps 31 = .ok (.iconst 1, 1) := by decide +kernel
theorem dX9_setKeeps_32 : decode cX9_setKeeps 32 = .ok (.iadd, 1) := by decide +kernel
theorem dX9_setKeeps_33 : decode cX9_setKeeps 33 = .ok (.iload_n 2, 1) := by decide +kernel
theorem dX9_setKeeps_34 : decode cX9_setKeeps 34 = .ok (.ifCond .eq 7, 3) := by decide +kernel
theorem dX9_setKeeps_37 : decode cX9_setKeeps 37 = .ok (.iconst 1, 1) := by decide +kernel
theorem dX9_setKeeps_38 : decode cX9_setKeeps 38 = .ok (.goto 4, 3) := by decide +kernel
theorem dX9_setKeeps_41 : decode cX9_setKeeps 41 = .ok (.iconst 0, 1) := by decide +kernel
theorem dX9_setKeeps_42 : decode cX9_setKeeps 42 = .ok (.iastore, 1) := by decide +kernel
theorem dX9_setKeeps_43 : decode cX9_setKeeps 43 = .ok (.aload_n 0, 1) := by decide +kernel
theorem dX9_setKeeps_44 : decode cX9_setKeeps 44 = .ok (.iconst (-1), 1) := by decide +kernel
theorem dX9_setKeeps_45 : decode cX9_setKeeps 45 = .ok (.invokevirtual 298, 3) := by decide +kernel
theorem dX9_setKeeps_48 : decode cX9_setKeeps 48 = .ok (.ireturn, 1) := by decide +kernel
theorem dX9_setShare_0 : decode cX9_setShare 0 = .ok (.aload_n 0, 1) := by decide +kernel
theorem dX9_setShare_1 : decode cX9_setShare 1 = .ok (.iconst 0, 1) := by decide +kernel
theorem dX9_setShare_2 : decode cX9_setShare 2 = .ok (.putfield 59, 3) := by decide +kernel
theorem dX9_setShare_5 : decode cX9_setShare 5 = .ok (.aload_n 0, 1) := by decide +kernel
theorem dX9_setShare_6 : decode cX9_setShare 6 = .ok (.iload_n 1, 1) := by decide +kernel
theorem dX9_setShare_7 : decode cX9_setShare 7 = .ok (.iconst 0, 1) := by decide +kernel
theorem dX9_setShare_8 : decode cX9_setShare 8 = .ok (.bipush 100, 2) := by decide +kernel
theorem dX9_setShare_10 : decode cX9_setShare 10 = .ok (.invokestatic 81, 3) := by decide +kernel
theorem dX9_setShare_13 : decode cX9_setShare 13 = .ok (.ifCond .ne 7, 3) := by decide +kernel
theorem dX9_setShare_16 : decode cX9_setShare 16 = .ok (.iconst 1, 1) := by decide +kernel
theorem dX9_setShare_17 : decode cX9_setShare 17 = .ok (.goto 4, 3) := by decide +kernel
theorem dX9_setShare_20 : decode cX9_setShare 20 = .ok (.iconst 0, 1) := by decide +kernel
theorem dX9_setShare_21 : decode cX9_setShare 21 = .ok (.iconst 1, 1) := by decide +kernel
theorem dX9_setShare_22 : decode cX9_setShare 22 = .ok (.invokevirtual 216, 3) := by decide +kernel
theorem dX9_setShare_25 : decode cX9_setShare 25 = .ok (.ifCond .eq 5, 3) := by decide +kernel
theorem dX9_setShare_28 : decode cX9_setShare 28 = .ok (.iconst 0, 1) := by decide +kernel
theorem dX9_setShare_29 : decode cX9_setShare 29 = .ok (.ireturn, 1) := by decide +kernel
theorem dX9_setShare_30 : decode cX9_setShare 30 = .ok (.aload_n 0, 1) := by decide +kernel
theorem dX9_setShare_31 : decode cX9_setShare 31 = .ok (.invokevirtual 225, 3) := by decide +kernel
theorem dX9_setShare_34 : decode cX9_setShare 34 = .ok (.aload_n 0, 1) := by decide +kernel
theorem dX9_setShare_35 : decode cX9_setShare 35 = .ok (.invokevirtual 295, 3) := by decide +kernel
theorem dX9_setShare_38 : decode cX9_setShare 38 = .ok (.aload_n 0, 1) := by decide +kernel
theorem dX9_setShare_39 : decode cX9_setShare 39 = .ok (.getfield 17, 3) := by decide +kernel
theorem dX9_setShare_42 : decode cX9_setShare 42 = .ok (.iconst 0, 1) := by decide +kernel
theorem dX9_setShare_43 : decode cX9_setShare 43 = .ok (.iload_n 1, 1) := by decide +kernel
theorem dX9_setShare_44 : decode cX9_setShare 44 = .ok (.iastore, 1) := by decide +kernel
theorem dX9_setShare_45 : decode cX9_setShare 45 = .ok (.aload_n 0, 1) := by decide +kernel
theorem dX9_setShare_46 : decode cX9_setShare 46 = .ok (.iconst (-1), 1) := by decide +kernel
theorem dX9_setShare_47 : decode cX9_setShare 47 = .ok (.invokevirtual 298, 3) := by decide +kernel
theorem dX9_setShare_50 : decode cX9_setShare 50 = .ok (.ireturn, 1) := by decide +kernel
theorem dX9_undo_0 : decode cX9_undo 0 = .ok (.aload_n 0, 1) := by decide +kernel
theorem dX9_undo_1 : decode cX9_undo 1 = .ok (.iconst 0, 1) := by decide +kernel
theorem dX9_undo_2 : decode cX9_undo 2 = .ok (.putfield 59, 3) := by decide +kernel
theorem dX9_undo_5 : decode cX9_undo 5 = .ok (.aload_n 0, 1) := by decide +kernel
theorem dX9_undo_6 : decode cX9_undo 6 = .ok (.getfield 292, 3) := by decide +kernel
theorem dX9_undo_9 : decode cX9_undo 9 = .ok (.ifCond .ne 5, 3) := by decide +kernel
theorem dX9_undo_12 : decode cX9_undo 12 = .ok (.iconst (-1), 1) := by decide +kernel
theorem dX9_undo_13 : decode cX9_undo 13 = .ok (.ireturn, 1) := by decide +kernel
theorem dX9_undo_14 : decode cX9_undo 14 = .ok (.aload_n 0, 1) := by decide +kernel
theorem dX9_undo_15 : decode cX9_undo 15 = .ok (.dup, 1) := by decide +kernel
theorem dX9_undo_16 : decode cX9_undo 16 = .ok (.getfield 292, 3) := by decide +kernel
theorem dX9_undo_19 : decode cX9_undo 19 = .ok (.iconst 1, 1) := by decide +kernel
theorem dX9_undo_20 : decode cX9_undo 20 = .ok (.isub, 1) := by decide +kernel
theorem dX9_undo_21 : decode cX9_undo 21 = .ok (.putfield 292, 3) := by decide +kernel
theorem dX9_undo_24 : decode cX9_undo 24 = .ok (.aload_n 0, 1) := by decide +kernel
theorem dX9_undo_25 : decode cX9_undo 25 = .ok (.getfield 25, 3) := by decide +kernel
theorem dX9_undo_28 : decode cX9_undo 28 = .ok (.aload_n 0, 1) := by decide +kernel
theorem dX9_undo_29 : decode cX9_undo 29 = .ok (.getfield 292, 3) := by decide +kernel
theorem dX9_undo_32 : decode cX9_undo 32 = .ok (.aaload, 1) := by decide +kernel
theorem dX9_undo_33 : decode cX9_undo 33 = .ok (.aload_n 0, 1) := by decide +kernel
theorem dX9_undo_34 : decode cX9_undo 34 = .ok (.getfield 17, 3) := by decide +kernel
theorem dX9_undo_37 : decode cX9_undo 37 = .ok (.invokestatic 228, 3) := by decide +kernel
theorem dX9_undo_40 : decode cX9_undo 40 = .ok (.aload_n 0, 1) := by decide +kernel
theorem dX9_undo_41 : decode cX9_undo 41 = .ok (.getfield 292, 3) := by decide +kernel
theorem dX9_undo_44 : decode cX9_undo 44 = .ok (.ireturn, 1) := by decide +kernel
theorem dX9_checksum_0 : decode cX9_checksum 0 = .ok (.aload_n 0, 1) := by decide +kernel
theorem dX9_checksum_1 : decode cX9_checksum 1 = .ok (.iconst 0, 1) := by decide +kernel
theorem dX9_checksum_2 : decode cX9_checksum 2 = .ok (.putfield 59, 3) := by decide +kernel
theorem dX9_checksum_5 : decode cX9_checksum 5 = .ok (.aload_n 0, 1) := by decide +kernel
theorem dX9_checksum_6 : decode cX9_checksum 6 = .ok (.invokevirtual 271, 3) := by decide +kernel
theorem dX9_checksum_9 : decode cX9_checksum 9 = .ok (.aload_n 0, 1) := by decide +kernel
theorem dX9_checksum_10 : decode cX9_checksum 10 = .ok (.getfield 17, 3) := by decide +kernel
theorem dX9_checksum_13 : decode cX9_checksum 13 = .ok (.iconst 0, 1) := by decide +kernel
theorem dX9_checksum_14 : decode cX9_checksum 14 = .ok (.iaload, 1) := by decide +kernel
theorem dX9_checksum_15 : decode cX9_checksum 15 = .ok (.i2l, 1) := by decide +kernel
theorem dX9_checksum_16 : decode cX9_checksum 16 = .ok (.lstore_n 1, 1) := by decide +kernel
theorem dX9_checksum_17 : decode cX9_checksum 17 = .ok (.iconst 0, 1) := by decide +kernel
theorem dX9_checksum_18 : decode cX9_checksum 18 = .ok (.istore_n 3, 1) := by decide +kernel
theorem dX9_checksum_19 : decode cX9_checksum 19 = .ok (.iload_n 3, 1) := by decide +kernel
theorem dX9_checksum_20 : decode cX9_checksum 20 = .ok (.aload_n 0, 1) := by decide +kernel
theorem dX9_checksum_21 : decode cX9_checksum 21 = .ok (.getfield 17, 3) := by decide +kernel
theorem dX9_checksum_24 : decode cX9_checksum 24 = .ok (.iconst 1, 1) := by decide +kernel
theorem dX9_checksum_25 : decode cX9_checksum 25 = .ok (.iaload, 1) := by decide +kernel
theorem dX9_checksum_26 : decode cX9_checksum 26 = .ok (.if_icmp .ge 111, 3) := by decide +kernel
theorem dX9_checksum_29 : decode cX9_checksum 29 = .ok (.iconst 0, 1) := by decide +kernel
theorem dX9_checksum_30 : decode cX9_checksum 30 = .ok (.istore 4, 2) := by decide +kernel
theorem dX9_checksum_32 : decode cX9_checksum 32 = .ok (.iload 4, 2) := by decide +kernel
theorem dX9_checksum_34 : decode cX9_checksum 34 = .ok (.bipush 6, 2) := by decide +kernel
theorem dX9_checksum_36 : decode cX9_checksum 36 = .ok (.if_icmp .ge 24, 3) := by decide +kernel
theorem dX9_checksum_39 : decode cX9_checksum 39 = .ok (.ldc2_w 305, 3) := by decide +kernel
theorem dX9_checksum_42 : decode cX9_checksum 42 = .ok (.lload_n 1, 1) := by decide +kernel
theorem dX9_checksum_43 : decode cX9_checksum 43 = .ok (.lmul, 1) := by decide +kernel
theorem dX9_checksum_44 : decode cX9_checksum 44 = .ok (.aload_n 0, 1) := by decide +kernel
theorem dX9_checksum_45 : decode cX9_checksum 45 = .ok (.iload_n 3, 1) := by decide +kernel
theorem dX9_checksum_46 : decode cX9_checksum 46 = .ok (.iload 4, 2) := by decide +kernel
theorem dX9_checksum_48 : decode cX9_checksum 48 = .ok (.invokevirtual 283, 3) := by decide +kernel
theorem dX9_checksum_51 : decode cX9_checksum 51 = .ok (.i2l, 1) := by decide +kernel
theorem dX9_checksum_52 : decode cX9_checksum 52 = .ok (.ladd, 1) := by decide +kernel
theorem dX9_checksum_53 : decode cX9_checksum 53 = .ok (.lstore_n 1, 1) := by decide +kernel
theorem dX9_checksum_54 : decode cX9_checksum 54 = .ok (.iinc 4 1, 3) := by decide +kernel
theorem dX9_checksum_57 : decode cX9_checksum 57 = .ok (.goto (-25), 3) := by decide +kernel
theorem dX9_checksum_60 : decode cX9_checksum 60 = .ok (.iconst 0, 1) := by decide +kernel
theorem dX9_checksum_61 : decode cX9_checksum 61 = .ok (.istore 4, 2) := by decide +kernel
theorem dX9_checksum_63 : decode cX9_checksum 63 = .ok (.iload 4, 2) := by decide +kernel
theorem dX9_checksum_65 : decode cX9_checksum 65 = .ok (.aload_n 0, 1) := by decide +kernel
theorem dX9_checksum_66 : decode cX9_checksum 66 = .ok (.getfield 17, 3) := by decide +kernel
theorem dX9_checksum_69 : decode cX9_checksum 69 = .ok (.iconst 2, 1) := by decide +kernel
theorem dX9_checksum_70 : decode cX9_checksum 70 = .ok (.iaload, 1) := by decide +kernel
theorem dX9_checksum_71 : decode cX9_checksum 71 = .ok (.if_icmp .ge 60, 3) := by decide +kernel
theorem dX9_checksum_74 : decode cX9_checksum 74 = .ok (.ldc2_w 305, 3) := by decide +kernel
theorem dX9_checksum_77 : decode cX9_checksum 77 = .ok (.ldc2_w 305, 3) := by decide +kernel
theorem dX9_checksum_80 : decode cX9_checksum 80 = .ok (.ldc2_w 305, 3) := by decide +kernel
theorem dX9_checksum_83 : decode cX9_checksum 83 = .ok (.lload_n 1, 1) := by decide +kernel
theorem dX9_checksum_84 : decode cX9_checksum 84 = .ok (.lmul, 1) := by decide +kernel
theorem dX9_checksum_85 : decode cX9_checksum 85 = .ok (.aload_n 0, 1) := by decide +kernel
theorem dX9_checksum_86 : decode cX9_checksum 86 = .ok (.getfield 17, 3) := by decide +kernel
theorem dX9_checksum_89 : decode cX9_checksum 89 = .ok (.iload_n 3, 1) := by decide +kernel
theorem dX9_checksum_90 : decode cX9_checksum 90 = .ok (.invokestatic 174, 3) := by decide +kernel
theorem dX9_checksum_93 : decode cX9_checksum 93 = .ok (.bipush 12, 2) := by decide +kernel
theorem dX9_checksum_95 : decode cX9_checksum 95 = .ok (.iadd, 1) := by decide +kernel
theorem dX9_checksum_96 : decode cX9_checksum 96 = .ok (.iload 4, 2) := by decide +kernel
theorem dX9_checksum_98 : decode cX9_checksum 98 = .ok (.iadd, 1) := by decide +kernel
theorem dX9_checksum_99 : decode cX9_checksum 99 = .ok (.iaload, 1) := by decide +kernel
theorem dX9_checksum_100 : decode cX9_checksum 100 = .ok (.i2l, 1) := by decide +kernel
theorem dX9_checksum_101 : decode cX9_checksum 101 = .ok (.ladd, 1) := by decide +kernel
theorem dX9_checksum_102 : decode cX9_checksum 102 = .ok (.lmul, 1) := by decide +kernel
theorem dX9_checksum_103 : decode cX9_checksum 103 = .ok (.aload_n 0, 1) := by decide +kernel
theorem dX9_checksum_104 : decode cX9_checksum 104 = .ok (.getfield 50, 3) := by decide +kernel
theorem dX9_checksum_107 : decode cX9_checksum 107 = .ok (.iload_n 3, 1) := by decide +kernel
theorem dX9_checksum_108 : decode cX9_checksum 108 = .ok (.aaload, 1) := by decide +kernel
theorem dX9_checksum_109 : decode cX9_checksum 109 = .ok (.iload 4, 2) := by decide +kernel
theorem dX9_checksum_111 : decode cX9_checksum 111 = .ok (.iaload, 1) := by decide +kernel
theorem dX9_checksum_112 : decode cX9_checksum 112 = .ok (.i2l, 1) := by decide +kernel
theorem dX9_checksum_113 : decode cX9_checksum 113 = .ok (.ladd, 1) := by decide +kernel
theorem dX9_checksum_114 : decode cX9_checksum 114 = .ok (.lmul, 1) := by decide +kernel
theorem dX9_checksum_115 : decode cX9_checksum 115 = .ok (.aload_n 0, 1) := by decide +kernel
theorem dX9_checksum_116 : decode cX9_checksum 116 = .ok (.iload_n 3, 1) := by decide +kernel
theorem dX9_checksum_117 : decode cX9_checksum 117 = .ok (.iload 4, 2) := by decide +kernel
theorem dX9_checksum_119 : decode cX9_checksum 119 = .ok (.invokevirtual 289, 3) := by decide +kernel
theorem dX9_checksum_122 : decode cX9_checksum 122 = .ok (.i2l, 1) := by decide +kernel
theorem dX9_checksum_123 : decode cX9_checksum 123 = .ok (.ladd, 1) := by decide +kernel
theorem dX9_checksum_124 : decode cX9_checksum 124 = .ok (.lstore_n 1, 1) := by decide +kernel
theorem dX9_checksum_125 : decode cX9_checksum 125 = .ok (.iinc 4 1, 3) := by decide +kernel
theorem dX9_checksum_128 : decode cX9_checksum 128 = .ok (.goto (-65), 3) := by decide +kernel
theorem dX9_checksum_131 : decode cX9_checksum 131 = .ok (.iinc 3 1, 3) := by decide +kernel
theorem dX9_checksum_134 : decode cX9_checksum 134 = .ok (.goto (-115), 3) := by decide +kernel
theorem dX9_checksum_137 : decode cX9_checksum 137 = .ok (.lload_n 1, 1) := by decide +kernel
theorem dX9_checksum_138 : decode cX9_checksum 138 = .ok (.lreturn, 1) := by decide +kernel
