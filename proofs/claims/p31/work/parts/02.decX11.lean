theorem dX11_init_0 : decode cX11_init 0 = .ok (.aload_n 0, 1) := by decide +kernel
theorem dX11_init_1 : decode cX11_init 1 = .ok (.invokespecial 1, 3) := by decide +kernel
theorem dX11_init_4 : decode cX11_init 4 = .ok (.return_, 1) := by decide +kernel
theorem dX11_random_0 : decode cX11_random 0 = .ok (.new 7, 3) := by decide +kernel
theorem dX11_random_3 : decode cX11_random 3 = .ok (.dup, 1) := by decide +kernel
theorem dX11_random_4 : decode cX11_random 4 = .ok (.invokespecial 9, 3) := by decide +kernel
theorem dX11_random_7 : decode cX11_random 7 = .ok (.astore_n 2, 1) := by decide +kernel
theorem dX11_random_8 : decode cX11_random 8 = .ok (.aload_n 2, 1) := by decide +kernel
theorem dX11_random_9 : decode cX11_random 9 = .ok (.iload_n 1, 1) := by decide +kernel
theorem dX11_random_10 : decode cX11_random 10 = .ok (.ifCond .ne 11, 3) := by decide +kernel
theorem dX11_random_13 : decode cX11_random 13 = .ok (.aload_n 0, 1) := by decide +kernel
theorem dX11_random_14 : decode cX11_random 14 = .ok (.iconst 2, 1) := by decide +kernel
theorem dX11_random_15 : decode cX11_random 15 = .ok (.invokevirtual 10, 3) := by decide +kernel
theorem dX11_random_18 : decode cX11_random 18 = .ok (.goto 9, 3) := by decide +kernel
theorem dX11_random_21 : decode cX11_random 21 = .ok (.aload_n 0, 1) := by decide +kernel
theorem dX11_random_22 : decode cX11_random 22 = .ok (.bipush 6, 2) := by decide +kernel
theorem dX11_random_24 : decode cX11_random 24 = .ok (.invokevirtual 10, 3) := by decide +kernel
theorem dX11_random_27 : decode cX11_random 27 = .ok (.putfield 16, 3) := by decide +kernel
theorem dX11_random_30 : decode cX11_random 30 = .ok (.aload_n 2, 1) := by decide +kernel
theorem dX11_random_31 : decode cX11_random 31 = .ok (.aload_n 2, 1) := by decide +kernel
theorem dX11_random_32 : decode cX11_random 32 = .ok (.getfield 16, 3) := by decide +kernel
theorem dX11_random_35 : decode cX11_random 35 = .ok (.ifCond .ne 27, 3) := by decide +kernel
theorem dX11_random_38 : decode cX11_random 38 = .ok (.aload_n 0, 1) := by decide +kernel
theorem dX11_random_39 : decode cX11_random 39 = .ok (.aload_n 0, 1) := by decide +kernel
theorem dX11_random_40 : decode cX11_random 40 = .ok (.bipush 8, 2) := by decide +kernel
theorem dX11_random_42 : decode cX11_random 42 = .ok (.invokevirtual 10, 3) := by decide +kernel
theorem dX11_random_45 : decode cX11_random 45 = .ok (.ifCond .ne 9, 3) := by decide +kernel
theorem dX11_random_48 : decode cX11_random 48 = .ok (.sipush 10000, 3) := by decide +kernel
theorem dX11_random_51 : decode cX11_random 51 = .ok (.goto 5, 3) := by decide +kernel
theorem dX11_random_54 : decode cX11_random 54 = .ok (.bipush 9, 2) := by decide +kernel
theorem dX11_random_56 : decode cX11_random 56 = .ok (.invokevirtual 10, 3) := by decide +kernel
theorem dX11_random_59 : decode cX11_random 59 = .ok (.goto 8, 3) := by decide +kernel
theorem dX11_random_62 : decode cX11_random 62 = .ok (.aload_n 0, 1) := by decide +kernel
theorem dX11_random_63 : decode cX11_random 63 = .ok (.iconst 4, 1) := by decide +kernel
theorem dX11_random_64 : decode cX11_random 64 = .ok (.invokevirtual 10, 3) := by decide +kernel
theorem dX11_random_67 : decode cX11_random 67 = .ok (.putfield 20, 3) := by decide +kernel
theorem dX11_random_70 : decode cX11_random 70 = .ok (.aload_n 2, 1) := by decide +kernel
theorem dX11_random_71 : decode cX11_random 71 = .ok (.getfield 16, 3) := by decide +kernel
theorem dX11_random_74 : decode cX11_random 74 = .ok (.iconst 1, 1) := by decide +kernel
theorem dX11_random_75 : decode cX11_random 75 = .ok (.if_icmp .le 25, 3) := by decide +kernel
theorem dX11_random_78 : decode cX11_random 78 = .ok (.aload_n 2, 1) := by decide +kernel
theorem dX11_random_79 : decode cX11_random 79 = .ok (.aload_n 0, 1) := by decide +kernel
theorem dX11_random_80 : decode cX11_random 80 = .ok (.iload_n 1, 1) := by decide +kernel
theorem dX11_random_81 : decode cX11_random 81 = .ok (.iconst 1, 1) := by decide +kernel
theorem dX11_random_82 : decode cX11_random 82 = .ok (.isub, 1) := by decide +kernel
theorem dX11_random_83 : decode cX11_random 83 = .ok (.invokestatic 23, 3) := by decide +kernel
theorem dX11_random_86 : decode cX11_random 86 = .ok (.putfield 27, 3) := by decide +kernel
theorem dX11_random_89 : decode cX11_random 89 = .ok (.aload_n 2, 1) := by decide +kernel
theorem dX11_random_90 : decode cX11_random 90 = .ok (.aload_n 0, 1) := by decide +kernel
theorem dX11_random_91 : decode cX11_random 91 = .ok (.iload_n 1, 1) := by decide +kernel
theorem dX11_random_92 : decode cX11_random 92 = .ok (.iconst 1, 1) := by decide +kernel
theorem dX11_random_93 : decode cX11_random 93 = .ok (.isub, 1) := by decide +kernel
theorem dX11_random_94 : decode cX11_random 94 = .ok (.invokestatic 23, 3) := by decide +kernel
theorem dX11_random_97 : decode cX11_random 97 = .ok (.putfield 31, 3) := by decide +kernel
theorem dX11_random_100 : decode cX11_random 100 = .ok (.aload_n 2, 1) := by decide +kernel
theorem dX11_random_101 : decode cX11_random 101 = .ok (.areturn, 1) := by decide +kernel
theorem dX11_text_0 : decode cX11_text 0 = .ok (.aload_n 0, 1) := by decide +kernel
theorem dX11_text_1 : decode cX11_text 1 = .ok (.getfield 16, 3) := by decide +kernel
theorem dX11_text_4 : decode cX11_text 4 = .ok (.ifCond .ne 26, 3) := by decide +kernel
theorem dX11_text_7 : decode cX11_text 7 = .ok (.new 34, 3) := by decide +kernel
theorem dX11_text_10 : decode cX11_text 10 = .ok (.dup, 1) := by decide +kernel
theorem dX11_text_11 : decode cX11_text 11 = .ok (.invokespecial 36, 3) := by decide +kernel
theorem dX11_text_14 : decode cX11_text 14 = .ok (.ldc 37, 2) := by decide +kernel
theorem dX11_text_16 : decode cX11_text 16 = .ok (.invokevirtual 39, 3) := by decide +kernel
theorem dX11_text_19 : decode cX11_text 19 = .ok (.aload_n 0, 1) := by decide +kernel
theorem dX11_text_20 : decode cX11_text 20 = .ok (.getfield 20, 3) := by decide +kernel
theorem dX11_text_23 : decode cX11_text 23 = .ok (.invokevirtual 43, 3) := by decide +kernel
theorem dX11_text_26 : decode cX11_text 26 = .ok (.invokevirtual 46, 3) := by decide +kernel
theorem dX11_text_29 : decode cX11_text 29 = .ok (.areturn, 1) := by decide +kernel
theorem dX11_text_30 : decode cX11_text 30 = .ok (.aload_n 0, 1) := by decide +kernel
theorem dX11_text_31 : decode cX11_text 31 = .ok (.getfield 16, 3) := by decide +kernel
theorem dX11_text_34 : decode cX11_text 34 = .ok (.iconst 1, 1) := by decide +kernel
theorem dX11_text_35 : decode cX11_text 35 = .ok (.if_icmp .ne 12, 3) := by decide +kernel
theorem dX11_text_38 : decode cX11_text 38 = .ok (.getstatic 50, 3) := by decide +kernel
theorem dX11_text_41 : decode cX11_text 41 = .ok (.aload_n 0, 1) := by decide +kernel
theorem dX11_text_42 : decode cX11_text 42 = .ok (.getfield 20, 3) := by decide +kernel
theorem dX11_text_45 : decode cX11_text 45 = .ok (.aaload, 1) := by decide +kernel
theorem dX11_text_46 : decode cX11_text 46 = .ok (.areturn, 1) := by decide +kernel
theorem dX11_text_47 : decode cX11_text 47 = .ok (.aload_n 0, 1) := by decide +kernel
theorem dX11_text_48 : decode cX11_text 48 = .ok (.getfield 16, 3) := by decide +kernel
theorem dX11_text_51 : decode cX11_text 51 = .ok (.iconst 4, 1) := by decide +kernel
theorem dX11_text_52 : decode cX11_text 52 = .ok (.if_icmp .ge 7, 3) := by decide +kernel
theorem dX11_text_55 : decode cX11_text 55 = .ok (.iconst 1, 1) := by decide +kernel
theorem dX11_text_56 : decode cX11_text 56 = .ok (.goto 4, 3) := by decide +kernel
theorem dX11_text_59 : decode cX11_text 59 = .ok (.iconst 2, 1) := by decide +kernel
theorem dX11_text_60 : decode cX11_text 60 = .ok (.istore_n 2, 1) := by decide +kernel
theorem dX11_text_61 : decode cX11_text 61 = .ok (.new 34, 3) := by decide +kernel
theorem dX11_text_64 : decode cX11_text 64 = .ok (.dup, 1) := by decide +kernel
theorem dX11_text_65 : decode cX11_text 65 = .ok (.invokespecial 36, 3) := by decide +kernel
theorem dX11_text_68 : decode cX11_text 68 = .ok (.aload_n 0, 1) := by decide +kernel
theorem dX11_text_69 : decode cX11_text 69 = .ok (.getfield 27, 3) := by decide +kernel
theorem dX11_text_72 : decode cX11_text 72 = .ok (.iload_n 2, 1) := by decide +kernel
theorem dX11_text_73 : decode cX11_text 73 = .ok (.invokevirtual 56, 3) := by decide +kernel
theorem dX11_text_76 : decode cX11_text 76 = .ok (.invokevirtual 39, 3) := by decide +kernel
theorem dX11_text_79 : decode cX11_text 79 = .ok (.aload_n 0, 1) := by decide +kernel
theorem dX11_text_80 : decode cX11_text 80 = .ok (.getfield 16, 3) := by decide +kernel
theorem dX11_text_83 : decode cX11_text 83 = .ok (.iconst 2, 1) := by decide +kernel
theorem dX11_text_84 : decode cX11_text 84 = .ok (.if_icmp .ne 8, 3) := by decide +kernel
theorem dX11_text_87 : decode cX11_text 87 = .ok (.ldc 60, 2) := by decide +kernel
theorem dX11_text_89 : decode cX11_text 89 = .ok (.goto 31, 3) := by decide +kernel
theorem dX11_text_92 : decode cX11_text 92 = .ok (.aload_n 0, 1) := by decide +kernel
theorem dX11_text_93 : decode cX11_text 93 = .ok (.getfield 16, 3) := by decide +kernel
theorem dX11_text_96 : decode cX11_text 96 = .ok (.iconst 3, 1) := by decide +kernel
theorem dX11_text_97 : decode cX11_text 97 = .ok (.if_icmp .ne 8, 3) := by decide +kernel
theorem dX11_text_100 : decode cX11_text 100 = .ok (.ldc 62, 2) := by decide +kernel
theorem dX11_text_102 : decode cX11_text 102 = .ok (.goto 18, 3) := by decide +kernel
theorem dX11_text_105 : decode cX11_text 105 = .ok (.aload_n 0, 1) := by decide +kernel
theorem dX11_text_106 : decode cX11_text 106 = .ok (.getfield 16, 3) := by decide +kernel
theorem dX11_text_109 : decode cX11_text 109 = .ok (.iconst 4, 1) := by decide +kernel
theorem dX11_text_110 : decode cX11_text 110 = .ok (.if_icmp .ne 8, 3) := by decide +kernel
theorem dX11_text_113 : decode cX11_text 113 = .ok (.ldc 64, 2) := by decide +kernel
theorem dX11_text_115 : decode cX11_text 115 = .ok (.goto 5, 3) := by decide +kernel
theorem dX11_text_118 : decode cX11_text 118 = .ok (.ldc 66, 2) := by decide +kernel
theorem dX11_text_120 : decode cX11_text 120 = .ok (.invokevirtual 39, 3) := by decide +kernel
theorem dX11_text_123 : decode cX11_text 123 = .ok (.aload_n 0, 1) := by decide +kernel
theorem dX11_text_124 : decode cX11_text 124 = .ok (.getfield 31, 3) := by decide +kernel
theorem dX11_text_127 : decode cX11_text 127 = .ok (.iload_n 2, 1) := by decide +kernel
theorem dX11_text_128 : decode cX11_text 128 = .ok (.iconst 1, 1) := by decide +kernel
theorem dX11_text_129 : decode cX11_text 129 = .ok (.iadd, 1) := by decide +kernel
theorem dX11_text_130 : decode cX11_text 130 = .ok (.invokevirtual 56, 3) := by decide +kernel
theorem dX11_text_133 : decode cX11_text 133 = .ok (.invokevirtual 39, 3) := by decide +kernel
theorem dX11_text_136 : decode cX11_text 136 = .ok (.invokevirtual 46, 3) := by decide +kernel
theorem dX11_text_139 : decode cX11_text 139 = .ok (.astore_n 3, 1) := by decide +kernel
theorem dX11_text_140 : decode cX11_text 140 = .ok (.iload_n 2, 1) := by decide +kernel
theorem dX11_text_141 : decode cX11_text 141 = .ok (.iload_n 1, 1) := by decide +kernel
theorem dX11_text_142 : decode cX11_text 142 = .ok (.if_icmp .ge 30, 3) := by decide +kernel
theorem dX11_text_145 : decode cX11_text 145 = .ok (.new 34, 3) := by decide +kernel
theorem dX11_text_148 : decode cX11_text 148 = .ok (.dup, 1) := by decide +kernel
theorem dX11_text_149 : decode cX11_text 149 = .ok (.invokespecial 36, 3) := by decide +kernel
theorem dX11_text_152 : decode cX11_text 152 = .ok (.ldc 68, 2) := by decide +kernel
theorem dX11_text_154 : decode cX11_text 154 = .ok (.invokevirtual 39, 3) := by decide +kernel
theorem dX11_text_157 : decode cX11_text 157 = .ok (.aload_n 3, 1) := by decide +kernel
theorem dX11_text_158 : decode cX11_text 158 = .ok (.invokevirtual 39, 3) := by decide +kernel
theorem dX11_text_161 : decode cX11_text 161 = .ok (.ldc 70, 2) := by decide +kernel
theorem dX11_text_163 : decode cX11_text 163 = .ok (.invokevirtual 39, 3) := by decide +kernel
theorem dX11_text_166 : decode cX11_text 166 = .ok (.invokevirtual 46, 3) := by decide +kernel
theorem dX11_text_169 : decode cX11_text 169 = .ok (.goto 4, 3) := by decide +kernel
theorem dX11_text_172 : decode cX11_text 172 = .ok (.aload_n 3, 1) := by decide +kernel
theorem dX11_text_173 : decode cX11_text 173 = .ok (.areturn, 1) := by decide +kernel
theorem dX11_value_0 : decode cX11_value 0 = .ok (.aload_n 0, 1) := by decide +kernel
theorem dX11_value_1 : decode cX11_value 1 = .ok (.getfield 16, 3) := by decide +kernel
theorem dX11_value_4 : decode cX11_value 4 = .ok (.iconst 2, 1) := by decide +kernel
theorem dX11_value_5 : decode cX11_value 5 = .ok (.if_icmp .ge 25, 3) := by decide +kernel
theorem dX11_value_8 : decode cX11_value 8 = .ok (.aload_n 0, 1) := by decide +kernel
theorem dX11_value_9 : decode cX11_value 9 = .ok (.getfield 16, 3) := by decide +kernel
theorem dX11_value_12 : decode cX11_value 12 = .ok (.ifCond .ne 11, 3) := by decide +kernel
theorem dX11_value_15 : decode cX11_value 15 = .ok (.aload_n 0, 1) := by decide +kernel
theorem dX11_value_16 : decode cX11_value 16 = .ok (.getfield 20, 3) := by decide +kernel
theorem dX11_value_19 : decode cX11_value 19 = .ok (.i2l, 1) := by decide +kernel
theorem dX11_value_20 : decode cX11_value 20 = .ok (.goto 9, 3) := by decide +kernel
theorem dX11_value_23 : decode cX11_value 23 = .ok (.aload_n 1, 1) := by decide +kernel
theorem dX11_value_24 : decode cX11_value 24 = .ok (.aload_n 0, 1) := by decide +kernel
theorem dX11_value_25 : decode cX11_value 25 = .ok (.getfield 20, 3) := by decide +kernel
theorem dX11_value_28 : decode cX11_value 28 = .ok (.laload, 1) := by decide +kernel
theorem dX11_value_29 : decode cX11_value 29 = .ok (.lreturn, 1) := by decide +kernel
theorem dX11_value_30 : decode cX11_value 30 = .ok (.aload_n 0, 1) := by decide +kernel
theorem dX11_value_31 : decode cX11_value 31 = .ok (.getfield 27, 3) := by decide +kernel
theorem dX11_value_34 : decode cX11_value 34 = .ok (.aload_n 1, 1) := by decide +kernel
theorem dX11_value_35 : decode cX11_value 35 = .ok (.invokevirtual 72, 3) := by decide +kernel
theorem dX11_value_38 : decode cX11_value 38 = .ok (.lstore_n 2, 1) := by decide +kernel
theorem dX11_value_39 : decode cX11_value 39 = .ok (.aload_n 0, 1) := by decide +kernel
theorem dX11_value_40 : decode cX11_value 40 = .ok (.getfield 31, 3) := by decide +kernel
theorem dX11_value_43 : decode cX11_value 43 = .ok (.aload_n 1, 1) := by decide +kernel
theorem dX11_value_44 : decode cX11_value 44 = .ok (.invokevirtual 72, 3) := by decide +kernel
theorem dX11_value_47 : decode cX11_value 47 = .ok (.lstore 4, 2) := by decide +kernel
theorem dX11_value_49 : decode cX11_value 49 = .ok (.aload_n 0, 1) := by decide +kernel
theorem dX11_value_50 : decode cX11_value 50 = .ok (.getfield 16, 3) := by decide +kernel
theorem dX11_value_53 : decode cX11_value 53 = .ok (.iconst 2, 1) := by decide +kernel
theorem dX11_value_54 : decode cX11_value 54 = .ok (.if_icmp .ne 10, 3) := by decide +kernel
theorem dX11_value_57 : decode cX11_value 57 = .ok (.lload_n 2, 1) := by decide +kernel
theorem dX11_value_58 : decode cX11_value 58 = .ok (.lload 4, 2) := by decide +kernel
theorem dX11_value_60 : decode cX11_value 60 = .ok (.ladd, 1) := by decide +kernel
theorem dX11_value_61 : decode cX11_value 61 = .ok (.goto 48, 3) := by decide +kernel
theorem dX11_value_64 : decode cX11_value 64 = .ok (.aload_n 0, 1) := by decide +kernel
theorem dX11_value_65 : decode cX11_value 65 = .ok (.getfield 16, 3) := by decide +kernel
theorem dX11_value_68 : decode cX11_value 68 = .ok (.iconst 3, 1) := by decide +kernel
theorem dX11_value_69 : decode cX11_value 69 = .ok (.if_icmp .ne 10, 3) := by decide +kernel
theorem dX11_value_72 : decode cX11_value 72 = .ok (.lload_n 2, 1) := by decide +kernel
theorem dX11_value_73 : decode cX11_value 73 = .ok (.lload 4, 2) := by decide +kernel
theorem dX11_value_75 : decode cX11_value 75 = .ok (.lsub, 1) := by decide +kernel
theorem dX11_value_76 : decode cX11_value 76 = .ok (.goto 33, 3) := by decide +kernel
theorem dX11_value_79 : decode cX11_value 79 = .ok (.aload_n 0, 1) := by decide +kernel
theorem dX11_value_80 : decode cX11_value 80 = .ok (.getfield 16, 3) := by decide +kernel
theorem dX11_value_83 : decode cX11_value 83 = .ok (.iconst 4, 1) := by decide +kernel
theorem dX11_value_84 : decode cX11_value 84 = .ok (.if_icmp .ne 10, 3) := by decide +kernel
theorem dX11_value_87 : decode cX11_value 87 = .ok (.lload_n 2, 1) := by decide +kernel
theorem dX11_value_88 : decode cX11_value 88 = .ok (.lload 4, 2) := by decide +kernel
theorem dX11_value_90 : decode cX11_value 90 = .ok (.lmul, 1) := by decide +kernel
theorem dX11_value_91 : decode cX11_value 91 = .ok (.goto 18, 3) := by decide +kernel
theorem dX11_value_94 : decode cX11_value 94 = .ok (.lload 4, 2) := by decide +kernel
theorem dX11_value_96 : decode cX11_value 96 = .ok (.lconst 0, 1) := by decide +kernel
theorem dX11_value_97 : decode cX11_value 97 = .ok (.lcmp, 1) := by decide +kernel
theorem dX11_value_98 : decode cX11_value 98 = .ok (.ifCond .ne 7, 3) := by decide +kernel
theorem dX11_value_101 : decode cX11_value 101 = .ok (.lconst 0, 1) := by decide +kernel
theorem dX11_value_102 : decode cX11_value 102 = .ok (.goto 7, 3) := by decide +kernel
theorem dX11_value_105 : decode cX11_value 105 = .ok (.lload_n 2, 1) := by decide +kernel
theorem dX11_value_106 : decode cX11_value 106 = .ok (.lload 4, 2) := by decide +kernel
theorem dX11_value_108 : decode cX11_value 108 = .ok (.ldiv, 1) := by decide +kernel
theorem dX11_value_109 : decode cX11_value 109 = .ok (.lstore 6, 2) := by decide +kernel
theorem dX11_value_111 : decode cX11_value 111 = .ok (.ldc2_w 76, 3) := by decide +kernel
theorem dX11_value_114 : decode cX11_value 114 = .ok (.ldc2_w 78, 3) := by decide +kernel
theorem dX11_value_117 : decode cX11_value 117 = .ok (.lload 6, 2) := by decide +kernel
theorem dX11_value_119 : decode cX11_value 119 = .ok (.invokestatic 80, 3) := by decide +kernel
theorem dX11_value_122 : decode cX11_value 122 = .ok (.invokestatic 86, 3) := by decide +kernel
theorem dX11_value_125 : decode cX11_value 125 = .ok (.lreturn, 1) := by decide +kernel
