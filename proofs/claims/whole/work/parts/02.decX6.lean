theorem dX6_init_0 : decode cX6_init 0 = .ok (.aload_n 0, 1) := by decide +kernel
theorem dX6_init_1 : decode cX6_init 1 = .ok (.invokespecial 3, 3) := by decide +kernel
theorem dX6_init_4 : decode cX6_init 4 = .ok (.aload_n 0, 1) := by decide +kernel
theorem dX6_init_5 : decode cX6_init 5 = .ok (.sipush 800, 3) := by decide +kernel
theorem dX6_init_8 : decode cX6_init 8 = .ok (.newarray .byte, 2) := by decide +kernel
theorem dX6_init_10 : decode cX6_init 10 = .ok (.putfield 9, 3) := by decide +kernel
theorem dX6_init_13 : decode cX6_init 13 = .ok (.aload_n 0, 1) := by decide +kernel
theorem dX6_init_14 : decode cX6_init 14 = .ok (.iconst 0, 1) := by decide +kernel
theorem dX6_init_15 : decode cX6_init 15 = .ok (.putfield 15, 3) := by decide +kernel
theorem dX6_init_18 : decode cX6_init 18 = .ok (.aload_n 0, 1) := by decide +kernel
theorem dX6_init_19 : decode cX6_init 19 = .ok (.iconst 0, 1) := by decide +kernel
theorem dX6_init_20 : decode cX6_init 20 = .ok (.putfield 19, 3) := by decide +kernel
theorem dX6_init_23 : decode cX6_init 23 = .ok (.aload_n 0, 1) := by decide +kernel
theorem dX6_init_24 : decode cX6_init 24 = .ok (.iconst 0, 1) := by decide +kernel
theorem dX6_init_25 : decode cX6_init 25 = .ok (.putfield 22, 3) := by decide +kernel
theorem dX6_init_28 : decode cX6_init 28 = .ok (.aload_n 0, 1) := by decide +kernel
theorem dX6_init_29 : decode cX6_init 29 = .ok (.iconst 0, 1) := by decide +kernel
theorem dX6_init_30 : decode cX6_init 30 = .ok (.putfield 25, 3) := by decide +kernel
theorem dX6_init_33 : decode cX6_init 33 = .ok (.aload_n 0, 1) := by decide +kernel
theorem dX6_init_34 : decode cX6_init 34 = .ok (.lconst 0, 1) := by decide +kernel
theorem dX6_init_35 : decode cX6_init 35 = .ok (.putfield 28, 3) := by decide +kernel
theorem dX6_init_38 : decode cX6_init 38 = .ok (.aload_n 0, 1) := by decide +kernel
theorem dX6_init_39 : decode cX6_init 39 = .ok (.iconst 0, 1) := by decide +kernel
theorem dX6_init_40 : decode cX6_init 40 = .ok (.putfield 32, 3) := by decide +kernel
theorem dX6_init_43 : decode cX6_init 43 = .ok (.aload_n 0, 1) := by decide +kernel
theorem dX6_init_44 : decode cX6_init 44 = .ok (.iconst 0, 1) := by decide +kernel
theorem dX6_init_45 : decode cX6_init 45 = .ok (.putfield 35, 3) := by decide +kernel
theorem dX6_init_48 : decode cX6_init 48 = .ok (.return_, 1) := by decide +kernel
theorem dX6_startText_0 : decode cX6_startText 0 = .ok (.aload_n 0, 1) := by decide +kernel
theorem dX6_startText_1 : decode cX6_startText 1 = .ok (.iload_n 2, 1) := by decide +kernel
theorem dX6_startText_2 : decode cX6_startText 2 = .ok (.sipush 800, 3) := by decide +kernel
theorem dX6_startText_5 : decode cX6_startText 5 = .ok (.invokestatic 38, 3) := by decide +kernel
theorem dX6_startText_8 : decode cX6_startText 8 = .ok (.putfield 15, 3) := by decide +kernel
theorem dX6_startText_11 : decode cX6_startText 11 = .ok (.aload_n 1, 1) := by decide +kernel
theorem dX6_startText_12 : decode cX6_startText 12 = .ok (.iconst 0, 1) := by decide +kernel
theorem dX6_startText_13 : decode cX6_startText 13 = .ok (.aload_n 0, 1) := by decide +kernel
theorem dX6_startText_14 : decode cX6_startText 14 = .ok (.getfield 9, 3) := by decide +kernel
theorem dX6_startText_17 : decode cX6_startText 17 = .ok (.iconst 0, 1) := by decide +kernel
theorem dX6_startText_18 : decode cX6_startText 18 = .ok (.aload_n 0, 1) := by decide +kernel
theorem dX6_startText_19 : decode cX6_startText 19 = .ok (.getfield 15, 3) := by decide +kernel
theorem dX6_startText_22 : decode cX6_startText 22 = .ok (.invokestatic 44, 3) := by decide +kernel
theorem dX6_startText_25 : decode cX6_startText 25 = .ok (.aload_n 0, 1) := by decide +kernel
theorem dX6_startText_26 : decode cX6_startText 26 = .ok (.iconst 0, 1) := by decide +kernel
theorem dX6_startText_27 : decode cX6_startText 27 = .ok (.putfield 19, 3) := by decide +kernel
theorem dX6_startText_30 : decode cX6_startText 30 = .ok (.aload_n 0, 1) := by decide +kernel
theorem dX6_startText_31 : decode cX6_startText 31 = .ok (.invokevirtual 50, 3) := by decide +kernel
theorem dX6_startText_34 : decode cX6_startText 34 = .ok (.return_, 1) := by decide +kernel
theorem dX6_advance_0 : decode cX6_advance 0 = .ok (.aload_n 0, 1) := by decide +kernel
theorem dX6_advance_1 : decode cX6_advance 1 = .ok (.getfield 19, 3) := by decide +kernel
theorem dX6_advance_4 : decode cX6_advance 4 = .ok (.aload_n 0, 1) := by decide +kernel
theorem dX6_advance_5 : decode cX6_advance 5 = .ok (.getfield 15, 3) := by decide +kernel
theorem dX6_advance_8 : decode cX6_advance 8 = .ok (.if_icmp .ge 30, 3) := by decide +kernel
theorem dX6_advance_11 : decode cX6_advance 11 = .ok (.aload_n 0, 1) := by decide +kernel
theorem dX6_advance_12 : decode cX6_advance 12 = .ok (.getfield 9, 3) := by decide +kernel
theorem dX6_advance_15 : decode cX6_advance 15 = .ok (.aload_n 0, 1) := by decide +kernel
theorem dX6_advance_16 : decode cX6_advance 16 = .ok (.getfield 19, 3) := by decide +kernel
theorem dX6_advance_19 : decode cX6_advance 19 = .ok (.baload, 1) := by decide +kernel
theorem dX6_advance_20 : decode cX6_advance 20 = .ok (.bipush 32, 2) := by decide +kernel
theorem dX6_advance_22 : decode cX6_advance 22 = .ok (.if_icmp .ne 16, 3) := by decide +kernel
theorem dX6_advance_25 : decode cX6_advance 25 = .ok (.aload_n 0, 1) := by decide +kernel
theorem dX6_advance_26 : decode cX6_advance 26 = .ok (.dup, 1) := by decide +kernel
theorem dX6_advance_27 : decode cX6_advance 27 = .ok (.getfield 19, 3) := by decide +kernel
theorem dX6_advance_30 : decode cX6_advance 30 = .ok (.iconst 1, 1) := by decide +kernel
theorem dX6_advance_31 : decode cX6_advance 31 = .ok (.iadd, 1) := by decide +kernel
theorem dX6_advance_32 : decode cX6_advance 32 = .ok (.putfield 19, 3) := by decide +kernel
theorem dX6_advance_35 : decode cX6_advance 35 = .ok (.goto (-35), 3) := by decide +kernel
theorem dX6_advance_38 : decode cX6_advance 38 = .ok (.aload_n 0, 1) := by decide +kernel
theorem dX6_advance_39 : decode cX6_advance 39 = .ok (.aload_n 0, 1) := by decide +kernel
theorem dX6_advance_40 : decode cX6_advance 40 = .ok (.getfield 19, 3) := by decide +kernel
theorem dX6_advance_43 : decode cX6_advance 43 = .ok (.putfield 25, 3) := by decide +kernel
theorem dX6_advance_46 : decode cX6_advance 46 = .ok (.aload_n 0, 1) := by decide +kernel
theorem dX6_advance_47 : decode cX6_advance 47 = .ok (.getfield 19, 3) := by decide +kernel
theorem dX6_advance_50 : decode cX6_advance 50 = .ok (.aload_n 0, 1) := by decide +kernel
theorem dX6_advance_51 : decode cX6_advance 51 = .ok (.getfield 15, 3) := by decide +kernel
theorem dX6_advance_54 : decode cX6_advance 54 = .ok (.if_icmp .lt 11, 3) := by decide +kernel
theorem dX6_advance_57 : decode cX6_advance 57 = .ok (.aload_n 0, 1) := by decide +kernel
theorem dX6_advance_58 : decode cX6_advance 58 = .ok (.iconst 0, 1) := by decide +kernel
theorem dX6_advance_59 : decode cX6_advance 59 = .ok (.putfield 22, 3) := by decide +kernel
theorem dX6_advance_62 : decode cX6_advance 62 = .ok (.goto 67, 3) := by decide +kernel
theorem dX6_advance_65 : decode cX6_advance 65 = .ok (.aload_n 0, 1) := by decide +kernel
theorem dX6_advance_66 : decode cX6_advance 66 = .ok (.aload_n 0, 1) := by decide +kernel
theorem dX6_advance_67 : decode cX6_advance 67 = .ok (.getfield 19, 3) := by decide +kernel
theorem dX6_advance_70 : decode cX6_advance 70 = .ok (.invokevirtual 53, 3) := by decide +kernel
theorem dX6_advance_73 : decode cX6_advance 73 = .ok (.ifCond .eq 10, 3) := by decide +kernel
theorem dX6_advance_76 : decode cX6_advance 76 = .ok (.aload_n 0, 1) := by decide +kernel
theorem dX6_advance_77 : decode cX6_advance 77 = .ok (.invokevirtual 57, 3) := by decide +kernel
theorem dX6_advance_80 : decode cX6_advance 80 = .ok (.goto 49, 3) := by decide +kernel
theorem dX6_advance_83 : decode cX6_advance 83 = .ok (.aload_n 0, 1) := by decide +kernel
theorem dX6_advance_84 : decode cX6_advance 84 = .ok (.aload_n 0, 1) := by decide +kernel
theorem dX6_advance_85 : decode cX6_advance 85 = .ok (.getfield 19, 3) := by decide +kernel
theorem dX6_advance_88 : decode cX6_advance 88 = .ok (.invokevirtual 60, 3) := by decide +kernel
theorem dX6_advance_91 : decode cX6_advance 91 = .ok (.ifCond .eq 10, 3) := by decide +kernel
theorem dX6_advance_94 : decode cX6_advance 94 = .ok (.aload_n 0, 1) := by decide +kernel
theorem dX6_advance_95 : decode cX6_advance 95 = .ok (.invokevirtual 63, 3) := by decide +kernel
theorem dX6_advance_98 : decode cX6_advance 98 = .ok (.goto 31, 3) := by decide +kernel
theorem dX6_advance_101 : decode cX6_advance 101 = .ok (.aload_n 0, 1) := by decide +kernel
theorem dX6_advance_102 : decode cX6_advance 102 = .ok (.iconst 3, 1) := by decide +kernel
theorem dX6_advance_103 : decode cX6_advance 103 = .ok (.putfield 22, 3) := by decide +kernel
theorem dX6_advance_106 : decode cX6_advance 106 = .ok (.aload_n 0, 1) := by decide +kernel
theorem dX6_advance_107 : decode cX6_advance 107 = .ok (.aload_n 0, 1) := by decide +kernel
theorem dX6_advance_108 : decode cX6_advance 108 = .ok (.getfield 9, 3) := by decide +kernel
theorem dX6_advance_111 : decode cX6_advance 111 = .ok (.aload_n 0, 1) := by decide +kernel
theorem dX6_advance_112 : decode cX6_advance 112 = .ok (.getfield 19, 3) := by decide +kernel
theorem dX6_advance_115 : decode cX6_advance 115 = .ok (.baload, 1) := by decide +kernel
theorem dX6_advance_116 : decode cX6_advance 116 = .ok (.putfield 35, 3) := by decide +kernel
theorem dX6_advance_119 : decode cX6_advance 119 = .ok (.aload_n 0, 1) := by decide +kernel
theorem dX6_advance_120 : decode cX6_advance 120 = .ok (.dup, 1) := by decide +kernel
theorem dX6_advance_121 : decode cX6_advance 121 = .ok (.getfield 19, 3) := by decide +kernel
theorem dX6_advance_124 : decode cX6_advance 124 = .ok (.iconst 1, 1) := by decide +kernel
theorem dX6_advance_125 : decode cX6_advance 125 = .ok (.iadd, 1) := by decide +kernel
theorem dX6_advance_126 : decode cX6_advance 126 = .ok (.putfield 19, 3) := by decide +kernel
theorem dX6_advance_129 : decode cX6_advance 129 = .ok (.return_, 1) := by decide +kernel
theorem dX6_takeWord_0 : decode cX6_takeWord 0 = .ok (.aload_n 0, 1) := by decide +kernel
theorem dX6_takeWord_1 : decode cX6_takeWord 1 = .ok (.lconst 0, 1) := by decide +kernel
theorem dX6_takeWord_2 : decode cX6_takeWord 2 = .ok (.putfield 28, 3) := by decide +kernel
theorem dX6_takeWord_5 : decode cX6_takeWord 5 = .ok (.aload_n 0, 1) := by decide +kernel
theorem dX6_takeWord_6 : decode cX6_takeWord 6 = .ok (.getfield 19, 3) := by decide +kernel
theorem dX6_takeWord_9 : decode cX6_takeWord 9 = .ok (.aload_n 0, 1) := by decide +kernel
theorem dX6_takeWord_10 : decode cX6_takeWord 10 = .ok (.getfield 15, 3) := by decide +kernel
theorem dX6_takeWord_13 : decode cX6_takeWord 13 = .ok (.if_icmp .ge 49, 3) := by decide +kernel
theorem dX6_takeWord_16 : decode cX6_takeWord 16 = .ok (.aload_n 0, 1) := by decide +kernel
theorem dX6_takeWord_17 : decode cX6_takeWord 17 = .ok (.aload_n 0, 1) := by decide +kernel
theorem dX6_takeWord_18 : decode cX6_takeWord 18 = .ok (.getfield 19, 3) := by decide +kernel
theorem dX6_takeWord_21 : decode cX6_takeWord 21 = .ok (.invokevirtual 53, 3) := by decide +kernel
theorem dX6_takeWord_24 : decode cX6_takeWord 24 = .ok (.ifCond .eq 38, 3) := by decide +kernel
theorem dX6_takeWord_27 : decode cX6_takeWord 27 = .ok (.aload_n 0, 1) := by decide +kernel
theorem dX6_takeWord_28 : decode cX6_takeWord 28 = .ok (.aload_n 0, 1) := by decide +kernel
theorem dX6_takeWord_29 : decode cX6_takeWord 29 = .ok (.getfield 28, 3) := by decide +kernel
theorem dX6_takeWord_32 : decode cX6_takeWord 32 = .ok (.bipush 8, 2) := by decide +kernel
theorem dX6_takeWord_34 : decode cX6_takeWord 34 = .ok (.lshl, 1) := by decide +kernel
theorem dX6_takeWord_35 : decode cX6_takeWord 35 = .ok (.aload_n 0, 1) := by decide +kernel
theorem dX6_takeWord_36 : decode cX6_takeWord 36 = .ok (.getfield 9, 3) := by decide +kernel
theorem dX6_takeWord_39 : decode cX6_takeWord 39 = .ok (.aload_n 0, 1) := by decide +kernel
theorem dX6_takeWord_40 : decode cX6_takeWord 40 = .ok (.getfield 19, 3) := by decide +kernel
theorem dX6_takeWord_43 : decode cX6_takeWord 43 = .ok (.baload, 1) := by decide +kernel
theorem dX6_takeWord_44 : decode cX6_takeWord 44 = .ok (.i2l, 1) := by decide +kernel
theorem dX6_takeWord_45 : decode cX6_takeWord 45 = .ok (.lor, 1) := by decide +kernel
theorem dX6_takeWord_46 : decode cX6_takeWord 46 = .ok (.putfield 28, 3) := by decide +kernel
theorem dX6_takeWord_49 : decode cX6_takeWord 49 = .ok (.aload_n 0, 1) := by decide +kernel
theorem dX6_takeWord_50 : decode cX6_takeWord 50 = .ok (.dup, 1) := by decide +kernel
theorem dX6_takeWord_51 : decode cX6_takeWord 51 = .ok (.getfield 19, 3) := by decide +kernel
theorem dX6_takeWord_54 : decode cX6_takeWord 54 = .ok (.iconst 1, 1) := by decide +kernel
theorem dX6_takeWord_55 : decode cX6_takeWord 55 = .ok (.iadd, 1) := by decide +kernel
theorem dX6_takeWord_56 : decode cX6_takeWord 56 = .ok (.putfield 19, 3) := by decide +kernel
theorem dX6_takeWord_59 : decode cX6_takeWord 59 = .ok (.goto (-54), 3) := by decide +kernel
theorem dX6_takeWord_62 : decode cX6_takeWord 62 = .ok (.aload_n 0, 1) := by decide +kernel
theorem dX6_takeWord_63 : decode cX6_takeWord 63 = .ok (.aload_n 0, 1) := by decide +kernel
theorem dX6_takeWord_64 : decode cX6_takeWord 64 = .ok (.getfield 19, 3) := by decide +kernel
theorem dX6_takeWord_67 : decode cX6_takeWord 67 = .ok (.aload_n 0, 1) := by decide +kernel
theorem dX6_takeWord_68 : decode cX6_takeWord 68 = .ok (.getfield 25, 3) := by decide +kernel
theorem dX6_takeWord_71 : decode cX6_takeWord 71 = .ok (.isub, 1) := by decide +kernel
theorem dX6_takeWord_72 : decode cX6_takeWord 72 = .ok (.bipush 8, 2) := by decide +kernel
theorem dX6_takeWord_74 : decode cX6_takeWord 74 = .ok (.if_icmp .gt 7, 3) := by decide +kernel
theorem dX6_takeWord_77 : decode cX6_takeWord 77 = .ok (.iconst 1, 1) := by decide +kernel
theorem dX6_takeWord_78 : decode cX6_takeWord 78 = .ok (.goto 4, 3) := by decide +kernel
theorem dX6_takeWord_81 : decode cX6_takeWord 81 = .ok (.iconst 4, 1) := by decide +kernel
theorem dX6_takeWord_82 : decode cX6_takeWord 82 = .ok (.putfield 22, 3) := by decide +kernel
theorem dX6_takeWord_85 : decode cX6_takeWord 85 = .ok (.return_, 1) := by decide +kernel
theorem dX6_takeNumber_0 : decode cX6_takeNumber 0 = .ok (.aload_n 0, 1) := by decide +kernel
theorem dX6_takeNumber_1 : decode cX6_takeNumber 1 = .ok (.iconst 0, 1) := by decide +kernel
theorem dX6_takeNumber_2 : decode cX6_takeNumber 2 = .ok (.putfield 32, 3) := by decide +kernel
theorem dX6_takeNumber_5 : decode cX6_takeNumber 5 = .ok (.aload_n 0, 1) := by decide +kernel
theorem dX6_takeNumber_6 : decode cX6_takeNumber 6 = .ok (.getfield 19, 3) := by decide +kernel
theorem dX6_takeNumber_9 : decode cX6_takeNumber 9 = .ok (.aload_n 0, 1) := by decide +kernel
theorem dX6_takeNumber_10 : decode cX6_takeNumber 10 = .ok (.getfield 15, 3) := by decide +kernel
theorem dX6_takeNumber_13 : decode cX6_takeNumber 13 = .ok (.if_icmp .ge 56, 3) := by decide +kernel
theorem dX6_takeNumber_16 : decode cX6_takeNumber 16 = .ok (.aload_n 0, 1) := by decide +kernel
theorem dX6_takeNumber_17 : decode cX6_takeNumber 17 = .ok (.aload_n 0, 1) := by decide +kernel
theorem dX6_takeNumber_18 : decode cX6_takeNumber 18 = .ok (.getfield 19, 3) := by decide +kernel
theorem dX6_takeNumber_21 : decode cX6_takeNumber 21 = .ok (.invokevirtual 60, 3) := by decide +kernel
theorem dX6_takeNumber_24 : decode cX6_takeNumber 24 = .ok (.ifCond .eq 45, 3) := by decide +kernel
theorem dX6_takeNumber_27 : decode cX6_takeNumber 27 = .ok (.aload_n 0, 1) := by decide +kernel
theorem dX6_takeNumber_28 : decode cX6_takeNumber 28 = .ok (.ldc 66, 2) := by decide +kernel
theorem dX6_takeNumber_30 : decode cX6_takeNumber 30 = .ok (.aload_n 0, 1) := by decide +kernel
theorem dX6_takeNumber_31 : decode cX6_takeNumber 31 = .ok (.getfield 32, 3) := by decide +kernel
theorem dX6_takeNumber_34 : decode cX6_takeNumber 34 = .ok (.bipush 10, 2) := by decide +kernel
theorem dX6_takeNumber_36 : decode cX6_takeNumber 36 = .ok (.imul, 1) := by decide +kernel
theorem dX6_takeNumber_37 : decode cX6_takeNumber 37 = .ok (.aload_n 0, 1) := by decide +kernel
theorem dX6_takeNumber_38 : decode cX6_takeNumber 38 = .ok (.getfield 9, 3) := by decide +kernel
theorem dX6_takeNumber_41 : decode cX6_takeNumber 41 = .ok (.aload_n 0, 1) := by decide +kernel
theorem dX6_takeNumber_42 : decode cX6_takeNumber 42 = .ok (.getfield 19, 3) := by decide +kernel
theorem dX6_takeNumber_45 : decode cX6_takeNumber 45 = .ok (.baload, 1) := by decide +kernel
theorem dX6_takeNumber_46 : decode cX6_takeNumber 46 = .ok (.bipush 48, 2) := by decide +kernel
theorem dX6_takeNumber_48 : decode cX6_takeNumber 48 = .ok (.isub, 1) := by decide +kernel
theorem dX6_takeNumber_49 : decode cX6_takeNumber 49 = .ok (.iadd, 1) := by decide +kernel
theorem dX6_takeNumber_50 : decode cX6_takeNumber 50 = .ok (.invokestatic 38, 3) := by decide +kernel
theorem dX6_takeNumber_53 : decode cX6_takeNumber 53 = .ok (.putfield 32, 3) := by decide +kernel
theorem dX6_takeNumber_56 : decode cX6_takeNumber 56 = .ok (.aload_n 0, 1) := by decide +kernel
theorem dX6_takeNumber_57 : decode cX6_takeNumber 57 = .ok (.dup, 1) := by decide +kernel
theorem dX6_takeNumber_58 : decode cX6_takeNumber 58 = .ok (.getfield 19, 3) := by decide +kernel
theorem dX6_takeNumber_61 : decode cX6_takeNumber 61 = .ok (.iconst 1, 1) := by decide +kernel
theorem dX6_takeNumber_62 : decode cX6_takeNumber 62 = .ok (.iadd, 1) := by decide +kernel
theorem dX6_takeNumber_63 : decode cX6_takeNumber 63 = .ok (.putfield 19, 3) := by decide +kernel
theorem dX6_takeNumber_66 : decode cX6_takeNumber 66 = .ok (.goto (-61), 3) := by decide +kernel
theorem dX6_takeNumber_69 : decode cX6_takeNumber 69 = .ok (.aload_n 0, 1) := by decide +kernel
theorem dX6_takeNumber_70 : decode cX6_takeNumber 70 = .ok (.iconst 2, 1) := by decide +kernel
theorem dX6_takeNumber_71 : decode cX6_takeNumber 71 = .ok (.putfield 22, 3) := by decide +kernel
theorem dX6_takeNumber_74 : decode cX6_takeNumber 74 = .ok (.return_, 1) := by decide +kernel
theorem dX6_isLetterAt_0 : decode cX6_isLetterAt 0 = .ok (.aload_n 0, 1) := by decide +kernel
theorem dX6_isLetterAt_1 : decode cX6_isLetterAt 1 = .ok (.getfield 9, 3) := by decide +kernel
theorem dX6_isLetterAt_4 : decode cX6_isLetterAt 4 = .ok (.iload_n 1, 1) := by decide +kernel
theorem dX6_isLetterAt_5 : decode cX6_isLetterAt 5 = .ok (.baload, 1) := by decide +kernel
theorem dX6_isLetterAt_6 : decode cX6_isLetterAt 6 = .ok (.bipush 97, 2) := by decide +kernel
theorem dX6_isLetterAt_8 : decode cX6_isLetterAt 8 = .ok (.if_icmp .lt 18, 3) := by decide +kernel
theorem dX6_isLetterAt_11 : decode cX6_isLetterAt 11 = .ok (.aload_n 0, 1) := by decide +kernel
theorem dX6_isLetterAt_12 : decode cX6_isLetterAt 12 = .ok (.getfield 9, 3) := by decide +kernel
theorem dX6_isLetterAt_15 : decode cX6_isLetterAt 15 = .ok (.iload_n 1, 1) := by decide +kernel
theorem dX6_isLetterAt_16 : decode cX6_isLetterAt 16 = .ok (.baload, 1) := by decide +kernel
theorem dX6_isLetterAt_17 : decode cX6_isLetterAt 17 = .ok (.bipush 122, 2) := by decide +kernel
theorem dX6_isLetterAt_19 : decode cX6_isLetterAt 19 = .ok (.if_icmp .gt 7, 3) := by decide +kernel
theorem dX6_isLetterAt_22 : decode cX6_isLetterAt 22 = .ok (.iconst 1, 1) := by decide +kernel
theorem dX6_isLetterAt_23 : decode cX6_isLetterAt 23 = .ok (.goto 4, 3) := by decide +kernel
theorem dX6_isLetterAt_26 : decode cX6_isLetterAt 26 = .ok (.iconst 0, 1) := by decide +kernel
theorem dX6_isLetterAt_27 : decode cX6_isLetterAt 27 = .ok (.ireturn, 1) := by decide +kernel
theorem dX6_isDigitAt_0 : decode cX6_isDigitAt 0 = .ok (.aload_n 0, 1) := by decide +kernel
theorem dX6_isDigitAt_1 : decode cX6_isDigitAt 1 = .ok (.getfield 9, 3) := by decide +kernel
theorem dX6_isDigitAt_4 : decode cX6_isDigitAt 4 = .ok (.iload_n 1, 1) := by decide +kernel
theorem dX6_isDigitAt_5 : decode cX6_isDigitAt 5 = .ok (.baload, 1) := by decide +kernel
theorem dX6_isDigitAt_6 : decode cX6_isDigitAt 6 = .ok (.bipush 48, 2) := by decide +kernel
theorem dX6_isDigitAt_8 : decode cX6_isDigitAt 8 = .ok (.if_icmp .lt 18, 3) := by decide +kernel
theorem dX6_isDigitAt_11 : decode cX6_isDigitAt 11 = .ok (.aload_n 0, 1) := by decide +kernel
theorem dX6_isDigitAt_12 : decode cX6_isDigitAt 12 = .ok (.getfield 9, 3) := by decide +kernel
theorem dX6_isDigitAt_15 : decode cX6_isDigitAt 15 = .ok (.iload_n 1, 1) := by decide +kernel
theorem dX6_isDigitAt_16 : decode cX6_isDigitAt 16 = .ok (.baload, 1) := by decide +kernel
theorem dX6_isDigitAt_17 : decode cX6_isDigitAt 17 = .ok (.bipush 57, 2) := by decide +kernel
theorem dX6_isDigitAt_19 : decode cX6_isDigitAt 19 = .ok (.if_icmp .gt 7, 3) := by decide +kernel
theorem dX6_isDigitAt_22 : decode cX6_isDigitAt 22 = .ok (.iconst 1, 1) := by decide +kernel
theorem dX6_isDigitAt_23 : decode cX6_isDigitAt 23 = .ok (.goto 4, 3) := by decide +kernel
theorem dX6_isDigitAt_26 : decode cX6_isDigitAt 26 = .ok (.iconst 0, 1) := by decide +kernel
theorem dX6_isDigitAt_27 : decode cX6_isDigitAt 27 = .ok (.ireturn, 1) := by decide +kernel
theorem dX6_isSign_0 : decode cX6_isSign 0 = .ok (.aload_n 0, 1) := by decide +kernel
theorem dX6_isSign_1 : decode cX6_isSign 1 = .ok (.getfield 22, 3) := by decide +kernel
theorem dX6_isSign_4 : decode cX6_isSign 4 = .ok (.iconst 3, 1) := by decide +kernel
theorem dX6_isSign_5 : decode cX6_isSign 5 = .ok (.if_icmp .ne 15, 3) := by decide +kernel
theorem dX6_isSign_8 : decode cX6_isSign 8 = .ok (.aload_n 0, 1) := by decide +kernel
theorem dX6_isSign_9 : decode cX6_isSign 9 = .ok (.getfield 35, 3) := by decide +kernel
theorem dX6_isSign_12 : decode cX6_isSign 12 = .ok (.iload_n 1, 1) := by decide +kernel
theorem dX6_isSign_13 : decode cX6_isSign 13 = .ok (.if_icmp .ne 7, 3) := by decide +kernel
theorem dX6_isSign_16 : decode cX6_isSign 16 = .ok (.iconst 1, 1) := by decide +kernel
theorem dX6_isSign_17 : decode cX6_isSign 17 = .ok (.goto 4, 3) := by decide +kernel
theorem dX6_isSign_20 : decode cX6_isSign 20 = .ok (.iconst 0, 1) := by decide +kernel
theorem dX6_isSign_21 : decode cX6_isSign 21 = .ok (.ireturn, 1) := by decide +kernel
theorem dX6_isWord_0 : decode cX6_isWord 0 = .ok (.aload_n 0, 1) := by decide +kernel
theorem dX6_isWord_1 : decode cX6_isWord 1 = .ok (.getfield 22, 3) := by decide +kernel
theorem dX6_isWord_4 : decode cX6_isWord 4 = .ok (.iconst 1, 1) := by decide +kernel
theorem dX6_isWord_5 : decode cX6_isWord 5 = .ok (.if_icmp .ne 19, 3) := by decide +kernel
theorem dX6_isWord_8 : decode cX6_isWord 8 = .ok (.aload_n 0, 1) := by decide +kernel
theorem dX6_isWord_9 : decode cX6_isWord 9 = .ok (.getfield 28, 3) := by decide +kernel
theorem dX6_isWord_12 : decode cX6_isWord 12 = .ok (.aload_n 1, 1) := by decide +kernel
theorem dX6_isWord_13 : decode cX6_isWord 13 = .ok (.invokestatic 67, 3) := by decide +kernel
theorem dX6_isWord_16 : decode cX6_isWord 16 = .ok (.lcmp, 1) := by decide +kernel
theorem dX6_isWord_17 : decode cX6_isWord 17 = .ok (.ifCond .ne 7, 3) := by decide +kernel
theorem dX6_isWord_20 : decode cX6_isWord 20 = .ok (.iconst 1, 1) := by decide +kernel
theorem dX6_isWord_21 : decode cX6_isWord 21 = .ok (.goto 4, 3) := by decide +kernel
theorem dX6_isWord_24 : decode cX6_isWord 24 = .ok (.iconst 0, 1) := by decide +kernel
theorem dX6_isWord_25 : decode cX6_isWord 25 = .ok (.ireturn, 1) := by decide +kernel
theorem dX6_packed_0 : decode cX6_packed 0 = .ok (.lconst 0, 1) := by decide +kernel
theorem dX6_packed_1 : decode cX6_packed 1 = .ok (.lstore_n 1, 1) := by decide +kernel
theorem dX6_packed_2 : decode cX6_packed 2 = .ok (.iconst 0, 1) := by decide +kernel
theorem dX6_packed_3 : decode cX6_packed 3 = .ok (.istore_n 3, 1) := by decide +kernel
theorem dX6_packed_4 : decode cX6_packed 4 = .ok (.iload_n 3, 1) := by decide +kernel
theorem dX6_packed_5 : decode cX6_packed 5 = .ok (.aload_n 0, 1) := by decide +kernel
theorem dX6_packed_6 : decode cX6_packed 6 = .ok (.invokevirtual 71, 3) := by decide +kernel
theorem dX6_packed_9 : decode cX6_packed 9 = .ok (.if_icmp .ge 21, 3) := by decide +kernel
theorem dX6_packed_12 : decode cX6_packed 12 = .ok (.lload_n 1, 1) := by decide +kernel
theorem dX6_packed_13 : decode cX6_packed 13 = .ok (.bipush 8, 2) := by decide +kernel
theorem dX6_packed_15 : decode cX6_packed 15 = .ok (.lshl, 1) := by decide +kernel
theorem dX6_packed_16 : decode cX6_packed 16 = .ok (.aload_n 0, 1) := by decide +kernel
theorem dX6_packed_17 : decode cX6_packed 17 = .ok (.iload_n 3, 1) := by decide +kernel
theorem dX6_packed_18 : decode cX6_packed 18 = .ok (.invokevirtual 76, 3) := by decide +kernel
theorem dX6_packed_21 : decode cX6_packed 21 = .ok (.i2l, 1) := by decide +kernel
theorem dX6_packed_22 : decode cX6_packed 22 = .ok (.lor, 1) := by decide +kernel
theorem dX6_packed_23 : decode cX6_packed 23 = .ok (.lstore_n 1, 1) := by decide +kernel
theorem dX6_packed_24 : decode cX6_packed 24 = .ok (.iinc 3 1, 3) := by decide +kernel
theorem dX6_packed_27 : decode cX6_packed 27 = .ok (.goto (-23), 3) := by decide +kernel
theorem dX6_packed_30 : decode cX6_packed 30 = .ok (.lload_n 1, 1) := by decide +kernel
theorem dX6_packed_31 : decode cX6_packed 31 = .ok (.lreturn, 1) := by decide +kernel
