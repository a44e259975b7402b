theorem dX6_init_0 : decode cX6_init 0 = .ok (.aload_n 0, 1) := by decide +kernel
theorem dX6_init_1 : decode cX6_init 1 = .ok (.invokespecial 3, 3) := by decide +kernel
theorem dX6_init_4 : decode cX6_init 4 = .ok (.aload_n 0, 1) := by decide +kernel
theorem dX6_init_5 : decode cX6_init 5 = .ok (.sipush 800, 3) := by decide +kernel
theorem dX6_init_8 : decode cX6_init 8 = .ok (.newarray .byte, 2) := by decide +kernel
theorem dX6_init_10 : decode cX6_init 10 = .ok (.putfield 9, 3) := by decide +kernel
theorem dX6_init_13 : decode cX6_init 13 = .ok (.aload_n 0, 1) := by decide +kernel
theorem dX6_init_14 : decode cX6_init 14 = .ok (.iconst 0, 1) := by decide +kernel
theorem dX6_init_15 : decode cX6_init 15 = .ok (.putfield 15, 3) := by decide +kernel
theorem dX6_init_18 : decode cX6_init 18 = .ok (.aload_n 0, 1) := by decide +kernel
theorem dX6_init_19 : decode cX6_init 19 = .ok (.iconst 0, 1) := by decide +kernel
theorem dX6_init_20 : decode cX6_init 20 = .ok (.putfield 19, 3) := by decide +kernel
theorem dX6_init_23 : decode cX6_init 23 = .ok (.aload_n 0, 1) := by decide +kernel
theorem dX6_init_24 : decode cX6_init 24 = .ok (.iconst 0, 1) := by decide +kernel
theorem dX6_init_25 : decode cX6_init 25 = .ok (.putfield 22, 3) := by decide +kernel
theorem dX6_init_28 : decode cX6_init 28 = .ok (.aload_n 0, 1) := by decide +kernel
theorem dX6_init_29 : decode cX6_init 29 = .ok (.iconst 0, 1) := by decide +kernel
theorem dX6_init_30 : decode cX6_init 30 = .ok (.putfield 25, 3) := by decide +kernel
theorem dX6_init_33 : decode cX6_init 33 = .ok (.aload_n 0, 1) := by decide +kernel
theorem dX6_init_34 : decode cX6_init 34 = .ok (.lconst 0, 1) := by decide +kernel
theorem dX6_init_35 : decode cX6_init 35 = .ok (.putfield 28, 3) := by decide +kernel
theorem dX6_init_38 : decode cX6_init 38 = .ok (.aload_n 0, 1) := by decide +kernel
theorem dX6_init_39 : decode cX6_init 39 = .ok (.iconst 0, 1) := by decide +kernel
theorem dX6_init_40 : decode cX6_init 40 = .ok (.putfield 32, 3) := by decide +kernel
theorem dX6_init_43 : decode cX6_init 43 = .ok (.aload_n 0, 1) := by decide +kernel
theorem dX6_init_44 : decode cX6_init 44 = .ok (.iconst 0, 1) := by decide +kernel
theorem dX6_init_45 : decode cX6_init 45 = .ok (.putfield 35, 3) := by decide +kernel
theorem dX6_init_48 : decode cX6_init 48 = .ok (.return_, 1) := by decide +kernel
theorem dX6_startText_0 : decode cX6_startText 0 = .ok (.aload_n 0, 1) := by decide +kernel
theorem dX6_startText_1 : decode cX6_startText 1 = .ok (.iload_n 2, 1) := by decide +kernel
theorem dX6_startText_2 : decode cX6_startText 2 = .ok (.sipush 800, 3) := by decide +kernel
theorem dX6_startText_5 : decode cX6_startText 5 = .ok (.invokestatic 38, 3) := by decide +kernel
theorem dX6_startText_8 : decode cX6_startText 8 = .ok (.putfield 15, 3) := by decide +kernel
theorem dX6_startText_11 : decode cX6_startText 11 = .ok (.aload_n 1, 1) := by decide +kernel
theorem dX6_startText_12 : decode cX6_startText 12 = .ok (.iconst 0, 1) := by decide +kernel
theorem dX6_startText_13 : decode cX6_startText 13 = .ok (.aload_n 0, 1) := by decide +kernel
theorem dX6_startText_14 : decode cX6_startText 14 = .ok (.getfield 9, 3) := by decide +kernel
theorem dX6_startText_17 : decode cX6_startText 17 = .ok (.iconst 0, 1) := by decide +kernel
theorem dX6_startText_18 : decode cX6_startText 18 = .ok (.aload_n 0, 1) := by decide +kernel
theorem dX6_startText_19 : decode cX6_startText 19 = .ok (.getfield 15, 3) := by decide +kernel
theorem dX6_startText_22 : decode cX6_startText 22 = .ok (.invokestatic 44, 3) := by decide +kernel
theorem dX6_startText_25 : decode cX6_startText 25 = .ok (.aload_n 0, 1) := by decide +kernel
theorem dX6_startText_26 : decode cX6_startText 26 = .ok (.iconst 0, 1) := by decide +kernel
theorem dX6_startText_27 : decode cX6_startText 27 = .ok (.putfield 19, 3) := by decide +kernel
theorem dX6_startText_30 : decode cX6_startText 30 = .ok (.aload_n 0, 1) := by decide +kernel
theorem dX6_startText_31 : decode cX6_startText 31 = .ok (.invokevirtual 50, 3) := by decide +kernel
theorem dX6_startText_34 : decode cX6_startText 34 = .ok (.return_, 1) := by decide +kernel
theorem dX6_advance_0 : decode cX6_advance 0 = .ok (.aload_n 0, 1) := by decide +kernel
theorem dX6_advance_1 : decode cX6_advance 1 = .ok (.getfield 19, 3) := by decide +kernel
theorem dX6_advance_4 : decode cX6_advance 4 = .ok (.aload_n 0, 1) := by decide +kernel
theorem dX6_advance_5 : decode cX6_advance 5 = .ok (.getfield 15, 3) := by decide +kernel
theorem dX6_advance_8 : decode cX6_advance 8 = .ok (.if_icmp .ge 30, 3) := by decide +kernel
theorem dX6_advance_11 : decode cX6_advance 11 = .ok (.aload_n 0, 1) := by decide +kernel
theorem dX6_advance_12 : decode cX6_advance 12 = .ok (.getfield 9, 3) := by decide +kernel
theorem dX6_advance_15 : decode cX6_advance 15 = .ok (.aload_n 0, 1) := by decide +kernel
theorem dX6_advance_16 : decode cX6_advance 16 = .ok (.getfield 19, 3) := by decide +kernel
theorem dX6_advance_19 : decode cX6_advance 19 = .ok (.baload, 1) := by decide +kernel
theorem dX6_advance_20 : decode cX6_advance 20 = .ok (.bipush 32, 2) := by decide +kernel
theorem dX6_advance_22 : decode cX6_advance 22 = .ok (.if_icmp .ne 16, 3) := by decide +kernel
theorem dX6_advance_25 : decode cX6_advance 25 = .ok (.aload_n 0, 1) := by decide +kernel
theorem dX6_advance_26 : decode cX6_advance 26 = .ok (.dup, 1) := by decide +kernel
theorem dX6_advance_27 : decode cX6_advance 27 = .ok (.getfield 19, 3) := by decide +kernel
theorem dX6_advance_30 : decode cX6_advance 30 = .ok (.iconst 1, 1) := by decide +kernel
theorem dX6_advance_31 : decode cX6_advance 31 = .ok (.iadd, 1) := by decide +kernel
theorem dX6_advance_32 : decode cX6_advance 32 = .ok (.putfield 19, 3) := by decide +kernel
theorem dX6_advance_35 : decode cX6_advance 35 = .ok (.goto (-35), 3) := by decide +kernel
theorem dX6_advance_38 : decode cX6_advance 38 = .ok (.aload_n 0, 1) := by decide +kernel
theorem dX6_advance_39 : decode cX6_advance 39 = .ok (.aload_n 0, 1) := by decide +kernel
theorem dX6_advance_40 : decode cX6_advance 40 = .ok (.getfield 19, 3) := by decide +kernel
theorem dX6_advance_43 : decode cX6_advance 43 = .ok (.putfield 25, 3) := by decide +kernel
theorem dX6_advance_46 : decode cX6_advance 46 = .ok (.aload_n 0, 1) := by decide +kernel
theorem dX6_advance_47 : decode cX6_advance 47 = .ok (.bipush 97, 2) := by decide +kernel
theorem dX6_advance_49 : decode cX6_advance 49 = .ok (.bipush 122, 2) := by decide +kernel
theorem dX6_advance_51 : decode cX6_advance 51 = .ok (.invokevirtual 53, 3) := by decide +kernel
theorem dX6_advance_54 : decode cX6_advance 54 = .ok (.istore_n 1, 1) := by decide +kernel
theorem dX6_advance_55 : decode cX6_advance 55 = .ok (.aload_n 0, 1) := by decide +kernel
theorem dX6_advance_56 : decode cX6_advance 56 = .ok (.bipush 48, 2) := by decide +kernel
theorem dX6_advance_58 : decode cX6_advance 58 = .ok (.bipush 57, 2) := by decide +kernel
theorem dX6_advance_60 : decode cX6_advance 60 = .ok (.invokevirtual 53, 3) := by decide +kernel
theorem dX6_advance_63 : decode cX6_advance 63 = .ok (.istore_n 2, 1) := by decide +kernel
theorem dX6_advance_64 : decode cX6_advance 64 = .ok (.aload_n 0, 1) := by decide +kernel
theorem dX6_advance_65 : decode cX6_advance 65 = .ok (.getfield 19, 3) := by decide +kernel
theorem dX6_advance_68 : decode cX6_advance 68 = .ok (.aload_n 0, 1) := by decide +kernel
theorem dX6_advance_69 : decode cX6_advance 69 = .ok (.getfield 15, 3) := by decide +kernel
theorem dX6_advance_72 : decode cX6_advance 72 = .ok (.if_icmp .lt 11, 3) := by decide +kernel
theorem dX6_advance_75 : decode cX6_advance 75 = .ok (.aload_n 0, 1) := by decide +kernel
theorem dX6_advance_76 : decode cX6_advance 76 = .ok (.iconst 0, 1) := by decide +kernel
theorem dX6_advance_77 : decode cX6_advance 77 = .ok (.putfield 22, 3) := by decide +kernel
theorem dX6_advance_80 : decode cX6_advance 80 = .ok (.goto 55, 3) := by decide +kernel
theorem dX6_advance_83 : decode cX6_advance 83 = .ok (.iload_n 1, 1) := by decide +kernel
theorem dX6_advance_84 : decode cX6_advance 84 = .ok (.ifCond .le 11, 3) := by decide +kernel
theorem dX6_advance_87 : decode cX6_advance 87 = .ok (.aload_n 0, 1) := by decide +kernel
theorem dX6_advance_88 : decode cX6_advance 88 = .ok (.iload_n 1, 1) := by decide +kernel
theorem dX6_advance_89 : decode cX6_advance 89 = .ok (.invokevirtual 57, 3) := by decide +kernel
theorem dX6_advance_92 : decode cX6_advance 92 = .ok (.goto 43, 3) := by decide +kernel
theorem dX6_advance_95 : decode cX6_advance 95 = .ok (.iload_n 2, 1) := by decide +kernel
theorem dX6_advance_96 : decode cX6_advance 96 = .ok (.ifCond .le 11, 3) := by decide +kernel
theorem dX6_advance_99 : decode cX6_advance 99 = .ok (.aload_n 0, 1) := by decide +kernel
theorem dX6_advance_100 : decode cX6_advance 100 = .ok (.iload_n 2, 1) := by decide +kernel
theorem dX6_advance_101 : decode cX6_advance 101 = .ok (.invokevirtual 61, 3) := by decide +kernel
theorem dX6_advance_104 : decode cX6_advance 104 = .ok (.goto 31, 3) := by decide +kernel
theorem dX6_advance_107 : decode cX6_advance 107 = .ok (.aload_n 0, 1) := by decide +kernel
theorem dX6_advance_108 : decode cX6_advance 108 = .ok (.iconst 3, 1) := by decide +kernel
theorem dX6_advance_109 : decode cX6_advance 109 = .ok (.putfield 22, 3) := by decide +kernel
theorem dX6_advance_112 : decode cX6_advance 112 = .ok (.aload_n 0, 1) := by decide +kernel
theorem dX6_advance_113 : decode cX6_advance 113 = .ok (.aload_n 0, 1) := by decide +kernel
theorem dX6_advance_114 : decode cX6_advance 114 = .ok (.getfield 9, 3) := by decide +kernel
theorem dX6_advance_117 : decode cX6_advance 117 = .ok (.aload_n 0, 1) := by decide +kernel
theorem dX6_advance_118 : decode cX6_advance 118 = .ok (.getfield 19, 3) := by decide +kernel
theorem dX6_advance_121 : decode cX6_advance 121 = .ok (.baload, 1) := by decide +kernel
theorem dX6_advance_122 : decode cX6_advance 122 = .ok (.putfield 35, 3) := by decide +kernel
theorem dX6_advance_125 : decode cX6_advance 125 = .ok (.aload_n 0, 1) := by decide +kernel
theorem dX6_advance_126 : decode cX6_advance 126 = .ok (.dup, 1) := by decide +kernel
theorem dX6_advance_127 : decode cX6_advance 127 = .ok (.getfield 19, 3) := by decide +kernel
theorem dX6_advance_130 : decode cX6_advance 130 = .ok (.iconst 1, 1) := by decide +kernel
theorem dX6_advance_131 : decode cX6_advance 131 = .ok (.iadd, 1) := by decide +kernel
theorem dX6_advance_132 : decode cX6_advance 132 = .ok (.putfield 19, 3) := by decide +kernel
theorem dX6_advance_135 : decode cX6_advance 135 = .ok (.return_, 1) := by decide +kernel
theorem dX6_runOf_0 : decode cX6_runOf 0 = .ok (.aload_n 0, 1) := by decide +kernel
theorem dX6_runOf_1 : decode cX6_runOf 1 = .ok (.getfield 19, 3) := by decide +kernel
theorem dX6_runOf_4 : decode cX6_runOf 4 = .ok (.istore_n 3, 1) := by decide +kernel
theorem dX6_runOf_5 : decode cX6_runOf 5 = .ok (.iload_n 3, 1) := by decide +kernel
theorem dX6_runOf_6 : decode cX6_runOf 6 = .ok (.aload_n 0, 1) := by decide +kernel
theorem dX6_runOf_7 : decode cX6_runOf 7 = .ok (.getfield 15, 3) := by decide +kernel
theorem dX6_runOf_10 : decode cX6_runOf 10 = .ok (.if_icmp .ge 29, 3) := by decide +kernel
theorem dX6_runOf_13 : decode cX6_runOf 13 = .ok (.aload_n 0, 1) := by decide +kernel
theorem dX6_runOf_14 : decode cX6_runOf 14 = .ok (.getfield 9, 3) := by decide +kernel
theorem dX6_runOf_17 : decode cX6_runOf 17 = .ok (.iload_n 3, 1) := by decide +kernel
theorem dX6_runOf_18 : decode cX6_runOf 18 = .ok (.baload, 1) := by decide +kernel
theorem dX6_runOf_19 : decode cX6_runOf 19 = .ok (.iload_n 1, 1) := by decide +kernel
theorem dX6_runOf_20 : decode cX6_runOf 20 = .ok (.if_icmp .lt 19, 3) := by decide +kernel
theorem dX6_runOf_23 : decode cX6_runOf 23 = .ok (.aload_n 0, 1) := by decide +kernel
theorem dX6_runOf_24 : decode cX6_runOf 24 = .ok (.getfield 9, 3) := by decide +kernel
theorem dX6_runOf_27 : decode cX6_runOf 27 = .ok (.iload_n 3, 1) := by decide +kernel
theorem dX6_runOf_28 : decode cX6_runOf 28 = .ok (.baload, 1) := by decide +kernel
theorem dX6_runOf_29 : decode cX6_runOf 29 = .ok (.iload_n 2, 1) := by decide +kernel
theorem dX6_runOf_30 : decode cX6_runOf 30 = .ok (.if_icmp .gt 9, 3) := by decide +kernel
theorem dX6_runOf_33 : decode cX6_runOf 33 = .ok (.iinc 3 1, 3) := by decide +kernel
theorem dX6_runOf_36 : decode cX6_runOf 36 = .ok (.goto (-31), 3) := by decide +kernel
theorem dX6_runOf_39 : decode cX6_runOf 39 = .ok (.iload_n 3, 1) := by decide +kernel
theorem dX6_runOf_40 : decode cX6_runOf 40 = .ok (.aload_n 0, 1) := by decide +kernel
theorem dX6_runOf_41 : decode cX6_runOf 41 = .ok (.getfield 19, 3) := by decide +kernel
theorem dX6_runOf_44 : decode cX6_runOf 44 = .ok (.isub, 1) := by decide +kernel
theorem dX6_runOf_45 : decode cX6_runOf 45 = .ok (.ireturn, 1) := by decide +kernel
theorem dX6_takeWord_0 : decode cX6_takeWord 0 = .ok (.aload_n 0, 1) := by decide +kernel
theorem dX6_takeWord_1 : decode cX6_takeWord 1 = .ok (.iload_n 1, 1) := by decide +kernel
theorem dX6_takeWord_2 : decode cX6_takeWord 2 = .ok (.bipush 8, 2) := by decide +kernel
theorem dX6_takeWord_4 : decode cX6_takeWord 4 = .ok (.if_icmp .gt 7, 3) := by decide +kernel
theorem dX6_takeWord_7 : decode cX6_takeWord 7 = .ok (.iconst 1, 1) := by decide +kernel
theorem dX6_takeWord_8 : decode cX6_takeWord 8 = .ok (.goto 4, 3) := by decide +kernel
theorem dX6_takeWord_11 : decode cX6_takeWord 11 = .ok (.iconst 4, 1) := by decide +kernel
theorem dX6_takeWord_12 : decode cX6_takeWord 12 = .ok (.putfield 22, 3) := by decide +kernel
theorem dX6_takeWord_15 : decode cX6_takeWord 15 = .ok (.aload_n 0, 1) := by decide +kernel
theorem dX6_takeWord_16 : decode cX6_takeWord 16 = .ok (.lconst 0, 1) := by decide +kernel
theorem dX6_takeWord_17 : decode cX6_takeWord 17 = .ok (.putfield 28, 3) := by decide +kernel
theorem dX6_takeWord_20 : decode cX6_takeWord 20 = .ok (.iconst 0, 1) := by decide +kernel
theorem dX6_takeWord_21 : decode cX6_takeWord 21 = .ok (.istore_n 2, 1) := by decide +kernel
theorem dX6_takeWord_22 : decode cX6_takeWord 22 = .ok (.iload_n 2, 1) := by decide +kernel
theorem dX6_takeWord_23 : decode cX6_takeWord 23 = .ok (.iload_n 1, 1) := by decide +kernel
theorem dX6_takeWord_24 : decode cX6_takeWord 24 = .ok (.if_icmp .ge 52, 3) := by decide +kernel
theorem dX6_takeWord_27 : decode cX6_takeWord 27 = .ok (.aload_n 0, 1) := by decide +kernel
theorem dX6_takeWord_28 : decode cX6_takeWord 28 = .ok (.getfield 19, 3) := by decide +kernel
theorem dX6_takeWord_31 : decode cX6_takeWord 31 = .ok (.aload_n 0, 1) := by decide +kernel
theorem dX6_takeWord_32 : decode cX6_takeWord 32 = .ok (.getfield 15, 3) := by decide +kernel
theorem dX6_takeWord_35 : decode cX6_takeWord 35 = .ok (.if_icmp .ge 41, 3) := by decide +kernel
theorem dX6_takeWord_38 : decode cX6_takeWord 38 = .ok (.aload_n 0, 1) := by decide +kernel
theorem dX6_takeWord_39 : decode cX6_takeWord 39 = .ok (.aload_n 0, 1) := by decide +kernel
theorem dX6_takeWord_40 : decode cX6_takeWord 40 = .ok (.getfield 28, 3) := by decide +kernel
theorem dX6_takeWord_43 : decode cX6_takeWord 43 = .ok (.bipush 8, 2) := by decide +kernel
theorem dX6_takeWord_45 : decode cX6_takeWord 45 = .ok (.lshl, 1) := by decide +kernel
theorem dX6_takeWord_46 : decode cX6_takeWord 46 = .ok (.aload_n 0, 1) := by decide +kernel
theorem dX6_takeWord_47 : decode cX6_takeWord 47 = .ok (.getfield 9, 3) := by decide +kernel
theorem dX6_takeWord_50 : decode cX6_takeWord 50 = .ok (.aload_n 0, 1) := by decide +kernel
theorem dX6_takeWord_51 : decode cX6_takeWord 51 = .ok (.getfield 19, 3) := by decide +kernel
theorem dX6_takeWord_54 : decode cX6_takeWord 54 = .ok (.baload, 1) := by decide +kernel
theorem dX6_takeWord_55 : decode cX6_takeWord 55 = .ok (.i2l, 1) := by decide +kernel
theorem dX6_takeWord_56 : decode cX6_takeWord 56 = .ok (.lor, 1) := by decide +kernel
theorem dX6_takeWord_57 : decode cX6_takeWord 57 = .ok (.putfield 28, 3) := by decide +kernel
theorem dX6_takeWord_60 : decode cX6_takeWord 60 = .ok (.aload_n 0, 1) := by decide +kernel
theorem dX6_takeWord_61 : decode cX6_takeWord 61 = .ok (.dup, 1) := by decide +kernel
theorem dX6_takeWord_62 : decode cX6_takeWord 62 = .ok (.getfield 19, 3) := by decide +kernel
theorem dX6_takeWord_65 : decode cX6_takeWord 65 = .ok (.iconst 1, 1) := by decide +kernel
theorem dX6_takeWord_66 : decode cX6_takeWord 66 = .ok (.iadd, 1) := by decide +kernel
theorem dX6_takeWord_67 : decode cX6_takeWord 67 = .ok (.putfield 19, 3) := by decide +kernel
theorem dX6_takeWord_70 : decode cX6_takeWord 70 = .ok (.iinc 2 1, 3) := by decide +kernel
theorem dX6_takeWord_73 : decode cX6_takeWord 73 = .ok (.goto (-51), 3) := by decide +kernel
theorem dX6_takeWord_76 : decode cX6_takeWord 76 = .ok (.return_, 1) := by decide +kernel
theorem dX6_takeNumber_0 : decode cX6_takeNumber 0 = .ok (.aload_n 0, 1) := by decide +kernel
theorem dX6_takeNumber_1 : decode cX6_takeNumber 1 = .ok (.iconst 2, 1) := by decide +kernel
theorem dX6_takeNumber_2 : decode cX6_takeNumber 2 = .ok (.putfield 22, 3) := by decide +kernel
theorem dX6_takeNumber_5 : decode cX6_takeNumber 5 = .ok (.aload_n 0, 1) := by decide +kernel
theorem dX6_takeNumber_6 : decode cX6_takeNumber 6 = .ok (.iconst 0, 1) := by decide +kernel
theorem dX6_takeNumber_7 : decode cX6_takeNumber 7 = .ok (.putfield 32, 3) := by decide +kernel
theorem dX6_takeNumber_10 : decode cX6_takeNumber 10 = .ok (.iconst 0, 1) := by decide +kernel
theorem dX6_takeNumber_11 : decode cX6_takeNumber 11 = .ok (.istore_n 2, 1) := by decide +kernel
theorem dX6_takeNumber_12 : decode cX6_takeNumber 12 = .ok (.iload_n 2, 1) := by decide +kernel
theorem dX6_takeNumber_13 : decode cX6_takeNumber 13 = .ok (.iload_n 1, 1) := by decide +kernel
theorem dX6_takeNumber_14 : decode cX6_takeNumber 14 = .ok (.if_icmp .ge 59, 3) := by decide +kernel
theorem dX6_takeNumber_17 : decode cX6_takeNumber 17 = .ok (.aload_n 0, 1) := by decide +kernel
theorem dX6_takeNumber_18 : decode cX6_takeNumber 18 = .ok (.getfield 19, 3) := by decide +kernel
theorem dX6_takeNumber_21 : decode cX6_takeNumber 21 = .ok (.aload_n 0, 1) := by decide +kernel
theorem dX6_takeNumber_22 : decode cX6_takeNumber 22 = .ok (.getfield 15, 3) := by decide +kernel
theorem dX6_takeNumber_25 : decode cX6_takeNumber 25 = .ok (.if_icmp .ge 48, 3) := by decide +kernel
theorem dX6_takeNumber_28 : decode cX6_takeNumber 28 = .ok (.aload_n 0, 1) := by decide +kernel
theorem dX6_takeNumber_29 : decode cX6_takeNumber 29 = .ok (.ldc 64, 2) := by decide +kernel
theorem dX6_takeNumber_31 : decode cX6_takeNumber 31 = .ok (.aload_n 0, 1) := by decide +kernel
theorem dX6_takeNumber_32 : decode cX6_takeNumber 32 = .ok (.getfield 32, 3) := by decide +kernel
theorem dX6_takeNumber_35 : decode cX6_takeNumber 35 = .ok (.bipush 10, 2) := by decide +kernel
theorem dX6_takeNumber_37 : decode cX6_takeNumber 37 = .ok (.imul, 1) := by decide +kernel
theorem dX6_takeNumber_38 : decode cX6_takeNumber 38 = .ok (.aload_n 0, 1) := by decide +kernel
theorem dX6_takeNumber_39 : decode cX6_takeNumber 39 = .ok (.getfield 9, 3) := by decide +kernel
theorem dX6_takeNumber_42 : decode cX6_takeNumber 42 = .ok (.aload_n 0, 1) := by decide +kernel
theorem dX6_takeNumber_43 : decode cX6_takeNumber 43 = .ok (.getfield 19, 3) := by decide +kernel
theorem dX6_takeNumber_46 : decode cX6_takeNumber 46 = .ok (.baload, 1) := by decide +kernel
theorem dX6_takeNumber_47 : decode cX6_takeNumber 47 = .ok (.bipush 48, 2) := by decide +kernel
theorem dX6_takeNumber_49 : decode cX6_takeNumber 49 = .ok (.isub, 1) := by decide +kernel
theorem dX6_takeNumber_50 : decode cX6_takeNumber 50 = .ok (.iadd, 1) := by decide +kernel
theorem dX6_takeNumber_51 : decode cX6_takeNumber 51 = .ok (.invokestatic 38, 3) := by decide +kernel
theorem dX6_takeNumber_54 : decode cX6_takeNumber 54 = .ok (.putfield 32, 3) := by decide +kernel
theorem dX6_takeNumber_57 : decode cX6_takeNumber 57 = .ok (.aload_n 0, 1) := by decide +kernel
theorem dX6_takeNumber_58 : decode cX6_takeNumber 58 = .ok (.dup, 1) := by decide +kernel
theorem dX6_takeNumber_59 : decode cX6_takeNumber 59 = .ok (.getfield 19, 3) := by decide +kernel
theorem dX6_takeNumber_62 : decode cX6_takeNumber 62 = .ok (.iconst 1, 1) := by decide +kernel
theorem dX6_takeNumber_63 : decode cX6_takeNumber 63 = .ok (.iadd, 1) := by decide +kernel
theorem dX6_takeNumber_64 : decode cX6_takeNumber 64 = .ok (.putfield 19, 3) := by decide +kernel
theorem dX6_takeNumber_67 : decode cX6_takeNumber 67 = .ok (.iinc 2 1, 3) := by decide +kernel
theorem dX6_takeNumber_70 : decode cX6_takeNumber 70 = .ok (.goto (-58), 3) := by decide +kernel
theorem dX6_takeNumber_73 : decode cX6_takeNumber 73 = .ok (.return_, 1) := by decide +kernel
theorem dX6_isSign_0 : decode cX6_isSign 0 = .ok (.aload_n 0, 1) := by decide +kernel
theorem dX6_isSign_1 : decode cX6_isSign 1 = .ok (.getfield 22, 3) := by decide +kernel
theorem dX6_isSign_4 : decode cX6_isSign 4 = .ok (.iconst 3, 1) := by decide +kernel
theorem dX6_isSign_5 : decode cX6_isSign 5 = .ok (.if_icmp .ne 15, 3) := by decide +kernel
theorem dX6_isSign_8 : decode cX6_isSign 8 = .ok (.aload_n 0, 1) := by decide +kernel
theorem dX6_isSign_9 : decode cX6_isSign 9 = .ok (.getfield 35, 3) := by decide +kernel
theorem dX6_isSign_12 : decode cX6_isSign 12 = .ok (.iload_n 1, 1) := by decide +kernel
theorem dX6_isSign_13 : decode cX6_isSign 13 = .ok (.if_icmp .ne 7, 3) := by decide +kernel
theorem dX6_isSign_16 : decode cX6_isSign 16 = .ok (.iconst 1, 1) := by decide +kernel
theorem dX6_isSign_17 : decode cX6_isSign 17 = .ok (.goto 4, 3) := by decide +kernel
theorem dX6_isSign_20 : decode cX6_isSign 20 = .ok (.iconst 0, 1) := by decide +kernel
theorem dX6_isSign_21 : decode cX6_isSign 21 = .ok (.ireturn, 1) := by decide +kernel
theorem dX6_isWord_0 : decode cX6_isWord 0 = .ok (.aload_n 0, 1) := by decide +kernel
theorem dX6_isWord_1 : decode cX6_isWord 1 = .ok (.getfield 22, 3) := by decide +kernel
theorem dX6_isWord_4 : decode cX6_isWord 4 = .ok (.iconst 1, 1) := by decide +kernel
theorem dX6_isWord_5 : decode cX6_isWord 5 = .ok (.if_icmp .ne 19, 3) := by decide +kernel
theorem dX6_isWord_8 : decode cX6_isWord 8 = .ok (.aload_n 0, 1) := by decide +kernel
theorem dX6_isWord_9 : decode cX6_isWord 9 = .ok (.getfield 28, 3) := by decide +kernel
theorem dX6_isWord_12 : decode cX6_isWord 12 = .ok (.aload_n 1, 1) := by decide +kernel
theorem dX6_isWord_13 : decode cX6_isWord 13 = .ok (.invokestatic 65, 3) := by decide +kernel
theorem dX6_isWord_16 : decode cX6_isWord 16 = .ok (.lcmp, 1) := by decide +kernel
theorem dX6_isWord_17 : decode cX6_isWord 17 = .ok (.ifCond .ne 7, 3) := by decide +kernel
theorem dX6_isWord_20 : decode cX6_isWord 20 = .ok (.iconst 1, 1) := by decide +kernel
theorem dX6_isWord_21 : decode cX6_isWord 21 = .ok (.goto 4, 3) := by decide +kernel
theorem dX6_isWord_24 : decode cX6_isWord 24 = .ok (.iconst 0, 1) := by decide +kernel
theorem dX6_isWord_25 : decode cX6_isWord 25 = .ok (.ireturn, 1) := by decide +kernel
theorem dX6_packed_0 : decode cX6_packed 0 = .ok (.lconst 0, 1) := by decide +kernel
theorem dX6_packed_1 : decode cX6_packed 1 = .ok (.lstore_n 1, 1) := by decide +kernel
theorem dX6_packed_2 : decode cX6_packed 2 = .ok (.iconst 0, 1) := by decide +kernel
theorem dX6_packed_3 : decode cX6_packed 3 = .ok (.istore_n 3, 1) := by decide +kernel
theorem dX6_packed_4 : decode cX6_packed 4 = .ok (.iload_n 3, 1) := by decide +kernel
theorem dX6_packed_5 : decode cX6_packed 5 = .ok (.aload_n 0, 1) := by decide +kernel
theorem dX6_packed_6 : decode cX6_packed 6 = .ok (.invokevirtual 69, 3) := by decide +kernel
theorem dX6_packed_9 : decode cX6_packed 9 = .ok (.if_icmp .ge 21, 3) := by decide +kernel
theorem dX6_packed_12 : decode cX6_packed 12 = .ok (.lload_n 1, 1) := by decide +kernel
theorem dX6_packed_13 : decode cX6_packed 13 = .ok (.bipush 8, 2) := by decide +kernel
theorem dX6_packed_15 : decode cX6_packed 15 = .ok (.lshl, 1) := by decide +kernel
theorem dX6_packed_16 : decode cX6_packed 16 = .ok (.aload_n 0, 1) := by decide +kernel
theorem dX6_packed_17 : decode cX6_packed 17 = .ok (.iload_n 3, 1) := by decide +kernel
theorem dX6_packed_18 : decode cX6_packed 18 = .ok (.invokevirtual 74, 3) := by decide +kernel
theorem dX6_packed_21 : decode cX6_packed 21 = .ok (.i2l, 1) := by decide +kernel
theorem dX6_packed_22 : decode cX6_packed 22 = .ok (.lor, 1) := by decide +kernel
theorem dX6_packed_23 : decode cX6_packed 23 = .ok (.lstore_n 1, 1) := by decide +kernel
theorem dX6_packed_24 : decode cX6_packed 24 = .ok (.iinc 3 1, 3) := by decide +kernel
theorem dX6_packed_27 : decode cX6_packed 27 = .ok (.goto (-23), 3) := by decide +kernel
theorem dX6_packed_30 : decode cX6_packed 30 = .ok (.lload_n 1, 1) := by decide +kernel
theorem dX6_packed_31 : decode cX6_packed 31 = .ok (.lreturn, 1) := by decide +kernel
