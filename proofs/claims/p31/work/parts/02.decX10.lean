theorem dX10_init_0 : decode cX10_init 0 = .ok (.aload_n 0, 1) := by decide +kernel
theorem dX10_init_1 : decode cX10_init 1 = .ok (.invokespecial 1, 3) := by decide +kernel
theorem dX10_init_4 : decode cX10_init 4 = .ok (.aload_n 0, 1) := by decide +kernel
theorem dX10_init_5 : decode cX10_init 5 = .ok (.bipush 50, 2) := by decide +kernel
theorem dX10_init_7 : decode cX10_init 7 = .ok (.putfield 7, 3) := by decide +kernel
theorem dX10_init_10 : decode cX10_init 10 = .ok (.aload_n 0, 1) := by decide +kernel
theorem dX10_init_11 : decode cX10_init 11 = .ok (.iconst 0, 1) := by decide +kernel
theorem dX10_init_12 : decode cX10_init 12 = .ok (.anewarray 13, 3) := by decide +kernel
theorem dX10_init_15 : decode cX10_init 15 = .ok (.putfield 15, 3) := by decide +kernel
theorem dX10_init_18 : decode cX10_init 18 = .ok (.aload_n 0, 1) := by decide +kernel
theorem dX10_init_19 : decode cX10_init 19 = .ok (.iconst 0, 1) := by decide +kernel
theorem dX10_init_20 : decode cX10_init 20 = .ok (.newarray .int, 2) := by decide +kernel
theorem dX10_init_22 : decode cX10_init 22 = .ok (.putfield 19, 3) := by decide +kernel
theorem dX10_init_25 : decode cX10_init 25 = .ok (.return_, 1) := by decide +kernel
theorem dX10_copy_0 : decode cX10_copy 0 = .ok (.new 8, 3) := by decide +kernel
theorem dX10_copy_3 : decode cX10_copy 3 = .ok (.dup, 1) := by decide +kernel
theorem dX10_copy_4 : decode cX10_copy 4 = .ok (.invokespecial 23, 3) := by decide +kernel
theorem dX10_copy_7 : decode cX10_copy 7 = .ok (.astore_n 1, 1) := by decide +kernel
theorem dX10_copy_8 : decode cX10_copy 8 = .ok (.aload_n 1, 1) := by decide +kernel
theorem dX10_copy_9 : decode cX10_copy 9 = .ok (.aload_n 0, 1) := by decide +kernel
theorem dX10_copy_10 : decode cX10_copy 10 = .ok (.getfield 24, 3) := by decide +kernel
theorem dX10_copy_13 : decode cX10_copy 13 = .ok (.putfield 24, 3) := by decide +kernel
theorem dX10_copy_16 : decode cX10_copy 16 = .ok (.aload_n 1, 1) := by decide +kernel
theorem dX10_copy_17 : decode cX10_copy 17 = .ok (.aload_n 0, 1) := by decide +kernel
theorem dX10_copy_18 : decode cX10_copy 18 = .ok (.getfield 7, 3) := by decide +kernel
theorem dX10_copy_21 : decode cX10_copy 21 = .ok (.putfield 7, 3) := by decide +kernel
theorem dX10_copy_24 : decode cX10_copy 24 = .ok (.aload_n 1, 1) := by decide +kernel
theorem dX10_copy_25 : decode cX10_copy 25 = .ok (.aload_n 0, 1) := by decide +kernel
theorem dX10_copy_26 : decode cX10_copy 26 = .ok (.getfield 15, 3) := by decide +kernel
theorem dX10_copy_29 : decode cX10_copy 29 = .ok (.arraylength, 1) := by decide +kernel
theorem dX10_copy_30 : decode cX10_copy 30 = .ok (.anewarray 13, 3) := by decide +kernel
theorem dX10_copy_33 : decode cX10_copy 33 = .ok (.putfield 15, 3) := by decide +kernel
theorem dX10_copy_36 : decode cX10_copy 36 = .ok (.iconst 0, 1) := by decide +kernel
theorem dX10_copy_37 : decode cX10_copy 37 = .ok (.istore_n 2, 1) := by decide +kernel
theorem dX10_copy_38 : decode cX10_copy 38 = .ok (.iload_n 2, 1) := by decide +kernel
theorem dX10_copy_39 : decode cX10_copy 39 = .ok (.aload_n 0, 1) := by decide +kernel
theorem dX10_copy_40 : decode cX10_copy 40 = .ok (.getfield 15, 3) := by decide +kernel
theorem dX10_copy_43 : decode cX10_copy 43 = .ok (.arraylength, 1) := by decide +kernel
theorem dX10_copy_44 : decode cX10_copy 44 = .ok (.if_icmp .ge 24, 3) := by decide +kernel
theorem dX10_copy_47 : decode cX10_copy 47 = .ok (.aload_n 1, 1) := by decide +kernel
theorem dX10_copy_48 : decode cX10_copy 48 = .ok (.getfield 15, 3) := by decide +kernel
theorem dX10_copy_51 : decode cX10_copy 51 = .ok (.iload_n 2, 1) := by decide +kernel
theorem dX10_copy_52 : decode cX10_copy 52 = .ok (.aload_n 0, 1) := by decide +kernel
theorem dX10_copy_53 : decode cX10_copy 53 = .ok (.getfield 15, 3) := by decide +kernel
theorem dX10_copy_56 : decode cX10_copy 56 = .ok (.iload_n 2, 1) := by decide +kernel
theorem dX10_copy_57 : decode cX10_copy 57 = .ok (.aaload, 1) := by decide +kernel
theorem dX10_copy_58 : decode cX10_copy 58 = .ok (.invokevirtual 27, 3) := by decide +kernel
theorem dX10_copy_61 : decode cX10_copy 61 = .ok (.aastore, 1) := by decide +kernel
theorem dX10_copy_62 : decode cX10_copy 62 = .ok (.iinc 2 1, 3) := by decide +kernel
theorem dX10_copy_65 : decode cX10_copy 65 = .ok (.goto (-27), 3) := by decide +kernel
theorem dX10_copy_68 : decode cX10_copy 68 = .ok (.aload_n 1, 1) := by decide +kernel
theorem dX10_copy_69 : decode cX10_copy 69 = .ok (.aload_n 0, 1) := by decide +kernel
theorem dX10_copy_70 : decode cX10_copy 70 = .ok (.getfield 19, 3) := by decide +kernel
theorem dX10_copy_73 : decode cX10_copy 73 = .ok (.putfield 19, 3) := by decide +kernel
theorem dX10_copy_76 : decode cX10_copy 76 = .ok (.aload_n 1, 1) := by decide +kernel
theorem dX10_copy_77 : decode cX10_copy 77 = .ok (.aload_n 0, 1) := by decide +kernel
theorem dX10_copy_78 : decode cX10_copy 78 = .ok (.getfield 31, 3) := by decide +kernel
theorem dX10_copy_81 : decode cX10_copy 81 = .ok (.putfield 31, 3) := by decide +kernel
theorem dX10_copy_84 : decode cX10_copy 84 = .ok (.aload_n 1, 1) := by decide +kernel
theorem dX10_copy_85 : decode cX10_copy 85 = .ok (.areturn, 1) := by decide +kernel
theorem dX10_rank_0 : decode cX10_rank 0 = .ok (.iconst 0, 1) := by decide +kernel
theorem dX10_rank_1 : decode cX10_rank 1 = .ok (.istore_n 2, 1) := by decide +kernel
theorem dX10_rank_2 : decode cX10_rank 2 = .ok (.iload_n 2, 1) := by decide +kernel
theorem dX10_rank_3 : decode cX10_rank 3 = .ok (.aload_n 0, 1) := by decide +kernel
theorem dX10_rank_4 : decode cX10_rank 4 = .ok (.getfield 19, 3) := by decide +kernel
theorem dX10_rank_7 : decode cX10_rank 7 = .ok (.arraylength, 1) := by decide +kernel
theorem dX10_rank_8 : decode cX10_rank 8 = .ok (.if_icmp .ge 21, 3) := by decide +kernel
theorem dX10_rank_11 : decode cX10_rank 11 = .ok (.aload_n 0, 1) := by decide +kernel
theorem dX10_rank_12 : decode cX10_rank 12 = .ok (.getfield 19, 3) := by decide +kernel
theorem dX10_rank_15 : decode cX10_rank 15 = .ok (.iload_n 2, 1) := by decide +kernel
theorem dX10_rank_16 : decode cX10_rank 16 = .ok (.iaload, 1) := by decide +kernel
theorem dX10_rank_17 : decode cX10_rank 17 = .ok (.iload_n 1, 1) := by decide +kernel
theorem dX10_rank_18 : decode cX10_rank 18 = .ok (.if_icmp .ne 5, 3) := by decide +kernel
theorem dX10_rank_21 : decode cX10_rank 21 = .ok (.iload_n 2, 1) := by decide +kernel
theorem dX10_rank_22 : decode cX10_rank 22 = .ok (.ireturn, 1) := by decide +kernel
theorem dX10_rank_23 : decode cX10_rank 23 = .ok (.iinc 2 1, 3) := by decide +kernel
theorem dX10_rank_26 : decode cX10_rank 26 = .ok (.goto (-24), 3) := by decide +kernel
theorem dX10_rank_29 : decode cX10_rank 29 = .ok (.iconst (-1), 1) := by decide +kernel
theorem dX10_rank_30 : decode cX10_rank 30 = .ok (.ireturn, 1) := by decide +kernel
theorem dX10_weight_0 : decode cX10_weight 0 = .ok (.aload_n 0, 1) := by decide +kernel
theorem dX10_weight_1 : decode cX10_weight 1 = .ok (.iload_n 1, 1) := by decide +kernel
theorem dX10_weight_2 : decode cX10_weight 2 = .ok (.invokevirtual 35, 3) := by decide +kernel
theorem dX10_weight_5 : decode cX10_weight 5 = .ok (.ifCond .ge 5, 3) := by decide +kernel
theorem dX10_weight_8 : decode cX10_weight 8 = .ok (.iconst (-1), 1) := by decide +kernel
theorem dX10_weight_9 : decode cX10_weight 9 = .ok (.ireturn, 1) := by decide +kernel
theorem dX10_weight_10 : decode cX10_weight 10 = .ok (.iconst 0, 1) := by decide +kernel
theorem dX10_weight_11 : decode cX10_weight 11 = .ok (.istore_n 2, 1) := by decide +kernel
theorem dX10_weight_12 : decode cX10_weight 12 = .ok (.aload_n 0, 1) := by decide +kernel
theorem dX10_weight_13 : decode cX10_weight 13 = .ok (.getfield 19, 3) := by decide +kernel
theorem dX10_weight_16 : decode cX10_weight 16 = .ok (.astore_n 3, 1) := by decide +kernel
theorem dX10_weight_17 : decode cX10_weight 17 = .ok (.aload_n 3, 1) := by decide +kernel
theorem dX10_weight_18 : decode cX10_weight 18 = .ok (.arraylength, 1) := by decide +kernel
theorem dX10_weight_19 : decode cX10_weight 19 = .ok (.istore 4, 2) := by decide +kernel
theorem dX10_weight_21 : decode cX10_weight 21 = .ok (.iconst 0, 1) := by decide +kernel
theorem dX10_weight_22 : decode cX10_weight 22 = .ok (.istore 5, 2) := by decide +kernel
theorem dX10_weight_24 : decode cX10_weight 24 = .ok (.iload 5, 2) := by decide +kernel
theorem dX10_weight_26 : decode cX10_weight 26 = .ok (.iload 4, 2) := by decide +kernel
theorem dX10_weight_28 : decode cX10_weight 28 = .ok (.if_icmp .ge 35, 3) := by decide +kernel
theorem dX10_weight_31 : decode cX10_weight 31 = .ok (.aload_n 3, 1) := by decide +kernel
theorem dX10_weight_32 : decode cX10_weight 32 = .ok (.iload 5, 2) := by decide +kernel
theorem dX10_weight_34 : decode cX10_weight 34 = .ok (.iaload, 1) := by decide +kernel
theorem dX10_weight_35 : decode cX10_weight 35 = .ok (.istore 6, 2) := by decide +kernel
theorem dX10_weight_37 : decode cX10_weight 37 = .ok (.aload_n 0, 1) := by decide +kernel
theorem dX10_weight_38 : decode cX10_weight 38 = .ok (.getfield 15, 3) := by decide +kernel
theorem dX10_weight_41 : decode cX10_weight 41 = .ok (.iload 6, 2) := by decide +kernel
theorem dX10_weight_43 : decode cX10_weight 43 = .ok (.aaload, 1) := by decide +kernel
theorem dX10_weight_44 : decode cX10_weight 44 = .ok (.getfield 39, 3) := by decide +kernel
theorem dX10_weight_47 : decode cX10_weight 47 = .ok (.iload_n 1, 1) := by decide +kernel
theorem dX10_weight_48 : decode cX10_weight 48 = .ok (.invokestatic 42, 3) := by decide +kernel
theorem dX10_weight_51 : decode cX10_weight 51 = .ok (.ifCond .eq 6, 3) := by decide +kernel
theorem dX10_weight_54 : decode cX10_weight 54 = .ok (.iinc 2 1, 3) := by decide +kernel
theorem dX10_weight_57 : decode cX10_weight 57 = .ok (.iinc 5 1, 3) := by decide +kernel
theorem dX10_weight_60 : decode cX10_weight 60 = .ok (.goto (-36), 3) := by decide +kernel
theorem dX10_weight_63 : decode cX10_weight 63 = .ok (.aload_n 0, 1) := by decide +kernel
theorem dX10_weight_64 : decode cX10_weight 64 = .ok (.getfield 15, 3) := by decide +kernel
theorem dX10_weight_67 : decode cX10_weight 67 = .ok (.iload_n 1, 1) := by decide +kernel
theorem dX10_weight_68 : decode cX10_weight 68 = .ok (.aaload, 1) := by decide +kernel
theorem dX10_weight_69 : decode cX10_weight 69 = .ok (.astore_n 3, 1) := by decide +kernel
theorem dX10_weight_70 : decode cX10_weight 70 = .ok (.aload_n 0, 1) := by decide +kernel
theorem dX10_weight_71 : decode cX10_weight 71 = .ok (.getfield 31, 3) := by decide +kernel
theorem dX10_weight_74 : decode cX10_weight 74 = .ok (.ifnonnull 11, 3) := by decide +kernel
theorem dX10_weight_77 : decode cX10_weight 77 = .ok (.aload_n 3, 1) := by decide +kernel
theorem dX10_weight_78 : decode cX10_weight 78 = .ok (.getfield 48, 3) := by decide +kernel
theorem dX10_weight_81 : decode cX10_weight 81 = .ok (.i2l, 1) := by decide +kernel
theorem dX10_weight_82 : decode cX10_weight 82 = .ok (.goto 43, 3) := by decide +kernel
theorem dX10_weight_85 : decode cX10_weight 85 = .ok (.aload_n 0, 1) := by decide +kernel
theorem dX10_weight_86 : decode cX10_weight 86 = .ok (.getfield 31, 3) := by decide +kernel
theorem dX10_weight_89 : decode cX10_weight 89 = .ok (.iconst 4, 1) := by decide +kernel
theorem dX10_weight_90 : decode cX10_weight 90 = .ok (.newarray .long, 2) := by decide +kernel
theorem dX10_weight_92 : decode cX10_weight 92 = .ok (.dup, 1) := by decide +kernel
theorem dX10_weight_93 : decode cX10_weight 93 = .ok (.iconst 0, 1) := by decide +kernel
theorem dX10_weight_94 : decode cX10_weight 94 = .ok (.aload_n 3, 1) := by decide +kernel
theorem dX10_weight_95 : decode cX10_weight 95 = .ok (.getfield 48, 3) := by decide +kernel
theorem dX10_weight_98 : decode cX10_weight 98 = .ok (.i2l, 1) := by decide +kernel
theorem dX10_weight_99 : decode cX10_weight 99 = .ok (.lastore, 1) := by decide +kernel
theorem dX10_weight_100 : decode cX10_weight 100 = .ok (.dup, 1) := by decide +kernel
theorem dX10_weight_101 : decode cX10_weight 101 = .ok (.iconst 1, 1) := by decide +kernel
theorem dX10_weight_102 : decode cX10_weight 102 = .ok (.aload_n 0, 1) := by decide +kernel
theorem dX10_weight_103 : decode cX10_weight 103 = .ok (.iload_n 1, 1) := by decide +kernel
theorem dX10_weight_104 : decode cX10_weight 104 = .ok (.invokevirtual 35, 3) := by decide +kernel
theorem dX10_weight_107 : decode cX10_weight 107 = .ok (.i2l, 1) := by decide +kernel
theorem dX10_weight_108 : decode cX10_weight 108 = .ok (.lastore, 1) := by decide +kernel
theorem dX10_weight_109 : decode cX10_weight 109 = .ok (.dup, 1) := by decide +kernel
theorem dX10_weight_110 : decode cX10_weight 110 = .ok (.iconst 2, 1) := by decide +kernel
theorem dX10_weight_111 : decode cX10_weight 111 = .ok (.aload_n 3, 1) := by decide +kernel
theorem dX10_weight_112 : decode cX10_weight 112 = .ok (.invokevirtual 51, 3) := by decide +kernel
theorem dX10_weight_115 : decode cX10_weight 115 = .ok (.i2l, 1) := by decide +kernel
theorem dX10_weight_116 : decode cX10_weight 116 = .ok (.lastore, 1) := by decide +kernel
theorem dX10_weight_117 : decode cX10_weight 117 = .ok (.dup, 1) := by decide +kernel
theorem dX10_weight_118 : decode cX10_weight 118 = .ok (.iconst 3, 1) := by decide +kernel
theorem dX10_weight_119 : decode cX10_weight 119 = .ok (.iload_n 2, 1) := by decide +kernel
theorem dX10_weight_120 : decode cX10_weight 120 = .ok (.i2l, 1) := by decide +kernel
theorem dX10_weight_121 : decode cX10_weight 121 = .ok (.lastore, 1) := by decide +kernel
theorem dX10_weight_122 : decode cX10_weight 122 = .ok (.invokevirtual 55, 3) := by decide +kernel
theorem dX10_weight_125 : decode cX10_weight 125 = .ok (.lstore 4, 2) := by decide +kernel
theorem dX10_weight_127 : decode cX10_weight 127 = .ok (.lconst 0, 1) := by decide +kernel
theorem dX10_weight_128 : decode cX10_weight 128 = .ok (.ldc2_w 61, 3) := by decide +kernel
theorem dX10_weight_131 : decode cX10_weight 131 = .ok (.lload 4, 2) := by decide +kernel
theorem dX10_weight_133 : decode cX10_weight 133 = .ok (.invokestatic 63, 3) := by decide +kernel
theorem dX10_weight_136 : decode cX10_weight 136 = .ok (.invokestatic 69, 3) := by decide +kernel
theorem dX10_weight_139 : decode cX10_weight 139 = .ok (.l2i, 1) := by decide +kernel
theorem dX10_weight_140 : decode cX10_weight 140 = .ok (.ireturn, 1) := by decide +kernel
theorem dX10_isCandidate_0 : decode cX10_isCandidate 0 = .ok (.aload_n 0, 1) := by decide +kernel
theorem dX10_isCandidate_1 : decode cX10_isCandidate 1 = .ok (.iload_n 1, 1) := by decide +kernel
theorem dX10_isCandidate_2 : decode cX10_isCandidate 2 = .ok (.invokevirtual 35, 3) := by decide +kernel
theorem dX10_isCandidate_5 : decode cX10_isCandidate 5 = .ok (.ifCond .lt 22, 3) := by decide +kernel
theorem dX10_isCandidate_8 : decode cX10_isCandidate 8 = .ok (.aload_n 0, 1) := by decide +kernel
theorem dX10_isCandidate_9 : decode cX10_isCandidate 9 = .ok (.getfield 15, 3) := by decide +kernel
theorem dX10_isCandidate_12 : decode cX10_isCandidate 12 = .ok (.iload_n 1, 1) := by decide +kernel
theorem dX10_isCandidate_13 : decode cX10_isCandidate 13 = .ok (.aaload, 1) := by decide +kernel
theorem dX10_isCandidate_14 : decode cX10_isCandidate 14 = .ok (.getfield 72, 3) := by decide +kernel
theorem dX10_isCandidate_17 : decode cX10_isCandidate 17 = .ok (.iload_n 2, 1) := by decide +kernel
theorem dX10_isCandidate_18 : decode cX10_isCandidate 18 = .ok (.iaload, 1) := by decide +kernel
theorem dX10_isCandidate_19 : decode cX10_isCandidate 19 = .ok (.iconst (-1), 1) := by decide +kernel
theorem dX10_isCandidate_20 : decode cX10_isCandidate 20 = .ok (.if_icmp .eq 7, 3) := by decide +kernel
theorem dX10_isCandidate_23 : decode cX10_isCandidate 23 = .ok (.iconst 1, 1) := by decide +kernel
theorem dX10_isCandidate_24 : decode cX10_isCandidate 24 = .ok (.goto 4, 3) := by decide +kernel
theorem dX10_isCandidate_27 : decode cX10_isCandidate 27 = .ok (.iconst 0, 1) := by decide +kernel
theorem dX10_isCandidate_28 : decode cX10_isCandidate 28 = .ok (.ireturn, 1) := by decide +kernel
theorem dX10_vote_0 : decode cX10_vote 0 = .ok (.aload_n 0, 1) := by decide +kernel
theorem dX10_vote_1 : decode cX10_vote 1 = .ok (.iload_n 1, 1) := by decide +kernel
theorem dX10_vote_2 : decode cX10_vote 2 = .ok (.invokevirtual 35, 3) := by decide +kernel
theorem dX10_vote_5 : decode cX10_vote 5 = .ok (.ifCond .ge 5, 3) := by decide +kernel
theorem dX10_vote_8 : decode cX10_vote 8 = .ok (.iconst (-1), 1) := by decide +kernel
theorem dX10_vote_9 : decode cX10_vote 9 = .ok (.ireturn, 1) := by decide +kernel
theorem dX10_vote_10 : decode cX10_vote 10 = .ok (.aload_n 0, 1) := by decide +kernel
theorem dX10_vote_11 : decode cX10_vote 11 = .ok (.iload_n 1, 1) := by decide +kernel
theorem dX10_vote_12 : decode cX10_vote 12 = .ok (.iload_n 2, 1) := by decide +kernel
theorem dX10_vote_13 : decode cX10_vote 13 = .ok (.invokevirtual 75, 3) := by decide +kernel
theorem dX10_vote_16 : decode cX10_vote 16 = .ok (.ifCond .eq 5, 3) := by decide +kernel
theorem dX10_vote_19 : decode cX10_vote 19 = .ok (.iload_n 1, 1) := by decide +kernel
theorem dX10_vote_20 : decode cX10_vote 20 = .ok (.ireturn, 1) := by decide +kernel
theorem dX10_vote_21 : decode cX10_vote 21 = .ok (.aload_n 0, 1) := by decide +kernel
theorem dX10_vote_22 : decode cX10_vote 22 = .ok (.getfield 15, 3) := by decide +kernel
theorem dX10_vote_25 : decode cX10_vote 25 = .ok (.iload_n 1, 1) := by decide +kernel
theorem dX10_vote_26 : decode cX10_vote 26 = .ok (.aaload, 1) := by decide +kernel
theorem dX10_vote_27 : decode cX10_vote 27 = .ok (.getfield 39, 3) := by decide +kernel
theorem dX10_vote_30 : decode cX10_vote 30 = .ok (.astore_n 3, 1) := by decide +kernel
theorem dX10_vote_31 : decode cX10_vote 31 = .ok (.aload_n 3, 1) := by decide +kernel
theorem dX10_vote_32 : decode cX10_vote 32 = .ok (.arraylength, 1) := by decide +kernel
theorem dX10_vote_33 : decode cX10_vote 33 = .ok (.istore 4, 2) := by decide +kernel
theorem dX10_vote_35 : decode cX10_vote 35 = .ok (.iconst 0, 1) := by decide +kernel
theorem dX10_vote_36 : decode cX10_vote 36 = .ok (.istore 5, 2) := by decide +kernel
theorem dX10_vote_38 : decode cX10_vote 38 = .ok (.iload 5, 2) := by decide +kernel
theorem dX10_vote_40 : decode cX10_vote 40 = .ok (.iload 4, 2) := by decide +kernel
theorem dX10_vote_42 : decode cX10_vote 42 = .ok (.if_icmp .ge 28, 3) := by decide +kernel
theorem dX10_vote_45 : decode cX10_vote 45 = .ok (.aload_n 3, 1) := by decide +kernel
theorem dX10_vote_46 : decode cX10_vote 46 = .ok (.iload 5, 2) := by decide +kernel
theorem dX10_vote_48 : decode cX10_vote 48 = .ok (.iaload, 1) := by decide +kernel
theorem dX10_vote_49 : decode cX10_vote 49 = .ok (.istore 6, 2) := by decide +kernel
theorem dX10_vote_51 : decode cX10_vote 51 = .ok (.aload_n 0, 1) := by decide +kernel
theorem dX10_vote_52 : decode cX10_vote 52 = .ok (.iload 6, 2) := by decide +kernel
theorem dX10_vote_54 : decode cX10_vote 54 = .ok (.iload_n 2, 1) := by decide +kernel
theorem dX10_vote_55 : decode cX10_vote 55 = .ok (.invokevirtual 75, 3) := by decide +kernel
theorem dX10_vote_58 : decode cX10_vote 58 = .ok (.ifCond .eq 6, 3) := by decide +kernel
theorem dX10_vote_61 : decode cX10_vote 61 = .ok (.iload 6, 2) := by decide +kernel
theorem dX10_vote_63 : decode cX10_vote 63 = .ok (.ireturn, 1) := by decide +kernel
theorem dX10_vote_64 : decode cX10_vote 64 = .ok (.iinc 5 1, 3) := by decide +kernel
theorem dX10_vote_67 : decode cX10_vote 67 = .ok (.goto (-29), 3) := by decide +kernel
theorem dX10_vote_70 : decode cX10_vote 70 = .ok (.iconst (-1), 1) := by decide +kernel
theorem dX10_vote_71 : decode cX10_vote 71 = .ok (.ireturn, 1) := by decide +kernel
theorem dX10_support_0 : decode cX10_support 0 = .ok (.iconst 0, 1) := by decide +kernel
theorem dX10_support_1 : decode cX10_support 1 = .ok (.istore_n 3, 1) := by decide +kernel
theorem dX10_support_2 : decode cX10_support 2 = .ok (.aload_n 0, 1) := by decide +kernel
theorem dX10_support_3 : decode cX10_support 3 = .ok (.getfield 19, 3) := by decide +kernel
theorem dX10_support_6 : decode cX10_support 6 = .ok (.astore 4, 2) := by decide +kernel
theorem dX10_support_8 : decode cX10_support 8 = .ok (.aload 4, 2) := by decide +kernel
theorem dX10_support_10 : decode cX10_support 10 = .ok (.arraylength, 1) := by decide +kernel
theorem dX10_support_11 : decode cX10_support 11 = .ok (.istore 5, 2) := by decide +kernel
theorem dX10_support_13 : decode cX10_support 13 = .ok (.iconst 0, 1) := by decide +kernel
theorem dX10_support_14 : decode cX10_support 14 = .ok (.istore 6, 2) := by decide +kernel
theorem dX10_support_16 : decode cX10_support 16 = .ok (.iload 6, 2) := by decide +kernel
theorem dX10_support_18 : decode cX10_support 18 = .ok (.iload 5, 2) := by decide +kernel
theorem dX10_support_20 : decode cX10_support 20 = .ok (.if_icmp .ge 36, 3) := by decide +kernel
theorem dX10_support_23 : decode cX10_support 23 = .ok (.aload 4, 2) := by decide +kernel
theorem dX10_support_25 : decode cX10_support 25 = .ok (.iload 6, 2) := by decide +kernel
theorem dX10_support_27 : decode cX10_support 27 = .ok (.iaload, 1) := by decide +kernel
theorem dX10_support_28 : decode cX10_support 28 = .ok (.istore 7, 2) := by decide +kernel
theorem dX10_support_30 : decode cX10_support 30 = .ok (.aload_n 0, 1) := by decide +kernel
theorem dX10_support_31 : decode cX10_support 31 = .ok (.iload 7, 2) := by decide +kernel
theorem dX10_support_33 : decode cX10_support 33 = .ok (.iload_n 2, 1) := by decide +kernel
theorem dX10_support_34 : decode cX10_support 34 = .ok (.invokevirtual 79, 3) := by decide +kernel
theorem dX10_support_37 : decode cX10_support 37 = .ok (.iload_n 1, 1) := by decide +kernel
theorem dX10_support_38 : decode cX10_support 38 = .ok (.if_icmp .ne 12, 3) := by decide +kernel
theorem dX10_support_41 : decode cX10_support 41 = .ok (.iload_n 3, 1) := by decide +kernel
theorem dX10_support_42 : decode cX10_support 42 = .ok (.aload_n 0, 1) := by decide +kernel
theorem dX10_support_43 : decode cX10_support 43 = .ok (.iload 7, 2) := by decide +kernel
theorem dX10_support_45 : decode cX10_support 45 = .ok (.invokevirtual 83, 3) := by decide +kernel
theorem dX10_support_48 : decode cX10_support 48 = .ok (.iadd, 1) := by decide +kernel
theorem dX10_support_49 : decode cX10_support 49 = .ok (.istore_n 3, 1) := by decide +kernel
theorem dX10_support_50 : decode cX10_support 50 = .ok (.iinc 6 1, 3) := by decide +kernel
theorem dX10_support_53 : decode cX10_support 53 = .ok (.goto (-37), 3) := by decide +kernel
theorem dX10_support_56 : decode cX10_support 56 = .ok (.iload_n 3, 1) := by decide +kernel
theorem dX10_support_57 : decode cX10_support 57 = .ok (.ireturn, 1) := by decide +kernel
theorem dX10_winner_0 : decode cX10_winner 0 = .ok (.iconst (-1), 1) := by decide +kernel
theorem dX10_winner_1 : decode cX10_winner 1 = .ok (.istore_n 2, 1) := by decide +kernel
theorem dX10_winner_2 : decode cX10_winner 2 = .ok (.aload_n 0, 1) := by decide +kernel
theorem dX10_winner_3 : decode cX10_winner 3 = .ok (.getfield 19, 3) := by decide +kernel
theorem dX10_winner_6 : decode cX10_winner 6 = .ok (.astore_n 3, 1) := by decide +kernel
theorem dX10_winner_7 : decode cX10_winner 7 = .ok (.aload_n 3, 1) := by decide +kernel
theorem dX10_winner_8 : decode cX10_winner 8 = .ok (.arraylength, 1) := by decide +kernel
theorem dX10_winner_9 : decode cX10_winner 9 = .ok (.istore 4, 2) := by decide +kernel
theorem dX10_winner_11 : decode cX10_winner 11 = .ok (.iconst 0, 1) := by decide +kernel
theorem dX10_winner_12 : decode cX10_winner 12 = .ok (.istore 5, 2) := by decide +kernel
theorem dX10_winner_14 : decode cX10_winner 14 = .ok (.iload 5, 2) := by decide +kernel
theorem dX10_winner_16 : decode cX10_winner 16 = .ok (.iload 4, 2) := by decide +kernel
theorem dX10_winner_18 : decode cX10_winner 18 = .ok (.if_icmp .ge 48, 3) := by decide +kernel
theorem dX10_winner_21 : decode cX10_winner 21 = .ok (.aload_n 3, 1) := by decide +kernel
theorem dX10_winner_22 : decode cX10_winner 22 = .ok (.iload 5, 2) := by decide +kernel
theorem dX10_winner_24 : decode cX10_winner 24 = .ok (.iaload, 1) := by decide +kernel
theorem dX10_winner_25 : decode cX10_winner 25 = .ok (.istore 6, 2) := by decide +kernel
theorem dX10_winner_27 : decode cX10_winner 27 = .ok (.aload_n 0, 1) := by decide +kernel
theorem dX10_winner_28 : decode cX10_winner 28 = .ok (.iload 6, 2) := by decide +kernel
theorem dX10_winner_30 : decode cX10_winner 30 = .ok (.iload_n 1, 1) := by decide +kernel
theorem dX10_winner_31 : decode cX10_winner 31 = .ok (.invokevirtual 75, 3) := by decide +kernel
theorem dX10_winner_34 : decode cX10_winner 34 = .ok (.ifCond .eq 26, 3) := by decide +kernel
theorem dX10_winner_37 : decode cX10_winner 37 = .ok (.iload_n 2, 1) := by decide +kernel
theorem dX10_winner_38 : decode cX10_winner 38 = .ok (.ifCond .lt 19, 3) := by decide +kernel
theorem dX10_winner_41 : decode cX10_winner 41 = .ok (.aload_n 0, 1) := by decide +kernel
theorem dX10_winner_42 : decode cX10_winner 42 = .ok (.iload 6, 2) := by decide +kernel
theorem dX10_winner_44 : decode cX10_winner 44 = .ok (.iload_n 1, 1) := by decide +kernel
theorem dX10_winner_45 : decode cX10_winner 45 = .ok (.invokevirtual 86, 3) := by decide +kernel
theorem dX10_winner_48 : decode cX10_winner 48 = .ok (.aload_n 0, 1) := by decide +kernel
theorem dX10_winner_49 : decode cX10_winner 49 = .ok (.iload_n 2, 1) := by decide +kernel
theorem dX10_winner_50 : decode cX10_winner 50 = .ok (.iload_n 1, 1) := by decide +kernel
theorem dX10_winner_51 : decode cX10_winner 51 = .ok (.invokevirtual 86, 3) := by decide +kernel
theorem dX10_winner_54 : decode cX10_winner 54 = .ok (.if_icmp .le 6, 3) := by decide +kernel
theorem dX10_winner_57 : decode cX10_winner 57 = .ok (.iload 6, 2) := by decide +kernel
theorem dX10_winner_59 : decode cX10_winner 59 = .ok (.istore_n 2, 1) := by decide +kernel
theorem dX10_winner_60 : decode cX10_winner 60 = .ok (.iinc 5 1, 3) := by decide +kernel
theorem dX10_winner_63 : decode cX10_winner 63 = .ok (.goto (-49), 3) := by decide +kernel
theorem dX10_winner_66 : decode cX10_winner 66 = .ok (.iload_n 2, 1) := by decide +kernel
theorem dX10_winner_67 : decode cX10_winner 67 = .ok (.ireturn, 1) := by decide +kernel
theorem dX10_binding_0 : decode cX10_binding 0 = .ok (.aload_n 0, 1) := by decide +kernel
theorem dX10_binding_1 : decode cX10_binding 1 = .ok (.iload_n 1, 1) := by decide +kernel
theorem dX10_binding_2 : decode cX10_binding 2 = .ok (.invokevirtual 35, 3) := by decide +kernel
theorem dX10_binding_5 : decode cX10_binding 5 = .ok (.ifCond .ge 5, 3) := by decide +kernel
theorem dX10_binding_8 : decode cX10_binding 8 = .ok (.iconst (-1), 1) := by decide +kernel
theorem dX10_binding_9 : decode cX10_binding 9 = .ok (.ireturn, 1) := by decide +kernel
theorem dX10_binding_10 : decode cX10_binding 10 = .ok (.iconst 0, 1) := by decide +kernel
theorem dX10_binding_11 : decode cX10_binding 11 = .ok (.istore_n 3, 1) := by decide +kernel
theorem dX10_binding_12 : decode cX10_binding 12 = .ok (.aload_n 0, 1) := by decide +kernel
theorem dX10_binding_13 : decode cX10_binding 13 = .ok (.getfield 19, 3) := by decide +kernel
theorem dX10_binding_16 : decode cX10_binding 16 = .ok (.astore 4, 2) := by decide +kernel
theorem dX10_binding_18 : decode cX10_binding 18 = .ok (.aload 4, 2) := by decide +kernel
theorem dX10_binding_20 : decode cX10_binding 20 = .ok (.arraylength, 1) := by decide +kernel
theorem dX10_binding_21 : decode cX10_binding 21 = .ok (.istore 5, 2) := by decide +kernel
theorem dX10_binding_23 : decode cX10_binding 23 = .ok (.iconst 0, 1) := by decide +kernel
theorem dX10_binding_24 : decode cX10_binding 24 = .ok (.istore 6, 2) := by decide +kernel
theorem dX10_binding_26 : decode cX10_binding 26 = .ok (.iload 6, 2) := by decide +kernel
theorem dX10_binding_28 : decode cX10_binding 28 = .ok (.iload 5, 2) := by decide +kernel
theorem dX10_binding_30 : decode cX10_binding 30 = .ok (.if_icmp .ge 36, 3) := by decide +kernel
theorem dX10_binding_33 : decode cX10_binding 33 = .ok (.aload 4, 2) := by decide +kernel
theorem dX10_binding_35 : decode cX10_binding 35 = .ok (.iload 6, 2) := by decide +kernel
theorem dX10_binding_37 : decode cX10_binding 37 = .ok (.iaload, 1) := by decide +kernel
theorem dX10_binding_38 : decode cX10_binding 38 = .ok (.istore 7, 2) := by decide +kernel
theorem dX10_binding_40 : decode cX10_binding 40 = .ok (.aload_n 0, 1) := by decide +kernel
theorem dX10_binding_41 : decode cX10_binding 41 = .ok (.iload 7, 2) := by decide +kernel
theorem dX10_binding_43 : decode cX10_binding 43 = .ok (.iload_n 2, 1) := by decide +kernel
theorem dX10_binding_44 : decode cX10_binding 44 = .ok (.invokevirtual 75, 3) := by decide +kernel
theorem dX10_binding_47 : decode cX10_binding 47 = .ok (.ifCond .eq 13, 3) := by decide +kernel
theorem dX10_binding_50 : decode cX10_binding 50 = .ok (.iload_n 3, 1) := by decide +kernel
theorem dX10_binding_51 : decode cX10_binding 51 = .ok (.aload_n 0, 1) := by decide +kernel
theorem dX10_binding_52 : decode cX10_binding 52 = .ok (.iload 7, 2) := by decide +kernel
theorem dX10_binding_54 : decode cX10_binding 54 = .ok (.iload_n 2, 1) := by decide +kernel
theorem dX10_binding_55 : decode cX10_binding 55 = .ok (.invokevirtual 86, 3) := by decide +kernel
theorem dX10_binding_58 : decode cX10_binding 58 = .ok (.iadd, 1) := by decide +kernel
theorem dX10_binding_59 : decode cX10_binding 59 = .ok (.istore_n 3, 1) := by decide +kernel
theorem dX10_binding_60 : decode cX10_binding 60 = .ok (.iinc 6 1, 3) := by decide +kernel
theorem dX10_binding_63 : decode cX10_binding 63 = .ok (.goto (-37), 3) := by decide +kernel
theorem dX10_binding_66 : decode cX10_binding 66 = .ok (.aload_n 0, 1) := by decide +kernel
theorem dX10_binding_67 : decode cX10_binding 67 = .ok (.iload_n 1, 1) := by decide +kernel
theorem dX10_binding_68 : decode cX10_binding 68 = .ok (.iload_n 2, 1) := by decide +kernel
theorem dX10_binding_69 : decode cX10_binding 69 = .ok (.invokevirtual 79, 3) := by decide +kernel
theorem dX10_binding_72 : decode cX10_binding 72 = .ok (.istore 4, 2) := by decide +kernel
theorem dX10_binding_74 : decode cX10_binding 74 = .ok (.aload_n 0, 1) := by decide +kernel
theorem dX10_binding_75 : decode cX10_binding 75 = .ok (.getfield 15, 3) := by decide +kernel
theorem dX10_binding_78 : decode cX10_binding 78 = .ok (.iload_n 1, 1) := by decide +kernel
theorem dX10_binding_79 : decode cX10_binding 79 = .ok (.aaload, 1) := by decide +kernel
theorem dX10_binding_80 : decode cX10_binding 80 = .ok (.getfield 94, 3) := by decide +kernel
theorem dX10_binding_83 : decode cX10_binding 83 = .ok (.ifCond .eq 32, 3) := by decide +kernel
theorem dX10_binding_86 : decode cX10_binding 86 = .ok (.iload 4, 2) := by decide +kernel
theorem dX10_binding_88 : decode cX10_binding 88 = .ok (.ifCond .lt 27, 3) := by decide +kernel
theorem dX10_binding_91 : decode cX10_binding 91 = .ok (.bipush 100, 2) := by decide +kernel
theorem dX10_binding_93 : decode cX10_binding 93 = .ok (.aload_n 0, 1) := by decide +kernel
theorem dX10_binding_94 : decode cX10_binding 94 = .ok (.iload 4, 2) := by decide +kernel
theorem dX10_binding_96 : decode cX10_binding 96 = .ok (.iload_n 2, 1) := by decide +kernel
theorem dX10_binding_97 : decode cX10_binding 97 = .ok (.invokevirtual 86, 3) := by decide +kernel
theorem dX10_binding_100 : decode cX10_binding 100 = .ok (.imul, 1) := by decide +kernel
theorem dX10_binding_101 : decode cX10_binding 101 = .ok (.aload_n 0, 1) := by decide +kernel
theorem dX10_binding_102 : decode cX10_binding 102 = .ok (.getfield 7, 3) := by decide +kernel
theorem dX10_binding_105 : decode cX10_binding 105 = .ok (.iload_n 3, 1) := by decide +kernel
theorem dX10_binding_106 : decode cX10_binding 106 = .ok (.imul, 1) := by decide +kernel
theorem dX10_binding_107 : decode cX10_binding 107 = .ok (.if_icmp .lt 8, 3) := by decide +kernel
theorem dX10_binding_110 : decode cX10_binding 110 = .ok (.iload 4, 2) := by decide +kernel
theorem dX10_binding_112 : decode cX10_binding 112 = .ok (.goto 8, 3) := by decide +kernel
theorem dX10_binding_115 : decode cX10_binding 115 = .ok (.aload_n 0, 1) := by decide +kernel
theorem dX10_binding_116 : decode cX10_binding 116 = .ok (.iload_n 2, 1) := by decide +kernel
theorem dX10_binding_117 : decode cX10_binding 117 = .ok (.invokevirtual 89, 3) := by decide +kernel
theorem dX10_binding_120 : decode cX10_binding 120 = .ok (.ireturn, 1) := by decide +kernel
theorem dX10_bindings_0 : decode cX10_bindings 0 = .ok (.aload_n 0, 1) := by decide +kernel
theorem dX10_bindings_1 : decode cX10_bindings 1 = .ok (.getfield 15, 3) := by decide +kernel
theorem dX10_bindings_4 : decode cX10_bindings 4 = .ok (.arraylength, 1) := by decide +kernel
theorem dX10_bindings_5 : decode cX10_bindings 5 = .ok (.aload_n 0, 1) := by decide +kernel
theorem dX10_bindings_6 : decode cX10_bindings 6 = .ok (.getfield 24, 3) := by decide +kernel
theorem dX10_bindings_9 : decode cX10_bindings 9 = .ok (.multianewarray 98 2, 4) := by decide +kernel
theorem dX10_bindings_13 : decode cX10_bindings 13 = .ok (.astore_n 1, 1) := by decide +kernel
theorem dX10_bindings_14 : decode cX10_bindings 14 = .ok (.iconst 0, 1) := by decide +kernel
theorem dX10_bindings_15 : decode cX10_bindings 15 = .ok (.istore_n 2, 1) := by decide +kernel
theorem dX10_bindings_16 : decode cX10_bindings 16 = .ok (.iload_n 2, 1) := by decide +kernel
theorem dX10_bindings_17 : decode cX10_bindings 17 = .ok (.aload_n 0, 1) := by decide +kernel
theorem dX10_bindings_18 : decode cX10_bindings 18 = .ok (.getfield 15, 3) := by decide +kernel
theorem dX10_bindings_21 : decode cX10_bindings 21 = .ok (.arraylength, 1) := by decide +kernel
theorem dX10_bindings_22 : decode cX10_bindings 22 = .ok (.if_icmp .ge 36, 3) := by decide +kernel
theorem dX10_bindings_25 : decode cX10_bindings 25 = .ok (.iconst 0, 1) := by decide +kernel
theorem dX10_bindings_26 : decode cX10_bindings 26 = .ok (.istore_n 3, 1) := by decide +kernel
theorem dX10_bindings_27 : decode cX10_bindings 27 = .ok (.iload_n 3, 1) := by decide +kernel
theorem dX10_bindings_28 : decode cX10_bindings 28 = .ok (.aload_n 0, 1) := by decide +kernel
theorem dX10_bindings_29 : decode cX10_bindings 29 = .ok (.getfield 24, 3) := by decide +kernel
theorem dX10_bindings_32 : decode cX10_bindings 32 = .ok (.if_icmp .ge 20, 3) := by decide +kernel
theorem dX10_bindings_35 : decode cX10_bindings 35 = .ok (.aload_n 1, 1) := by decide +kernel
theorem dX10_bindings_36 : decode cX10_bindings 36 = .ok (.iload_n 2, 1) := by decide +kernel
theorem dX10_bindings_37 : decode cX10_bindings 37 = .ok (.aaload, 1) := by decide +kernel
theorem dX10_bindings_38 : decode cX10_bindings 38 = .ok (.iload_n 3, 1) := by decide +kernel
theorem dX10_bindings_39 : decode cX10_bindings 39 = .ok (.aload_n 0, 1) := by decide +kernel
theorem dX10_bindings_40 : decode cX10_bindings 40 = .ok (.iload_n 2, 1) := by decide +kernel
theorem dX10_bindings_41 : decode cX10_bindings 41 = .ok (.iload_n 3, 1) := by decide +kernel
theorem dX10_bindings_42 : decode cX10_bindings 42 = .ok (.invokevirtual 100, 3) := by decide +kernel
theorem dX10_bindings_45 : decode cX10_bindings 45 = .ok (.iastore, 1) := by decide +kernel
theorem dX10_bindings_46 : decode cX10_bindings 46 = .ok (.iinc 3 1, 3) := by decide +kernel
theorem dX10_bindings_49 : decode cX10_bindings 49 = .ok (.goto (-22), 3) := by decide +kernel
theorem dX10_bindings_52 : decode cX10_bindings 52 = .ok (.iinc 2 1, 3) := by decide +kernel
theorem dX10_bindings_55 : decode cX10_bindings 55 = .ok (.goto (-39), 3) := by decide +kernel
theorem dX10_bindings_58 : decode cX10_bindings 58 = .ok (.aload_n 1, 1) := by decide +kernel
theorem dX10_bindings_59 : decode cX10_bindings 59 = .ok (.areturn, 1) := by decide +kernel
theorem dX10_call_0 : decode cX10_call 0 = .ok (.iconst 0, 1) := by decide +kernel
theorem dX10_call_1 : decode cX10_call 1 = .ok (.newarray .int, 2) := by decide +kernel
theorem dX10_call_3 : decode cX10_call 3 = .ok (.astore 4, 2) := by decide +kernel
theorem dX10_call_5 : decode cX10_call 5 = .ok (.iload_n 2, 1) := by decide +kernel
theorem dX10_call_6 : decode cX10_call 6 = .ok (.istore 5, 2) := by decide +kernel
theorem dX10_call_8 : decode cX10_call 8 = .ok (.iload_n 3, 1) := by decide +kernel
theorem dX10_call_9 : decode cX10_call 9 = .ok (.istore 6, 2) := by decide +kernel
theorem dX10_call_11 : decode cX10_call 11 = .ok (.iconst 0, 1) := by decide +kernel
theorem dX10_call_12 : decode cX10_call 12 = .ok (.istore 7, 2) := by decide +kernel
theorem dX10_call_14 : decode cX10_call 14 = .ok (.aload 4, 2) := by decide +kernel
theorem dX10_call_16 : decode cX10_call 16 = .ok (.bipush 100, 2) := by decide +kernel
theorem dX10_call_18 : decode cX10_call 18 = .ok (.iload 5, 2) := by decide +kernel
theorem dX10_call_20 : decode cX10_call 20 = .ok (.imul, 1) := by decide +kernel
theorem dX10_call_21 : decode cX10_call 21 = .ok (.iload 6, 2) := by decide +kernel
theorem dX10_call_23 : decode cX10_call 23 = .ok (.iadd, 1) := by decide +kernel
theorem dX10_call_24 : decode cX10_call 24 = .ok (.invokestatic 42, 3) := by decide +kernel
theorem dX10_call_27 : decode cX10_call 27 = .ok (.ifCond .ne 96, 3) := by decide +kernel
theorem dX10_call_30 : decode cX10_call 30 = .ok (.aload 4, 2) := by decide +kernel
theorem dX10_call_32 : decode cX10_call 32 = .ok (.bipush 100, 2) := by decide +kernel
theorem dX10_call_34 : decode cX10_call 34 = .ok (.iload 5, 2) := by decide +kernel
theorem dX10_call_36 : decode cX10_call 36 = .ok (.imul, 1) := by decide +kernel
theorem dX10_call_37 : decode cX10_call 37 = .ok (.iload 6, 2) := by decide +kernel
theorem dX10_call_39 : decode cX10_call 39 = .ok (.iadd, 1) := by decide +kernel
theorem dX10_call_40 : decode cX10_call 40 = .ok (.invokestatic 103, 3) := by decide +kernel
theorem dX10_call_43 : decode cX10_call 43 = .ok (.astore 4, 2) := by decide +kernel
theorem dX10_call_45 : decode cX10_call 45 = .ok (.aload_n 1, 1) := by decide +kernel
theorem dX10_call_46 : decode cX10_call 46 = .ok (.iload 5, 2) := by decide +kernel
theorem dX10_call_48 : decode cX10_call 48 = .ok (.aaload, 1) := by decide +kernel
theorem dX10_call_49 : decode cX10_call 49 = .ok (.iload 6, 2) := by decide +kernel
theorem dX10_call_51 : decode cX10_call 51 = .ok (.iaload, 1) := by decide +kernel
theorem dX10_call_52 : decode cX10_call 52 = .ok (.istore 8, 2) := by decide +kernel
theorem dX10_call_54 : decode cX10_call 54 = .ok (.iload 8, 2) := by decide +kernel
theorem dX10_call_56 : decode cX10_call 56 = .ok (.ifCond .ge 16, 3) := by decide +kernel
theorem dX10_call_59 : decode cX10_call 59 = .ok (.iconst 2, 1) := by decide +kernel
theorem dX10_call_60 : decode cX10_call 60 = .ok (.newarray .int, 2) := by decide +kernel
theorem dX10_call_62 : decode cX10_call 62 = .ok (.dup, 1) := by decide +kernel
theorem dX10_call_63 : decode cX10_call 63 = .ok (.iconst 0, 1) := by decide +kernel
theorem dX10_call_64 : decode cX10_call 64 = .ok (.iconst (-1), 1) := by decide +kernel
theorem dX10_call_65 : decode cX10_call 65 = .ok (.iastore, 1) := by decide +kernel
theorem dX10_call_66 : decode cX10_call 66 = .ok (.dup, 1) := by decide +kernel
theorem dX10_call_67 : decode cX10_call 67 = .ok (.iconst 1, 1) := by decide +kernel
theorem dX10_call_68 : decode cX10_call 68 = .ok (.iload 7, 2) := by decide +kernel
theorem dX10_call_70 : decode cX10_call 70 = .ok (.iastore, 1) := by decide +kernel
theorem dX10_call_71 : decode cX10_call 71 = .ok (.areturn, 1) := by decide +kernel
theorem dX10_call_72 : decode cX10_call 72 = .ok (.iinc 7 1, 3) := by decide +kernel
theorem dX10_call_75 : decode cX10_call 75 = .ok (.aload_n 0, 1) := by decide +kernel
theorem dX10_call_76 : decode cX10_call 76 = .ok (.getfield 15, 3) := by decide +kernel
theorem dX10_call_79 : decode cX10_call 79 = .ok (.iload 8, 2) := by decide +kernel
theorem dX10_call_81 : decode cX10_call 81 = .ok (.aaload, 1) := by decide +kernel
theorem dX10_call_82 : decode cX10_call 82 = .ok (.getfield 72, 3) := by decide +kernel
theorem dX10_call_85 : decode cX10_call 85 = .ok (.iload 6, 2) := by decide +kernel
theorem dX10_call_87 : decode cX10_call 87 = .ok (.iaload, 1) := by decide +kernel
theorem dX10_call_88 : decode cX10_call 88 = .ok (.istore 9, 2) := by decide +kernel
theorem dX10_call_90 : decode cX10_call 90 = .ok (.iload 9, 2) := by decide +kernel
theorem dX10_call_92 : decode cX10_call 92 = .ok (.ifCond .lt 17, 3) := by decide +kernel
theorem dX10_call_95 : decode cX10_call 95 = .ok (.iconst 2, 1) := by decide +kernel
theorem dX10_call_96 : decode cX10_call 96 = .ok (.newarray .int, 2) := by decide +kernel
theorem dX10_call_98 : decode cX10_call 98 = .ok (.dup, 1) := by decide +kernel
theorem dX10_call_99 : decode cX10_call 99 = .ok (.iconst 0, 1) := by decide +kernel
theorem dX10_call_100 : decode cX10_call 100 = .ok (.iload 9, 2) := by decide +kernel
theorem dX10_call_102 : decode cX10_call 102 = .ok (.iastore, 1) := by decide +kernel
theorem dX10_call_103 : decode cX10_call 103 = .ok (.dup, 1) := by decide +kernel
theorem dX10_call_104 : decode cX10_call 104 = .ok (.iconst 1, 1) := by decide +kernel
theorem dX10_call_105 : decode cX10_call 105 = .ok (.iload 7, 2) := by decide +kernel
theorem dX10_call_107 : decode cX10_call 107 = .ok (.iastore, 1) := by decide +kernel
theorem dX10_call_108 : decode cX10_call 108 = .ok (.areturn, 1) := by decide +kernel
theorem dX10_call_109 : decode cX10_call 109 = .ok (.iload 8, 2) := by decide +kernel
theorem dX10_call_111 : decode cX10_call 111 = .ok (.istore 5, 2) := by decide +kernel
theorem dX10_call_113 : decode cX10_call 113 = .ok (.bipush (-2), 2) := by decide +kernel
theorem dX10_call_115 : decode cX10_call 115 = .ok (.iload 9, 2) := by decide +kernel
theorem dX10_call_117 : decode cX10_call 117 = .ok (.isub, 1) := by decide +kernel
theorem dX10_call_118 : decode cX10_call 118 = .ok (.istore 6, 2) := by decide +kernel
theorem dX10_call_120 : decode cX10_call 120 = .ok (.goto (-106), 3) := by decide +kernel
theorem dX10_call_123 : decode cX10_call 123 = .ok (.iconst 2, 1) := by decide +kernel
theorem dX10_call_124 : decode cX10_call 124 = .ok (.newarray .int, 2) := by decide +kernel
theorem dX10_call_126 : decode cX10_call 126 = .ok (.dup, 1) := by decide +kernel
theorem dX10_call_127 : decode cX10_call 127 = .ok (.iconst 0, 1) := by decide +kernel
theorem dX10_call_128 : decode cX10_call 128 = .ok (.bipush (-2), 2) := by decide +kernel
theorem dX10_call_130 : decode cX10_call 130 = .ok (.iastore, 1) := by decide +kernel
theorem dX10_call_131 : decode cX10_call 131 = .ok (.dup, 1) := by decide +kernel
theorem dX10_call_132 : decode cX10_call 132 = .ok (.iconst 1, 1) := by decide +kernel
theorem dX10_call_133 : decode cX10_call 133 = .ok (.iload 7, 2) := by decide +kernel
theorem dX10_call_135 : decode cX10_call 135 = .ok (.iastore, 1) := by decide +kernel
theorem dX10_call_136 : decode cX10_call 136 = .ok (.areturn, 1) := by decide +kernel
theorem dX10_changed_0 : decode cX10_changed 0 = .ok (.iconst 0, 1) := by decide +kernel
theorem dX10_changed_1 : decode cX10_changed 1 = .ok (.istore_n 3, 1) := by decide +kernel
theorem dX10_changed_2 : decode cX10_changed 2 = .ok (.aload_n 0, 1) := by decide +kernel
theorem dX10_changed_3 : decode cX10_changed 3 = .ok (.getfield 19, 3) := by decide +kernel
theorem dX10_changed_6 : decode cX10_changed 6 = .ok (.astore 4, 2) := by decide +kernel
theorem dX10_changed_8 : decode cX10_changed 8 = .ok (.aload 4, 2) := by decide +kernel
theorem dX10_changed_10 : decode cX10_changed 10 = .ok (.arraylength, 1) := by decide +kernel
theorem dX10_changed_11 : decode cX10_changed 11 = .ok (.istore 5, 2) := by decide +kernel
theorem dX10_changed_13 : decode cX10_changed 13 = .ok (.iconst 0, 1) := by decide +kernel
theorem dX10_changed_14 : decode cX10_changed 14 = .ok (.istore 6, 2) := by decide +kernel
theorem dX10_changed_16 : decode cX10_changed 16 = .ok (.iload 6, 2) := by decide +kernel
theorem dX10_changed_18 : decode cX10_changed 18 = .ok (.iload 5, 2) := by decide +kernel
theorem dX10_changed_20 : decode cX10_changed 20 = .ok (.if_icmp .ge 61, 3) := by decide +kernel
theorem dX10_changed_23 : decode cX10_changed 23 = .ok (.aload 4, 2) := by decide +kernel
theorem dX10_changed_25 : decode cX10_changed 25 = .ok (.iload 6, 2) := by decide +kernel
theorem dX10_changed_27 : decode cX10_changed 27 = .ok (.iaload, 1) := by decide +kernel
theorem dX10_changed_28 : decode cX10_changed 28 = .ok (.istore 7, 2) := by decide +kernel
theorem dX10_changed_30 : decode cX10_changed 30 = .ok (.iconst 0, 1) := by decide +kernel
theorem dX10_changed_31 : decode cX10_changed 31 = .ok (.istore 8, 2) := by decide +kernel
theorem dX10_changed_33 : decode cX10_changed 33 = .ok (.iload 8, 2) := by decide +kernel
theorem dX10_changed_35 : decode cX10_changed 35 = .ok (.aload_n 0, 1) := by decide +kernel
theorem dX10_changed_36 : decode cX10_changed 36 = .ok (.getfield 24, 3) := by decide +kernel
theorem dX10_changed_39 : decode cX10_changed 39 = .ok (.if_icmp .ge 36, 3) := by decide +kernel
theorem dX10_changed_42 : decode cX10_changed 42 = .ok (.iload 7, 2) := by decide +kernel
theorem dX10_changed_44 : decode cX10_changed 44 = .ok (.iload_n 2, 1) := by decide +kernel
theorem dX10_changed_45 : decode cX10_changed 45 = .ok (.if_icmp .eq 30, 3) := by decide +kernel
theorem dX10_changed_48 : decode cX10_changed 48 = .ok (.aload_n 0, 1) := by decide +kernel
theorem dX10_changed_49 : decode cX10_changed 49 = .ok (.iload 7, 2) := by decide +kernel
theorem dX10_changed_51 : decode cX10_changed 51 = .ok (.iload 8, 2) := by decide +kernel
theorem dX10_changed_53 : decode cX10_changed 53 = .ok (.invokevirtual 100, 3) := by decide +kernel
theorem dX10_changed_56 : decode cX10_changed 56 = .ok (.aload_n 1, 1) := by decide +kernel
theorem dX10_changed_57 : decode cX10_changed 57 = .ok (.iload 7, 2) := by decide +kernel
theorem dX10_changed_59 : decode cX10_changed 59 = .ok (.aaload, 1) := by decide +kernel
theorem dX10_changed_60 : decode cX10_changed 60 = .ok (.iload 8, 2) := by decide +kernel
theorem dX10_changed_62 : decode cX10_changed 62 = .ok (.iaload, 1) := by decide +kernel
theorem dX10_changed_63 : decode cX10_changed 63 = .ok (.if_icmp .eq 6, 3) := by decide +kernel
theorem dX10_changed_66 : decode cX10_changed 66 = .ok (.iinc 3 1, 3) := by decide +kernel
theorem dX10_changed_69 : decode cX10_changed 69 = .ok (.iinc 8 1, 3) := by decide +kernel
theorem dX10_changed_72 : decode cX10_changed 72 = .ok (.goto (-39), 3) := by decide +kernel
theorem dX10_changed_75 : decode cX10_changed 75 = .ok (.iinc 6 1, 3) := by decide +kernel
theorem dX10_changed_78 : decode cX10_changed 78 = .ok (.goto (-62), 3) := by decide +kernel
theorem dX10_changed_81 : decode cX10_changed 81 = .ok (.iload_n 3, 1) := by decide +kernel
theorem dX10_changed_82 : decode cX10_changed 82 = .ok (.ireturn, 1) := by decide +kernel
theorem dX10_told_0 : decode cX10_told 0 = .ok (.aload_n 0, 1) := by decide +kernel
theorem dX10_told_1 : decode cX10_told 1 = .ok (.getfield 15, 3) := by decide +kernel
theorem dX10_told_4 : decode cX10_told 4 = .ok (.iload_n 1, 1) := by decide +kernel
theorem dX10_told_5 : decode cX10_told 5 = .ok (.aaload, 1) := by decide +kernel
theorem dX10_told_6 : decode cX10_told 6 = .ok (.astore_n 3, 1) := by decide +kernel
theorem dX10_told_7 : decode cX10_told 7 = .ok (.iload_n 2, 1) := by decide +kernel
theorem dX10_told_8 : decode cX10_told 8 = .ok (.ifCond .ne 10, 3) := by decide +kernel
theorem dX10_told_11 : decode cX10_told 11 = .ok (.aload_n 3, 1) := by decide +kernel
theorem dX10_told_12 : decode cX10_told 12 = .ok (.getfield 48, 3) := by decide +kernel
theorem dX10_told_15 : decode cX10_told 15 = .ok (.goto 66, 3) := by decide +kernel
theorem dX10_told_18 : decode cX10_told 18 = .ok (.iload_n 2, 1) := by decide +kernel
theorem dX10_told_19 : decode cX10_told 19 = .ok (.iconst 1, 1) := by decide +kernel
theorem dX10_told_20 : decode cX10_told 20 = .ok (.if_icmp .ne 18, 3) := by decide +kernel
theorem dX10_told_23 : decode cX10_told 23 = .ok (.aload_n 3, 1) := by decide +kernel
theorem dX10_told_24 : decode cX10_told 24 = .ok (.getfield 94, 3) := by decide +kernel
theorem dX10_told_27 : decode cX10_told 27 = .ok (.ifCond .eq 7, 3) := by decide +kernel
theorem dX10_told_30 : decode cX10_told 30 = .ok (.iconst 1, 1) := by decide +kernel
theorem dX10_told_31 : decode cX10_told 31 = .ok (.goto 50, 3) := by decide +kernel
theorem dX10_told_34 : decode cX10_told 34 = .ok (.iconst 0, 1) := by decide +kernel
theorem dX10_told_35 : decode cX10_told 35 = .ok (.goto 46, 3) := by decide +kernel
theorem dX10_told_38 : decode cX10_told 38 = .ok (.iload_n 2, 1) := by decide +kernel
theorem dX10_told_39 : decode cX10_told 39 = .ok (.iconst 2, 1) := by decide +kernel
theorem dX10_told_40 : decode cX10_told 40 = .ok (.if_icmp .ne 11, 3) := by decide +kernel
theorem dX10_told_43 : decode cX10_told 43 = .ok (.aload_n 0, 1) := by decide +kernel
theorem dX10_told_44 : decode cX10_told 44 = .ok (.iload_n 1, 1) := by decide +kernel
theorem dX10_told_45 : decode cX10_told 45 = .ok (.invokevirtual 35, 3) := by decide +kernel
theorem dX10_told_48 : decode cX10_told 48 = .ok (.goto 33, 3) := by decide +kernel
theorem dX10_told_51 : decode cX10_told 51 = .ok (.iload_n 2, 1) := by decide +kernel
theorem dX10_told_52 : decode cX10_told 52 = .ok (.iconst 3, 1) := by decide +kernel
theorem dX10_told_53 : decode cX10_told 53 = .ok (.if_icmp .ne 10, 3) := by decide +kernel
theorem dX10_told_56 : decode cX10_told 56 = .ok (.aload_n 3, 1) := by decide +kernel
theorem dX10_told_57 : decode cX10_told 57 = .ok (.invokevirtual 51, 3) := by decide +kernel
theorem dX10_told_60 : decode cX10_told 60 = .ok (.goto 21, 3) := by decide +kernel
theorem dX10_told_63 : decode cX10_told 63 = .ok (.iload_n 2, 1) := by decide +kernel
theorem dX10_told_64 : decode cX10_told 64 = .ok (.iconst 4, 1) := by decide +kernel
theorem dX10_told_65 : decode cX10_told 65 = .ok (.if_icmp .ne 11, 3) := by decide +kernel
theorem dX10_told_68 : decode cX10_told 68 = .ok (.aload_n 3, 1) := by decide +kernel
theorem dX10_told_69 : decode cX10_told 69 = .ok (.getfield 39, 3) := by decide +kernel
theorem dX10_told_72 : decode cX10_told 72 = .ok (.arraylength, 1) := by decide +kernel
theorem dX10_told_73 : decode cX10_told 73 = .ok (.goto 8, 3) := by decide +kernel
theorem dX10_told_76 : decode cX10_told 76 = .ok (.aload_n 0, 1) := by decide +kernel
theorem dX10_told_77 : decode cX10_told 77 = .ok (.iload_n 1, 1) := by decide +kernel
theorem dX10_told_78 : decode cX10_told 78 = .ok (.invokevirtual 83, 3) := by decide +kernel
theorem dX10_told_81 : decode cX10_told 81 = .ok (.ireturn, 1) := by decide +kernel
theorem dX10_sum_0 : decode cX10_sum 0 = .ok (.aload_n 0, 1) := by decide +kernel
theorem dX10_sum_1 : decode cX10_sum 1 = .ok (.invokevirtual 107, 3) := by decide +kernel
theorem dX10_sum_4 : decode cX10_sum 4 = .ok (.astore_n 1, 1) := by decide +kernel
theorem dX10_sum_5 : decode cX10_sum 5 = .ok (.aload_n 0, 1) := by decide +kernel
theorem dX10_sum_6 : decode cX10_sum 6 = .ok (.getfield 7, 3) := by decide +kernel
theorem dX10_sum_9 : decode cX10_sum 9 = .ok (.i2l, 1) := by decide +kernel
theorem dX10_sum_10 : decode cX10_sum 10 = .ok (.lstore_n 2, 1) := by decide +kernel
theorem dX10_sum_11 : decode cX10_sum 11 = .ok (.iconst 0, 1) := by decide +kernel
theorem dX10_sum_12 : decode cX10_sum 12 = .ok (.istore 4, 2) := by decide +kernel
theorem dX10_sum_14 : decode cX10_sum 14 = .ok (.iload 4, 2) := by decide +kernel
theorem dX10_sum_16 : decode cX10_sum 16 = .ok (.aload_n 0, 1) := by decide +kernel
theorem dX10_sum_17 : decode cX10_sum 17 = .ok (.getfield 15, 3) := by decide +kernel
theorem dX10_sum_20 : decode cX10_sum 20 = .ok (.arraylength, 1) := by decide +kernel
theorem dX10_sum_21 : decode cX10_sum 21 = .ok (.if_icmp .ge 110, 3) := by decide +kernel
theorem dX10_sum_24 : decode cX10_sum 24 = .ok (.iconst 0, 1) := by decide +kernel
theorem dX10_sum_25 : decode cX10_sum 25 = .ok (.istore 5, 2) := by decide +kernel
theorem dX10_sum_27 : decode cX10_sum 27 = .ok (.iload 5, 2) := by decide +kernel
theorem dX10_sum_29 : decode cX10_sum 29 = .ok (.bipush 6, 2) := by decide +kernel
theorem dX10_sum_31 : decode cX10_sum 31 = .ok (.if_icmp .ge 25, 3) := by decide +kernel
theorem dX10_sum_34 : decode cX10_sum 34 = .ok (.ldc2_w 111, 3) := by decide +kernel
theorem dX10_sum_37 : decode cX10_sum 37 = .ok (.lload_n 2, 1) := by decide +kernel
theorem dX10_sum_38 : decode cX10_sum 38 = .ok (.lmul, 1) := by decide +kernel
theorem dX10_sum_39 : decode cX10_sum 39 = .ok (.aload_n 0, 1) := by decide +kernel
theorem dX10_sum_40 : decode cX10_sum 40 = .ok (.iload 4, 2) := by decide +kernel
theorem dX10_sum_42 : decode cX10_sum 42 = .ok (.iload 5, 2) := by decide +kernel
theorem dX10_sum_44 : decode cX10_sum 44 = .ok (.invokevirtual 113, 3) := by decide +kernel
theorem dX10_sum_47 : decode cX10_sum 47 = .ok (.i2l, 1) := by decide +kernel
theorem dX10_sum_48 : decode cX10_sum 48 = .ok (.ladd, 1) := by decide +kernel
theorem dX10_sum_49 : decode cX10_sum 49 = .ok (.lstore_n 2, 1) := by decide +kernel
theorem dX10_sum_50 : decode cX10_sum 50 = .ok (.iinc 5 1, 3) := by decide +kernel
theorem dX10_sum_53 : decode cX10_sum 53 = .ok (.goto (-26), 3) := by decide +kernel
theorem dX10_sum_56 : decode cX10_sum 56 = .ok (.iconst 0, 1) := by decide +kernel
theorem dX10_sum_57 : decode cX10_sum 57 = .ok (.istore 5, 2) := by decide +kernel
theorem dX10_sum_59 : decode cX10_sum 59 = .ok (.iload 5, 2) := by decide +kernel
theorem dX10_sum_61 : decode cX10_sum 61 = .ok (.aload_n 0, 1) := by decide +kernel
theorem dX10_sum_62 : decode cX10_sum 62 = .ok (.getfield 24, 3) := by decide +kernel
theorem dX10_sum_65 : decode cX10_sum 65 = .ok (.if_icmp .ge 60, 3) := by decide +kernel
theorem dX10_sum_68 : decode cX10_sum 68 = .ok (.ldc2_w 111, 3) := by decide +kernel
theorem dX10_sum_71 : decode cX10_sum 71 = .ok (.ldc2_w 111, 3) := by decide +kernel
theorem dX10_sum_74 : decode cX10_sum 74 = .ok (.ldc2_w 111, 3) := by decide +kernel
theorem dX10_sum_77 : decode cX10_sum 77 = .ok (.lload_n 2, 1) := by decide +kernel
theorem dX10_sum_78 : decode cX10_sum 78 = .ok (.lmul, 1) := by decide +kernel
theorem dX10_sum_79 : decode cX10_sum 79 = .ok (.aload_n 0, 1) := by decide +kernel
theorem dX10_sum_80 : decode cX10_sum 80 = .ok (.getfield 15, 3) := by decide +kernel
theorem dX10_sum_83 : decode cX10_sum 83 = .ok (.iload 4, 2) := by decide +kernel
theorem dX10_sum_85 : decode cX10_sum 85 = .ok (.aaload, 1) := by decide +kernel
theorem dX10_sum_86 : decode cX10_sum 86 = .ok (.getfield 72, 3) := by decide +kernel
theorem dX10_sum_89 : decode cX10_sum 89 = .ok (.iload 5, 2) := by decide +kernel
theorem dX10_sum_91 : decode cX10_sum 91 = .ok (.iaload, 1) := by decide +kernel
theorem dX10_sum_92 : decode cX10_sum 92 = .ok (.i2l, 1) := by decide +kernel
theorem dX10_sum_93 : decode cX10_sum 93 = .ok (.ladd, 1) := by decide +kernel
theorem dX10_sum_94 : decode cX10_sum 94 = .ok (.lmul, 1) := by decide +kernel
theorem dX10_sum_95 : decode cX10_sum 95 = .ok (.aload_n 1, 1) := by decide +kernel
theorem dX10_sum_96 : decode cX10_sum 96 = .ok (.iload 4, 2) := by decide +kernel
theorem dX10_sum_98 : decode cX10_sum 98 = .ok (.aaload, 1) := by decide +kernel
theorem dX10_sum_99 : decode cX10_sum 99 = .ok (.iload 5, 2) := by decide +kernel
theorem dX10_sum_101 : decode cX10_sum 101 = .ok (.iaload, 1) := by decide +kernel
theorem dX10_sum_102 : decode cX10_sum 102 = .ok (.i2l, 1) := by decide +kernel
theorem dX10_sum_103 : decode cX10_sum 103 = .ok (.ladd, 1) := by decide +kernel
theorem dX10_sum_104 : decode cX10_sum 104 = .ok (.lmul, 1) := by decide +kernel
theorem dX10_sum_105 : decode cX10_sum 105 = .ok (.aload_n 0, 1) := by decide +kernel
theorem dX10_sum_106 : decode cX10_sum 106 = .ok (.aload_n 1, 1) := by decide +kernel
theorem dX10_sum_107 : decode cX10_sum 107 = .ok (.iload 4, 2) := by decide +kernel
theorem dX10_sum_109 : decode cX10_sum 109 = .ok (.iload 5, 2) := by decide +kernel
theorem dX10_sum_111 : decode cX10_sum 111 = .ok (.invokevirtual 116, 3) := by decide +kernel
theorem dX10_sum_114 : decode cX10_sum 114 = .ok (.iconst 0, 1) := by decide +kernel
theorem dX10_sum_115 : decode cX10_sum 115 = .ok (.iaload, 1) := by decide +kernel
theorem dX10_sum_116 : decode cX10_sum 116 = .ok (.i2l, 1) := by decide +kernel
theorem dX10_sum_117 : decode cX10_sum 117 = .ok (.ladd, 1) := by decide +kernel
theorem dX10_sum_118 : decode cX10_sum 118 = .ok (.lstore_n 2, 1) := by decide +kernel
theorem dX10_sum_119 : decode cX10_sum 119 = .ok (.iinc 5 1, 3) := by decide +kernel
theorem dX10_sum_122 : decode cX10_sum 122 = .ok (.goto (-63), 3) := by decide +kernel
theorem dX10_sum_125 : decode cX10_sum 125 = .ok (.iinc 4 1, 3) := by decide +kernel
theorem dX10_sum_128 : decode cX10_sum 128 = .ok (.goto (-114), 3) := by decide +kernel
theorem dX10_sum_131 : decode cX10_sum 131 = .ok (.lload_n 2, 1) := by decide +kernel
theorem dX10_sum_132 : decode cX10_sum 132 = .ok (.lreturn, 1) := by decide +kernel
