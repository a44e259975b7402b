theorem dX1_init_0 : decode cX1_init 0 = .ok (.aload_n 0, 1) := by decide +kernel
theorem dX1_init_1 : decode cX1_init 1 = .ok (.invokespecial 3, 3) := by decide +kernel
theorem dX1_init_4 : decode cX1_init 4 = .ok (.aload_n 0, 1) := by decide +kernel
theorem dX1_init_5 : decode cX1_init 5 = .ok (.bipush 8, 2) := by decide +kernel
theorem dX1_init_7 : decode cX1_init 7 = .ok (.newarray .int, 2) := by decide +kernel
theorem dX1_init_9 : decode cX1_init 9 = .ok (.putfield 9, 3) := by decide +kernel
theorem dX1_init_12 : decode cX1_init 12 = .ok (.aload_n 0, 1) := by decide +kernel
theorem dX1_init_13 : decode cX1_init 13 = .ok (.bipush 12, 2) := by decide +kernel
theorem dX1_init_15 : decode cX1_init 15 = .ok (.newarray .int, 2) := by decide +kernel
theorem dX1_init_17 : decode cX1_init 17 = .ok (.putfield 15, 3) := by decide +kernel
theorem dX1_init_20 : decode cX1_init 20 = .ok (.aload_n 0, 1) := by decide +kernel
theorem dX1_init_21 : decode cX1_init 21 = .ok (.bipush 12, 2) := by decide +kernel
theorem dX1_init_23 : decode cX1_init 23 = .ok (.newarray .int, 2) := by decide +kernel
theorem dX1_init_25 : decode cX1_init 25 = .ok (.putfield 18, 3) := by decide +kernel
theorem dX1_init_28 : decode cX1_init 28 = .ok (.aload_n 0, 1) := by decide +kernel
theorem dX1_init_29 : decode cX1_init 29 = .ok (.bipush 12, 2) := by decide +kernel
theorem dX1_init_31 : decode cX1_init 31 = .ok (.newarray .int, 2) := by decide +kernel
theorem dX1_init_33 : decode cX1_init 33 = .ok (.putfield 21, 3) := by decide +kernel
theorem dX1_init_36 : decode cX1_init 36 = .ok (.aload_n 0, 1) := by decide +kernel
theorem dX1_init_37 : decode cX1_init 37 = .ok (.bipush 96, 2) := by decide +kernel
theorem dX1_init_39 : decode cX1_init 39 = .ok (.newarray .int, 2) := by decide +kernel
theorem dX1_init_41 : decode cX1_init 41 = .ok (.putfield 24, 3) := by decide +kernel
theorem dX1_init_44 : decode cX1_init 44 = .ok (.aload_n 0, 1) := by decide +kernel
theorem dX1_init_45 : decode cX1_init 45 = .ok (.bipush 96, 2) := by decide +kernel
theorem dX1_init_47 : decode cX1_init 47 = .ok (.newarray .int, 2) := by decide +kernel
theorem dX1_init_49 : decode cX1_init 49 = .ok (.putfield 27, 3) := by decide +kernel
theorem dX1_init_52 : decode cX1_init 52 = .ok (.aload_n 0, 1) := by decide +kernel
theorem dX1_init_53 : decode cX1_init 53 = .ok (.bipush 96, 2) := by decide +kernel
theorem dX1_init_55 : decode cX1_init 55 = .ok (.newarray .int, 2) := by decide +kernel
theorem dX1_init_57 : decode cX1_init 57 = .ok (.putfield 30, 3) := by decide +kernel
theorem dX1_init_60 : decode cX1_init 60 = .ok (.return_, 1) := by decide +kernel
theorem dX1_count_0 : decode cX1_count 0 = .ok (.iconst 0, 1) := by decide +kernel
theorem dX1_count_1 : decode cX1_count 1 = .ok (.istore_n 2, 1) := by decide +kernel
theorem dX1_count_2 : decode cX1_count 2 = .ok (.iload_n 2, 1) := by decide +kernel
theorem dX1_count_3 : decode cX1_count 3 = .ok (.aload_n 1, 1) := by decide +kernel
theorem dX1_count_4 : decode cX1_count 4 = .ok (.getfield 33, 3) := by decide +kernel
theorem dX1_count_7 : decode cX1_count 7 = .ok (.if_icmp .ge 36, 3) := by decide +kernel
theorem dX1_count_10 : decode cX1_count 10 = .ok (.aload_n 0, 1) := by decide +kernel
theorem dX1_count_11 : decode cX1_count 11 = .ok (.getfield 9, 3) := by decide +kernel
theorem dX1_count_14 : decode cX1_count 14 = .ok (.iload_n 2, 1) := by decide +kernel
theorem dX1_count_15 : decode cX1_count 15 = .ok (.aload_n 1, 1) := by decide +kernel
theorem dX1_count_16 : decode cX1_count 16 = .ok (.getfield 39, 3) := by decide +kernel
theorem dX1_count_19 : decode cX1_count 19 = .ok (.iload_n 2, 1) := by decide +kernel
theorem dX1_count_20 : decode cX1_count 20 = .ok (.aaload, 1) := by decide +kernel
theorem dX1_count_21 : decode cX1_count 21 = .ok (.invokevirtual 43, 3) := by decide +kernel
theorem dX1_count_24 : decode cX1_count 24 = .ok (.ifCond .eq 11, 3) := by decide +kernel
theorem dX1_count_27 : decode cX1_count 27 = .ok (.aload_n 1, 1) := by decide +kernel
theorem dX1_count_28 : decode cX1_count 28 = .ok (.iload_n 2, 1) := by decide +kernel
theorem dX1_count_29 : decode cX1_count 29 = .ok (.invokevirtual 49, 3) := by decide +kernel
theorem dX1_count_32 : decode cX1_count 32 = .ok (.goto 4, 3) := by decide +kernel
theorem dX1_count_35 : decode cX1_count 35 = .ok (.iconst (-1), 1) := by decide +kernel
theorem dX1_count_36 : decode cX1_count 36 = .ok (.iastore, 1) := by decide +kernel
theorem dX1_count_37 : decode cX1_count 37 = .ok (.iinc 2 1, 3) := by decide +kernel
theorem dX1_count_40 : decode cX1_count 40 = .ok (.goto (-38), 3) := by decide +kernel
theorem dX1_count_43 : decode cX1_count 43 = .ok (.iconst 0, 1) := by decide +kernel
theorem dX1_count_44 : decode cX1_count 44 = .ok (.istore_n 2, 1) := by decide +kernel
theorem dX1_count_45 : decode cX1_count 45 = .ok (.iload_n 2, 1) := by decide +kernel
theorem dX1_count_46 : decode cX1_count 46 = .ok (.aload_n 1, 1) := by decide +kernel
theorem dX1_count_47 : decode cX1_count 47 = .ok (.getfield 53, 3) := by decide +kernel
theorem dX1_count_50 : decode cX1_count 50 = .ok (.if_icmp .ge 39, 3) := by decide +kernel
theorem dX1_count_53 : decode cX1_count 53 = .ok (.aload_n 0, 1) := by decide +kernel
theorem dX1_count_54 : decode cX1_count 54 = .ok (.aload_n 1, 1) := by decide +kernel
theorem dX1_count_55 : decode cX1_count 55 = .ok (.iload_n 2, 1) := by decide +kernel
theorem dX1_count_56 : decode cX1_count 56 = .ok (.invokevirtual 56, 3) := by decide +kernel
theorem dX1_count_59 : decode cX1_count 59 = .ok (.aload_n 0, 1) := by decide +kernel
theorem dX1_count_60 : decode cX1_count 60 = .ok (.aload_n 1, 1) := by decide +kernel
theorem dX1_count_61 : decode cX1_count 61 = .ok (.iload_n 2, 1) := by decide +kernel
theorem dX1_count_62 : decode cX1_count 62 = .ok (.invokevirtual 60, 3) := by decide +kernel
theorem dX1_count_65 : decode cX1_count 65 = .ok (.aload_n 0, 1) := by decide +kernel
theorem dX1_count_66 : decode cX1_count 66 = .ok (.aload_n 1, 1) := by decide +kernel
theorem dX1_count_67 : decode cX1_count 67 = .ok (.iload_n 2, 1) := by decide +kernel
theorem dX1_count_68 : decode cX1_count 68 = .ok (.invokevirtual 63, 3) := by decide +kernel
theorem dX1_count_71 : decode cX1_count 71 = .ok (.aload_n 0, 1) := by decide +kernel
theorem dX1_count_72 : decode cX1_count 72 = .ok (.aload_n 1, 1) := by decide +kernel
theorem dX1_count_73 : decode cX1_count 73 = .ok (.iload_n 2, 1) := by decide +kernel
theorem dX1_count_74 : decode cX1_count 74 = .ok (.invokevirtual 66, 3) := by decide +kernel
theorem dX1_count_77 : decode cX1_count 77 = .ok (.aload_n 0, 1) := by decide +kernel
theorem dX1_count_78 : decode cX1_count 78 = .ok (.aload_n 1, 1) := by decide +kernel
theorem dX1_count_79 : decode cX1_count 79 = .ok (.iload_n 2, 1) := by decide +kernel
theorem dX1_count_80 : decode cX1_count 80 = .ok (.invokevirtual 69, 3) := by decide +kernel
theorem dX1_count_83 : decode cX1_count 83 = .ok (.iinc 2 1, 3) := by decide +kernel
theorem dX1_count_86 : decode cX1_count 86 = .ok (.goto (-41), 3) := by decide +kernel
theorem dX1_count_89 : decode cX1_count 89 = .ok (.return_, 1) := by decide +kernel
theorem dX1_countCandidates_0 : decode cX1_countCandidates 0 = .ok (.aload_n 0, 1) := by decide +kernel
theorem dX1_countCandidates_1 : decode cX1_countCandidates 1 = .ok (.getfield 15, 3) := by decide +kernel
theorem dX1_countCandidates_4 : decode cX1_countCandidates 4 = .ok (.iload_n 2, 1) := by decide +kernel
theorem dX1_countCandidates_5 : decode cX1_countCandidates 5 = .ok (.iconst 0, 1) := by decide +kernel
theorem dX1_countCandidates_6 : decode cX1_countCandidates 6 = .ok (.iastore, 1) := by decide +kernel
theorem dX1_countCandidates_7 : decode cX1_countCandidates 7 = .ok (.iconst 0, 1) := by decide +kernel
theorem dX1_countCandidates_8 : decode cX1_countCandidates 8 = .ok (.istore_n 3, 1) := by decide +kernel
theorem dX1_countCandidates_9 : decode cX1_countCandidates 9 = .ok (.iload_n 3, 1) := by decide +kernel
theorem dX1_countCandidates_10 : decode cX1_countCandidates 10 = .ok (.aload_n 1, 1) := by decide +kernel
theorem dX1_countCandidates_11 : decode cX1_countCandidates 11 = .ok (.getfield 33, 3) := by decide +kernel
theorem dX1_countCandidates_14 : decode cX1_countCandidates 14 = .ok (.if_icmp .ge 52, 3) := by decide +kernel
theorem dX1_countCandidates_17 : decode cX1_countCandidates 17 = .ok (.aload_n 1, 1) := by decide +kernel
theorem dX1_countCandidates_18 : decode cX1_countCandidates 18 = .ok (.iload_n 3, 1) := by decide +kernel
theorem dX1_countCandidates_19 : decode cX1_countCandidates 19 = .ok (.iload_n 2, 1) := by decide +kernel
theorem dX1_countCandidates_20 : decode cX1_countCandidates 20 = .ok (.invokevirtual 72, 3) := by decide +kernel
theorem dX1_countCandidates_23 : decode cX1_countCandidates 23 = .ok (.istore 4, 2) := by decide +kernel
theorem dX1_countCandidates_25 : decode cX1_countCandidates 25 = .ok (.aload_n 0, 1) := by decide +kernel
theorem dX1_countCandidates_26 : decode cX1_countCandidates 26 = .ok (.getfield 27, 3) := by decide +kernel
theorem dX1_countCandidates_29 : decode cX1_countCandidates 29 = .ok (.iload_n 3, 1) := by decide +kernel
theorem dX1_countCandidates_30 : decode cX1_countCandidates 30 = .ok (.iload_n 2, 1) := by decide +kernel
theorem dX1_countCandidates_31 : decode cX1_countCandidates 31 = .ok (.invokestatic 76, 3) := by decide +kernel
theorem dX1_countCandidates_34 : decode cX1_countCandidates 34 = .ok (.iload 4, 2) := by decide +kernel
theorem dX1_countCandidates_36 : decode cX1_countCandidates 36 = .ok (.ifCond .eq 7, 3) := by decide +kernel
theorem dX1_countCandidates_39 : decode cX1_countCandidates 39 = .ok (.iconst 0, 1) := by decide +kernel
theorem dX1_countCandidates_40 : decode cX1_countCandidates 40 = .ok (.goto 4, 3) := by decide +kernel
theorem dX1_countCandidates_43 : decode cX1_countCandidates 43 = .ok (.iconst (-1), 1) := by decide +kernel
theorem dX1_countCandidates_44 : decode cX1_countCandidates 44 = .ok (.iastore, 1) := by decide +kernel
theorem dX1_countCandidates_45 : decode cX1_countCandidates 45 = .ok (.iload 4, 2) := by decide +kernel
theorem dX1_countCandidates_47 : decode cX1_countCandidates 47 = .ok (.ifCond .eq 13, 3) := by decide +kernel
theorem dX1_countCandidates_50 : decode cX1_countCandidates 50 = .ok (.aload_n 0, 1) := by decide +kernel
theorem dX1_countCandidates_51 : decode cX1_countCandidates 51 = .ok (.getfield 15, 3) := by decide +kernel
theorem dX1_countCandidates_54 : decode cX1_countCandidates 54 = .ok (.iload_n 2, 1) := by decide +kernel
theorem dX1_countCandidates_55 : decode cX1_countCandidates 55 = .ok (.dup2, 1) := by decide +kernel
theorem dX1_countCandidates_56 : decode cX1_countCandidates 56 = .ok (.iaload, 1) := by decide +kernel
theorem dX1_countCandidates_57 : decode cX1_countCandidates 57 = .ok (.iconst 1, 1) := by decide +kernel
theorem dX1_countCandidates_58 : decode cX1_countCandidates 58 = .ok (.iadd, 1) := by decide +kernel
theorem dX1_countCandidates_59 : decode cX1_countCandidates 59 = .ok (.iastore, 1) := by decide +kernel
theorem dX1_countCandidates_60 : decode cX1_countCandidates 60 = .ok (.iinc 3 1, 3) := by decide +kernel
theorem dX1_countCandidates_63 : decode cX1_countCandidates 63 = .ok (.goto (-54), 3) := by decide +kernel
theorem dX1_countCandidates_66 : decode cX1_countCandidates 66 = .ok (.return_, 1) := by decide +kernel
theorem dX1_countVotes_0 : decode cX1_countVotes 0 = .ok (.iconst 0, 1) := by decide +kernel
theorem dX1_countVotes_1 : decode cX1_countVotes 1 = .ok (.istore_n 3, 1) := by decide +kernel
theorem dX1_countVotes_2 : decode cX1_countVotes 2 = .ok (.iload_n 3, 1) := by decide +kernel
theorem dX1_countVotes_3 : decode cX1_countVotes 3 = .ok (.aload_n 1, 1) := by decide +kernel
theorem dX1_countVotes_4 : decode cX1_countVotes 4 = .ok (.getfield 33, 3) := by decide +kernel
theorem dX1_countVotes_7 : decode cX1_countVotes 7 = .ok (.if_icmp .ge 55, 3) := by decide +kernel
theorem dX1_countVotes_10 : decode cX1_countVotes 10 = .ok (.aload_n 1, 1) := by decide +kernel
theorem dX1_countVotes_11 : decode cX1_countVotes 11 = .ok (.iload_n 3, 1) := by decide +kernel
theorem dX1_countVotes_12 : decode cX1_countVotes 12 = .ok (.iload_n 2, 1) := by decide +kernel
theorem dX1_countVotes_13 : decode cX1_countVotes 13 = .ok (.invokestatic 80, 3) := by decide +kernel
theorem dX1_countVotes_16 : decode cX1_countVotes 16 = .ok (.istore 4, 2) := by decide +kernel
theorem dX1_countVotes_18 : decode cX1_countVotes 18 = .ok (.aload_n 0, 1) := by decide +kernel
theorem dX1_countVotes_19 : decode cX1_countVotes 19 = .ok (.getfield 24, 3) := by decide +kernel
theorem dX1_countVotes_22 : decode cX1_countVotes 22 = .ok (.iload_n 3, 1) := by decide +kernel
theorem dX1_countVotes_23 : decode cX1_countVotes 23 = .ok (.iload_n 2, 1) := by decide +kernel
theorem dX1_countVotes_24 : decode cX1_countVotes 24 = .ok (.invokestatic 76, 3) := by decide +kernel
theorem dX1_countVotes_27 : decode cX1_countVotes 27 = .ok (.iload 4, 2) := by decide +kernel
theorem dX1_countVotes_29 : decode cX1_countVotes 29 = .ok (.iastore, 1) := by decide +kernel
theorem dX1_countVotes_30 : decode cX1_countVotes 30 = .ok (.iload 4, 2) := by decide +kernel
theorem dX1_countVotes_32 : decode cX1_countVotes 32 = .ok (.iconst (-1), 1) := by decide +kernel
theorem dX1_countVotes_33 : decode cX1_countVotes 33 = .ok (.if_icmp .eq 23, 3) := by decide +kernel
theorem dX1_countVotes_36 : decode cX1_countVotes 36 = .ok (.aload_n 0, 1) := by decide +kernel
theorem dX1_countVotes_37 : decode cX1_countVotes 37 = .ok (.getfield 27, 3) := by decide +kernel
theorem dX1_countVotes_40 : decode cX1_countVotes 40 = .ok (.iload 4, 2) := by decide +kernel
theorem dX1_countVotes_42 : decode cX1_countVotes 42 = .ok (.iload_n 2, 1) := by decide +kernel
theorem dX1_countVotes_43 : decode cX1_countVotes 43 = .ok (.invokestatic 76, 3) := by decide +kernel
theorem dX1_countVotes_46 : decode cX1_countVotes 46 = .ok (.dup2, 1) := by decide +kernel
theorem dX1_countVotes_47 : decode cX1_countVotes 47 = .ok (.iaload, 1) := by decide +kernel
theorem dX1_countVotes_48 : decode cX1_countVotes 48 = .ok (.aload_n 0, 1) := by decide +kernel
theorem dX1_countVotes_49 : decode cX1_countVotes 49 = .ok (.getfield 9, 3) := by decide +kernel
theorem dX1_countVotes_52 : decode cX1_countVotes 52 = .ok (.iload_n 3, 1) := by decide +kernel
theorem dX1_countVotes_53 : decode cX1_countVotes 53 = .ok (.iaload, 1) := by decide +kernel
theorem dX1_countVotes_54 : decode cX1_countVotes 54 = .ok (.iadd, 1) := by decide +kernel
theorem dX1_countVotes_55 : decode cX1_countVotes 55 = .ok (.iastore, 1) := by decide +kernel
theorem dX1_countVotes_56 : decode cX1_countVotes 56 = .ok (.iinc 3 1, 3) := by decide +kernel
theorem dX1_countVotes_59 : decode cX1_countVotes 59 = .ok (.goto (-57), 3) := by decide +kernel
theorem dX1_countVotes_62 : decode cX1_countVotes 62 = .ok (.return_, 1) := by decide +kernel
theorem dX1_choiceOf_0 : decode cX1_choiceOf 0 = .ok (.aload_n 0, 1) := by decide +kernel
theorem dX1_choiceOf_1 : decode cX1_choiceOf 1 = .ok (.getfield 39, 3) := by decide +kernel
theorem dX1_choiceOf_4 : decode cX1_choiceOf 4 = .ok (.iload_n 1, 1) := by decide +kernel
theorem dX1_choiceOf_5 : decode cX1_choiceOf 5 = .ok (.aaload, 1) := by decide +kernel
theorem dX1_choiceOf_6 : decode cX1_choiceOf 6 = .ok (.astore_n 3, 1) := by decide +kernel
theorem dX1_choiceOf_7 : decode cX1_choiceOf 7 = .ok (.aload_n 3, 1) := by decide +kernel
theorem dX1_choiceOf_8 : decode cX1_choiceOf 8 = .ok (.invokevirtual 43, 3) := by decide +kernel
theorem dX1_choiceOf_11 : decode cX1_choiceOf 11 = .ok (.ifCond .ne 5, 3) := by decide +kernel
theorem dX1_choiceOf_14 : decode cX1_choiceOf 14 = .ok (.iconst (-1), 1) := by decide +kernel
theorem dX1_choiceOf_15 : decode cX1_choiceOf 15 = .ok (.ireturn, 1) := by decide +kernel
theorem dX1_choiceOf_16 : decode cX1_choiceOf 16 = .ok (.aload_n 3, 1) := by decide +kernel
theorem dX1_choiceOf_17 : decode cX1_choiceOf 17 = .ok (.iload_n 2, 1) := by decide +kernel
theorem dX1_choiceOf_18 : decode cX1_choiceOf 18 = .ok (.invokevirtual 84, 3) := by decide +kernel
theorem dX1_choiceOf_21 : decode cX1_choiceOf 21 = .ok (.ifCond .eq 5, 3) := by decide +kernel
theorem dX1_choiceOf_24 : decode cX1_choiceOf 24 = .ok (.iload_n 1, 1) := by decide +kernel
theorem dX1_choiceOf_25 : decode cX1_choiceOf 25 = .ok (.ireturn, 1) := by decide +kernel
theorem dX1_choiceOf_26 : decode cX1_choiceOf 26 = .ok (.iconst 0, 1) := by decide +kernel
theorem dX1_choiceOf_27 : decode cX1_choiceOf 27 = .ok (.istore 4, 2) := by decide +kernel
theorem dX1_choiceOf_29 : decode cX1_choiceOf 29 = .ok (.iload 4, 2) := by decide +kernel
theorem dX1_choiceOf_31 : decode cX1_choiceOf 31 = .ok (.aload_n 3, 1) := by decide +kernel
theorem dX1_choiceOf_32 : decode cX1_choiceOf 32 = .ok (.getfield 88, 3) := by decide +kernel
theorem dX1_choiceOf_35 : decode cX1_choiceOf 35 = .ok (.if_icmp .ge 32, 3) := by decide +kernel
theorem dX1_choiceOf_38 : decode cX1_choiceOf 38 = .ok (.aload_n 0, 1) := by decide +kernel
theorem dX1_choiceOf_39 : decode cX1_choiceOf 39 = .ok (.aload_n 3, 1) := by decide +kernel
theorem dX1_choiceOf_40 : decode cX1_choiceOf 40 = .ok (.getfield 91, 3) := by decide +kernel
theorem dX1_choiceOf_43 : decode cX1_choiceOf 43 = .ok (.iload 4, 2) := by decide +kernel
theorem dX1_choiceOf_45 : decode cX1_choiceOf 45 = .ok (.iaload, 1) := by decide +kernel
theorem dX1_choiceOf_46 : decode cX1_choiceOf 46 = .ok (.iload_n 2, 1) := by decide +kernel
theorem dX1_choiceOf_47 : decode cX1_choiceOf 47 = .ok (.invokevirtual 72, 3) := by decide +kernel
theorem dX1_choiceOf_50 : decode cX1_choiceOf 50 = .ok (.ifCond .eq 11, 3) := by decide +kernel
theorem dX1_choiceOf_53 : decode cX1_choiceOf 53 = .ok (.aload_n 3, 1) := by decide +kernel
theorem dX1_choiceOf_54 : decode cX1_choiceOf 54 = .ok (.getfield 91, 3) := by decide +kernel
theorem dX1_choiceOf_57 : decode cX1_choiceOf 57 = .ok (.iload 4, 2) := by decide +kernel
theorem dX1_choiceOf_59 : decode cX1_choiceOf 59 = .ok (.iaload, 1) := by decide +kernel
theorem dX1_choiceOf_60 : decode cX1_choiceOf 60 = .ok (.ireturn, 1) := by decide +kernel
theorem dX1_choiceOf_61 : decode cX1_choiceOf 61 = .ok (.iinc 4 1, 3) := by decide +kernel
theorem dX1_choiceOf_64 : decode cX1_choiceOf 64 = .ok (.goto (-35), 3) := by decide +kernel
theorem dX1_choiceOf_67 : decode cX1_choiceOf 67 = .ok (.iconst (-1), 1) := by decide +kernel
theorem dX1_choiceOf_68 : decode cX1_choiceOf 68 = .ok (.ireturn, 1) := by decide +kernel
theorem dX1_countWinner_0 : decode cX1_countWinner 0 = .ok (.iconst (-1), 1) := by decide +kernel
theorem dX1_countWinner_1 : decode cX1_countWinner 1 = .ok (.istore_n 3, 1) := by decide +kernel
theorem dX1_countWinner_2 : decode cX1_countWinner 2 = .ok (.iconst 0, 1) := by decide +kernel
theorem dX1_countWinner_3 : decode cX1_countWinner 3 = .ok (.istore 4, 2) := by decide +kernel
theorem dX1_countWinner_5 : decode cX1_countWinner 5 = .ok (.iload 4, 2) := by decide +kernel
theorem dX1_countWinner_7 : decode cX1_countWinner 7 = .ok (.aload_n 1, 1) := by decide +kernel
theorem dX1_countWinner_8 : decode cX1_countWinner 8 = .ok (.getfield 33, 3) := by decide +kernel
theorem dX1_countWinner_11 : decode cX1_countWinner 11 = .ok (.if_icmp .ge 39, 3) := by decide +kernel
theorem dX1_countWinner_14 : decode cX1_countWinner 14 = .ok (.aload_n 1, 1) := by decide +kernel
theorem dX1_countWinner_15 : decode cX1_countWinner 15 = .ok (.iload 4, 2) := by decide +kernel
theorem dX1_countWinner_17 : decode cX1_countWinner 17 = .ok (.iload_n 2, 1) := by decide +kernel
theorem dX1_countWinner_18 : decode cX1_countWinner 18 = .ok (.invokevirtual 72, 3) := by decide +kernel
theorem dX1_countWinner_21 : decode cX1_countWinner 21 = .ok (.ifCond .eq 23, 3) := by decide +kernel
theorem dX1_countWinner_24 : decode cX1_countWinner 24 = .ok (.iload_n 3, 1) := by decide +kernel
theorem dX1_countWinner_25 : decode cX1_countWinner 25 = .ok (.iconst (-1), 1) := by decide +kernel
theorem dX1_countWinner_26 : decode cX1_countWinner 26 = .ok (.if_icmp .eq 15, 3) := by decide +kernel
theorem dX1_countWinner_29 : decode cX1_countWinner 29 = .ok (.aload_n 0, 1) := by decide +kernel
theorem dX1_countWinner_30 : decode cX1_countWinner 30 = .ok (.aload_n 1, 1) := by decide +kernel
theorem dX1_countWinner_31 : decode cX1_countWinner 31 = .ok (.iload 4, 2) := by decide +kernel
theorem dX1_countWinner_33 : decode cX1_countWinner 33 = .ok (.iload_n 3, 1) := by decide +kernel
theorem dX1_countWinner_34 : decode cX1_countWinner 34 = .ok (.iload_n 2, 1) := by decide +kernel
theorem dX1_countWinner_35 : decode cX1_countWinner 35 = .ok (.invokevirtual 94, 3) := by decide +kernel
theorem dX1_countWinner_38 : decode cX1_countWinner 38 = .ok (.ifCond .eq 6, 3) := by decide +kernel
theorem dX1_countWinner_41 : decode cX1_countWinner 41 = .ok (.iload 4, 2) := by decide +kernel
theorem dX1_countWinner_43 : decode cX1_countWinner 43 = .ok (.istore_n 3, 1) := by decide +kernel
theorem dX1_countWinner_44 : decode cX1_countWinner 44 = .ok (.iinc 4 1, 3) := by decide +kernel
theorem dX1_countWinner_47 : decode cX1_countWinner 47 = .ok (.goto (-42), 3) := by decide +kernel
theorem dX1_countWinner_50 : decode cX1_countWinner 50 = .ok (.aload_n 0, 1) := by decide +kernel
theorem dX1_countWinner_51 : decode cX1_countWinner 51 = .ok (.getfield 18, 3) := by decide +kernel
theorem dX1_countWinner_54 : decode cX1_countWinner 54 = .ok (.iload_n 2, 1) := by decide +kernel
theorem dX1_countWinner_55 : decode cX1_countWinner 55 = .ok (.iload_n 3, 1) := by decide +kernel
theorem dX1_countWinner_56 : decode cX1_countWinner 56 = .ok (.iastore, 1) := by decide +kernel
theorem dX1_countWinner_57 : decode cX1_countWinner 57 = .ok (.return_, 1) := by decide +kernel
theorem dX1_isAhead_0 : decode cX1_isAhead 0 = .ok (.aload_n 0, 1) := by decide +kernel
theorem dX1_isAhead_1 : decode cX1_isAhead 1 = .ok (.getfield 27, 3) := by decide +kernel
theorem dX1_isAhead_4 : decode cX1_isAhead 4 = .ok (.iload_n 2, 1) := by decide +kernel
theorem dX1_isAhead_5 : decode cX1_isAhead 5 = .ok (.iload 4, 2) := by decide +kernel
theorem dX1_isAhead_7 : decode cX1_isAhead 7 = .ok (.invokestatic 76, 3) := by decide +kernel
theorem dX1_isAhead_10 : decode cX1_isAhead 10 = .ok (.iaload, 1) := by decide +kernel
theorem dX1_isAhead_11 : decode cX1_isAhead 11 = .ok (.istore 5, 2) := by decide +kernel
theorem dX1_isAhead_13 : decode cX1_isAhead 13 = .ok (.aload_n 0, 1) := by decide +kernel
theorem dX1_isAhead_14 : decode cX1_isAhead 14 = .ok (.getfield 27, 3) := by decide +kernel
theorem dX1_isAhead_17 : decode cX1_isAhead 17 = .ok (.iload_n 3, 1) := by decide +kernel
theorem dX1_isAhead_18 : decode cX1_isAhead 18 = .ok (.iload 4, 2) := by decide +kernel
theorem dX1_isAhead_20 : decode cX1_isAhead 20 = .ok (.invokestatic 76, 3) := by decide +kernel
theorem dX1_isAhead_23 : decode cX1_isAhead 23 = .ok (.iaload, 1) := by decide +kernel
theorem dX1_isAhead_24 : decode cX1_isAhead 24 = .ok (.istore 6, 2) := by decide +kernel
theorem dX1_isAhead_26 : decode cX1_isAhead 26 = .ok (.iload 5, 2) := by decide +kernel
theorem dX1_isAhead_28 : decode cX1_isAhead 28 = .ok (.iload 6, 2) := by decide +kernel
theorem dX1_isAhead_30 : decode cX1_isAhead 30 = .ok (.if_icmp .eq 16, 3) := by decide +kernel
theorem dX1_isAhead_33 : decode cX1_isAhead 33 = .ok (.iload 5, 2) := by decide +kernel
theorem dX1_isAhead_35 : decode cX1_isAhead 35 = .ok (.iload 6, 2) := by decide +kernel
theorem dX1_isAhead_37 : decode cX1_isAhead 37 = .ok (.if_icmp .le 7, 3) := by decide +kernel
theorem dX1_isAhead_40 : decode cX1_isAhead 40 = .ok (.iconst 1, 1) := by decide +kernel
theorem dX1_isAhead_41 : decode cX1_isAhead 41 = .ok (.goto 4, 3) := by decide +kernel
theorem dX1_isAhead_44 : decode cX1_isAhead 44 = .ok (.iconst 0, 1) := by decide +kernel
theorem dX1_isAhead_45 : decode cX1_isAhead 45 = .ok (.ireturn, 1) := by decide +kernel
theorem dX1_isAhead_46 : decode cX1_isAhead 46 = .ok (.aload_n 1, 1) := by decide +kernel
theorem dX1_isAhead_47 : decode cX1_isAhead 47 = .ok (.getfield 39, 3) := by decide +kernel
theorem dX1_isAhead_50 : decode cX1_isAhead 50 = .ok (.iload_n 2, 1) := by decide +kernel
theorem dX1_isAhead_51 : decode cX1_isAhead 51 = .ok (.aaload, 1) := by decide +kernel
theorem dX1_isAhead_52 : decode cX1_isAhead 52 = .ok (.getfield 98, 3) := by decide +kernel
theorem dX1_isAhead_55 : decode cX1_isAhead 55 = .ok (.aload_n 1, 1) := by decide +kernel
theorem dX1_isAhead_56 : decode cX1_isAhead 56 = .ok (.getfield 39, 3) := by decide +kernel
theorem dX1_isAhead_59 : decode cX1_isAhead 59 = .ok (.iload_n 3, 1) := by decide +kernel
theorem dX1_isAhead_60 : decode cX1_isAhead 60 = .ok (.aaload, 1) := by decide +kernel
theorem dX1_isAhead_61 : decode cX1_isAhead 61 = .ok (.getfield 98, 3) := by decide +kernel
theorem dX1_isAhead_64 : decode cX1_isAhead 64 = .ok (.if_icmp .ge 7, 3) := by decide +kernel
theorem dX1_isAhead_67 : decode cX1_isAhead 67 = .ok (.iconst 1, 1) := by decide +kernel
theorem dX1_isAhead_68 : decode cX1_isAhead 68 = .ok (.goto 4, 3) := by decide +kernel
theorem dX1_isAhead_71 : decode cX1_isAhead 71 = .ok (.iconst 0, 1) := by decide +kernel
theorem dX1_isAhead_72 : decode cX1_isAhead 72 = .ok (.ireturn, 1) := by decide +kernel
theorem dX1_countMargin_0 : decode cX1_countMargin 0 = .ok (.aload_n 0, 1) := by decide +kernel
theorem dX1_countMargin_1 : decode cX1_countMargin 1 = .ok (.getfield 18, 3) := by decide +kernel
theorem dX1_countMargin_4 : decode cX1_countMargin 4 = .ok (.iload_n 2, 1) := by decide +kernel
theorem dX1_countMargin_5 : decode cX1_countMargin 5 = .ok (.iaload, 1) := by decide +kernel
theorem dX1_countMargin_6 : decode cX1_countMargin 6 = .ok (.istore_n 3, 1) := by decide +kernel
theorem dX1_countMargin_7 : decode cX1_countMargin 7 = .ok (.iload_n 3, 1) := by decide +kernel
theorem dX1_countMargin_8 : decode cX1_countMargin 8 = .ok (.iconst (-1), 1) := by decide +kernel
theorem dX1_countMargin_9 : decode cX1_countMargin 9 = .ok (.if_icmp .ne 11, 3) := by decide +kernel
theorem dX1_countMargin_12 : decode cX1_countMargin 12 = .ok (.aload_n 0, 1) := by decide +kernel
theorem dX1_countMargin_13 : decode cX1_countMargin 13 = .ok (.getfield 21, 3) := by decide +kernel
theorem dX1_countMargin_16 : decode cX1_countMargin 16 = .ok (.iload_n 2, 1) := by decide +kernel
theorem dX1_countMargin_17 : decode cX1_countMargin 17 = .ok (.iconst (-1), 1) := by decide +kernel
theorem dX1_countMargin_18 : decode cX1_countMargin 18 = .ok (.iastore, 1) := by decide +kernel
theorem dX1_countMargin_19 : decode cX1_countMargin 19 = .ok (.return_, 1) := by decide +kernel
theorem dX1_countMargin_20 : decode cX1_countMargin 20 = .ok (.iconst 0, 1) := by decide +kernel
theorem dX1_countMargin_21 : decode cX1_countMargin 21 = .ok (.istore 4, 2) := by decide +kernel
theorem dX1_countMargin_23 : decode cX1_countMargin 23 = .ok (.iconst 0, 1) := by decide +kernel
theorem dX1_countMargin_24 : decode cX1_countMargin 24 = .ok (.istore 5, 2) := by decide +kernel
theorem dX1_countMargin_26 : decode cX1_countMargin 26 = .ok (.iload 5, 2) := by decide +kernel
theorem dX1_countMargin_28 : decode cX1_countMargin 28 = .ok (.aload_n 1, 1) := by decide +kernel
theorem dX1_countMargin_29 : decode cX1_countMargin 29 = .ok (.getfield 33, 3) := by decide +kernel
theorem dX1_countMargin_32 : decode cX1_countMargin 32 = .ok (.if_icmp .ge 33, 3) := by decide +kernel
theorem dX1_countMargin_35 : decode cX1_countMargin 35 = .ok (.iload 5, 2) := by decide +kernel
theorem dX1_countMargin_37 : decode cX1_countMargin 37 = .ok (.iload_n 3, 1) := by decide +kernel
theorem dX1_countMargin_38 : decode cX1_countMargin 38 = .ok (.if_icmp .eq 21, 3) := by decide +kernel
theorem dX1_countMargin_41 : decode cX1_countMargin 41 = .ok (.iload 4, 2) := by decide +kernel
theorem dX1_countMargin_43 : decode cX1_countMargin 43 = .ok (.aload_n 0, 1) := by decide +kernel
theorem dX1_countMargin_44 : decode cX1_countMargin 44 = .ok (.getfield 27, 3) := by decide +kernel
theorem dX1_countMargin_47 : decode cX1_countMargin 47 = .ok (.iload 5, 2) := by decide +kernel
theorem dX1_countMargin_49 : decode cX1_countMargin 49 = .ok (.iload_n 2, 1) := by decide +kernel
theorem dX1_countMargin_50 : decode cX1_countMargin 50 = .ok (.invokestatic 76, 3) := by decide +kernel
theorem dX1_countMargin_53 : decode cX1_countMargin 53 = .ok (.iaload, 1) := by decide +kernel
theorem dX1_countMargin_54 : decode cX1_countMargin 54 = .ok (.invokestatic 101, 3) := by decide +kernel
theorem dX1_countMargin_57 : decode cX1_countMargin 57 = .ok (.istore 4, 2) := by decide +kernel
theorem dX1_countMargin_59 : decode cX1_countMargin 59 = .ok (.iinc 5 1, 3) := by decide +kernel
theorem dX1_countMargin_62 : decode cX1_countMargin 62 = .ok (.goto (-36), 3) := by decide +kernel
theorem dX1_countMargin_65 : decode cX1_countMargin 65 = .ok (.aload_n 0, 1) := by decide +kernel
theorem dX1_countMargin_66 : decode cX1_countMargin 66 = .ok (.getfield 21, 3) := by decide +kernel
theorem dX1_countMargin_69 : decode cX1_countMargin 69 = .ok (.iload_n 2, 1) := by decide +kernel
theorem dX1_countMargin_70 : decode cX1_countMargin 70 = .ok (.aload_n 0, 1) := by decide +kernel
theorem dX1_countMargin_71 : decode cX1_countMargin 71 = .ok (.getfield 27, 3) := by decide +kernel
theorem dX1_countMargin_74 : decode cX1_countMargin 74 = .ok (.iload_n 3, 1) := by decide +kernel
theorem dX1_countMargin_75 : decode cX1_countMargin 75 = .ok (.iload_n 2, 1) := by decide +kernel
theorem dX1_countMargin_76 : decode cX1_countMargin 76 = .ok (.invokestatic 76, 3) := by decide +kernel
theorem dX1_countMargin_79 : decode cX1_countMargin 79 = .ok (.iaload, 1) := by decide +kernel
theorem dX1_countMargin_80 : decode cX1_countMargin 80 = .ok (.iload 4, 2) := by decide +kernel
theorem dX1_countMargin_82 : decode cX1_countMargin 82 = .ok (.isub, 1) := by decide +kernel
theorem dX1_countMargin_83 : decode cX1_countMargin 83 = .ok (.iastore, 1) := by decide +kernel
theorem dX1_countMargin_84 : decode cX1_countMargin 84 = .ok (.return_, 1) := by decide +kernel
theorem dX1_countBindings_0 : decode cX1_countBindings 0 = .ok (.iconst 0, 1) := by decide +kernel
theorem dX1_countBindings_1 : decode cX1_countBindings 1 = .ok (.istore_n 3, 1) := by decide +kernel
theorem dX1_countBindings_2 : decode cX1_countBindings 2 = .ok (.iconst 0, 1) := by decide +kernel
theorem dX1_countBindings_3 : decode cX1_countBindings 3 = .ok (.istore 4, 2) := by decide +kernel
theorem dX1_countBindings_5 : decode cX1_countBindings 5 = .ok (.iload 4, 2) := by decide +kernel
theorem dX1_countBindings_7 : decode cX1_countBindings 7 = .ok (.aload_n 1, 1) := by decide +kernel
theorem dX1_countBindings_8 : decode cX1_countBindings 8 = .ok (.getfield 33, 3) := by decide +kernel
theorem dX1_countBindings_11 : decode cX1_countBindings 11 = .ok (.if_icmp .ge 27, 3) := by decide +kernel
theorem dX1_countBindings_14 : decode cX1_countBindings 14 = .ok (.iload_n 3, 1) := by decide +kernel
theorem dX1_countBindings_15 : decode cX1_countBindings 15 = .ok (.iconst 0, 1) := by decide +kernel
theorem dX1_countBindings_16 : decode cX1_countBindings 16 = .ok (.aload_n 0, 1) := by decide +kernel
theorem dX1_countBindings_17 : decode cX1_countBindings 17 = .ok (.getfield 27, 3) := by decide +kernel
theorem dX1_countBindings_20 : decode cX1_countBindings 20 = .ok (.iload 4, 2) := by decide +kernel
theorem dX1_countBindings_22 : decode cX1_countBindings 22 = .ok (.iload_n 2, 1) := by decide +kernel
theorem dX1_countBindings_23 : decode cX1_countBindings 23 = .ok (.invokestatic 76, 3) := by decide +kernel
theorem dX1_countBindings_26 : decode cX1_countBindings 26 = .ok (.iaload, 1) := by decide +kernel
theorem dX1_countBindings_27 : decode cX1_countBindings 27 = .ok (.invokestatic 101, 3) := by decide +kernel
theorem dX1_countBindings_30 : decode cX1_countBindings 30 = .ok (.iadd, 1) := by decide +kernel
theorem dX1_countBindings_31 : decode cX1_countBindings 31 = .ok (.istore_n 3, 1) := by decide +kernel
theorem dX1_countBindings_32 : decode cX1_countBindings 32 = .ok (.iinc 4 1, 3) := by decide +kernel
theorem dX1_countBindings_35 : decode cX1_countBindings 35 = .ok (.goto (-30), 3) := by decide +kernel
theorem dX1_countBindings_38 : decode cX1_countBindings 38 = .ok (.iconst 0, 1) := by decide +kernel
theorem dX1_countBindings_39 : decode cX1_countBindings 39 = .ok (.istore 4, 2) := by decide +kernel
theorem dX1_countBindings_41 : decode cX1_countBindings 41 = .ok (.iload 4, 2) := by decide +kernel
theorem dX1_countBindings_43 : decode cX1_countBindings 43 = .ok (.aload_n 1, 1) := by decide +kernel
theorem dX1_countBindings_44 : decode cX1_countBindings 44 = .ok (.getfield 33, 3) := by decide +kernel
theorem dX1_countBindings_47 : decode cX1_countBindings 47 = .ok (.if_icmp .ge 104, 3) := by decide +kernel
theorem dX1_countBindings_50 : decode cX1_countBindings 50 = .ok (.iload 4, 2) := by decide +kernel
theorem dX1_countBindings_52 : decode cX1_countBindings 52 = .ok (.iload_n 2, 1) := by decide +kernel
theorem dX1_countBindings_53 : decode cX1_countBindings 53 = .ok (.invokestatic 76, 3) := by decide +kernel
theorem dX1_countBindings_56 : decode cX1_countBindings 56 = .ok (.istore 5, 2) := by decide +kernel
theorem dX1_countBindings_58 : decode cX1_countBindings 58 = .ok (.aload_n 1, 1) := by decide +kernel
theorem dX1_countBindings_59 : decode cX1_countBindings 59 = .ok (.getfield 39, 3) := by decide +kernel
theorem dX1_countBindings_62 : decode cX1_countBindings 62 = .ok (.iload 4, 2) := by decide +kernel
theorem dX1_countBindings_64 : decode cX1_countBindings 64 = .ok (.aaload, 1) := by decide +kernel
theorem dX1_countBindings_65 : decode cX1_countBindings 65 = .ok (.invokevirtual 43, 3) := by decide +kernel
theorem dX1_countBindings_68 : decode cX1_countBindings 68 = .ok (.ifCond .ne 14, 3) := by decide +kernel
theorem dX1_countBindings_71 : decode cX1_countBindings 71 = .ok (.aload_n 0, 1) := by decide +kernel
theorem dX1_countBindings_72 : decode cX1_countBindings 72 = .ok (.getfield 30, 3) := by decide +kernel
theorem dX1_countBindings_75 : decode cX1_countBindings 75 = .ok (.iload 5, 2) := by decide +kernel
theorem dX1_countBindings_77 : decode cX1_countBindings 77 = .ok (.iconst (-1), 1) := by decide +kernel
theorem dX1_countBindings_78 : decode cX1_countBindings 78 = .ok (.iastore, 1) := by decide +kernel
theorem dX1_countBindings_79 : decode cX1_countBindings 79 = .ok (.goto 66, 3) := by decide +kernel
theorem dX1_countBindings_82 : decode cX1_countBindings 82 = .ok (.aload_n 1, 1) := by decide +kernel
theorem dX1_countBindings_83 : decode cX1_countBindings 83 = .ok (.getfield 39, 3) := by decide +kernel
theorem dX1_countBindings_86 : decode cX1_countBindings 86 = .ok (.iload 4, 2) := by decide +kernel
theorem dX1_countBindings_88 : decode cX1_countBindings 88 = .ok (.aaload, 1) := by decide +kernel
theorem dX1_countBindings_89 : decode cX1_countBindings 89 = .ok (.getfield 106, 3) := by decide +kernel
theorem dX1_countBindings_92 : decode cX1_countBindings 92 = .ok (.ifCond .eq 40, 3) := by decide +kernel
theorem dX1_countBindings_95 : decode cX1_countBindings 95 = .ok (.aload_n 0, 1) := by decide +kernel
theorem dX1_countBindings_96 : decode cX1_countBindings 96 = .ok (.aload_n 0, 1) := by decide +kernel
theorem dX1_countBindings_97 : decode cX1_countBindings 97 = .ok (.getfield 24, 3) := by decide +kernel
theorem dX1_countBindings_100 : decode cX1_countBindings 100 = .ok (.iload 5, 2) := by decide +kernel
theorem dX1_countBindings_102 : decode cX1_countBindings 102 = .ok (.iaload, 1) := by decide +kernel
theorem dX1_countBindings_103 : decode cX1_countBindings 103 = .ok (.iload_n 2, 1) := by decide +kernel
theorem dX1_countBindings_104 : decode cX1_countBindings 104 = .ok (.aload_n 1, 1) := by decide +kernel
theorem dX1_countBindings_105 : decode cX1_countBindings 105 = .ok (.getfield 110, 3) := by decide +kernel
theorem dX1_countBindings_108 : decode cX1_countBindings 108 = .ok (.iload_n 3, 1) := by decide +kernel
theorem dX1_countBindings_109 : decode cX1_countBindings 109 = .ok (.invokevirtual 113, 3) := by decide +kernel
theorem dX1_countBindings_112 : decode cX1_countBindings 112 = .ok (.ifCond .eq 20, 3) := by decide +kernel
theorem dX1_countBindings_115 : decode cX1_countBindings 115 = .ok (.aload_n 0, 1) := by decide +kernel
theorem dX1_countBindings_116 : decode cX1_countBindings 116 = .ok (.getfield 30, 3) := by decide +kernel
theorem dX1_countBindings_119 : decode cX1_countBindings 119 = .ok (.iload 5, 2) := by decide +kernel
theorem dX1_countBindings_121 : decode cX1_countBindings 121 = .ok (.aload_n 0, 1) := by decide +kernel
theorem dX1_countBindings_122 : decode cX1_countBindings 122 = .ok (.getfield 24, 3) := by decide +kernel
theorem dX1_countBindings_125 : decode cX1_countBindings 125 = .ok (.iload 5, 2) := by decide +kernel
theorem dX1_countBindings_127 : decode cX1_countBindings 127 = .ok (.iaload, 1) := by decide +kernel
theorem dX1_countBindings_128 : decode cX1_countBindings 128 = .ok (.iastore, 1) := by decide +kernel
theorem dX1_countBindings_129 : decode cX1_countBindings 129 = .ok (.goto 16, 3) := by decide +kernel
theorem dX1_countBindings_132 : decode cX1_countBindings 132 = .ok (.aload_n 0, 1) := by decide +kernel
theorem dX1_countBindings_133 : decode cX1_countBindings 133 = .ok (.getfield 30, 3) := by decide +kernel
theorem dX1_countBindings_136 : decode cX1_countBindings 136 = .ok (.iload 5, 2) := by decide +kernel
theorem dX1_countBindings_138 : decode cX1_countBindings 138 = .ok (.aload_n 0, 1) := by decide +kernel
theorem dX1_countBindings_139 : decode cX1_countBindings 139 = .ok (.getfield 18, 3) := by decide +kernel
theorem dX1_countBindings_142 : decode cX1_countBindings 142 = .ok (.iload_n 2, 1) := by decide +kernel
theorem dX1_countBindings_143 : decode cX1_countBindings 143 = .ok (.iaload, 1) := by decide +kernel
theorem dX1_countBindings_144 : decode cX1_countBindings 144 = .ok (.iastore, 1) := by decide +kernel
theorem dX1_countBindings_145 : decode cX1_countBindings 145 = .ok (.iinc 4 1, 3) := by decide +kernel
theorem dX1_countBindings_148 : decode cX1_countBindings 148 = .ok (.goto (-107), 3) := by decide +kernel
theorem dX1_countBindings_151 : decode cX1_countBindings 151 = .ok (.return_, 1) := by decide +kernel
theorem dX1_isLargeEnough_0 : decode cX1_isLargeEnough 0 = .ok (.iload_n 1, 1) := by decide +kernel
theorem dX1_isLargeEnough_1 : decode cX1_isLargeEnough 1 = .ok (.iconst (-1), 1) := by decide +kernel
theorem dX1_isLargeEnough_2 : decode cX1_isLargeEnough 2 = .ok (.if_icmp .eq 27, 3) := by decide +kernel
theorem dX1_isLargeEnough_5 : decode cX1_isLargeEnough 5 = .ok (.bipush 100, 2) := by decide +kernel
theorem dX1_isLargeEnough_7 : decode cX1_isLargeEnough 7 = .ok (.aload_n 0, 1) := by decide +kernel
theorem dX1_isLargeEnough_8 : decode cX1_isLargeEnough 8 = .ok (.getfield 27, 3) := by decide +kernel
theorem dX1_isLargeEnough_11 : decode cX1_isLargeEnough 11 = .ok (.iload_n 1, 1) := by decide +kernel
theorem dX1_isLargeEnough_12 : decode cX1_isLargeEnough 12 = .ok (.iload_n 2, 1) := by decide +kernel
theorem dX1_isLargeEnough_13 : decode cX1_isLargeEnough 13 = .ok (.invokestatic 76, 3) := by decide +kernel
theorem dX1_isLargeEnough_16 : decode cX1_isLargeEnough 16 = .ok (.iaload, 1) := by decide +kernel
theorem dX1_isLargeEnough_17 : decode cX1_isLargeEnough 17 = .ok (.imul, 1) := by decide +kernel
theorem dX1_isLargeEnough_18 : decode cX1_isLargeEnough 18 = .ok (.iload_n 3, 1) := by decide +kernel
theorem dX1_isLargeEnough_19 : decode cX1_isLargeEnough 19 = .ok (.iload 4, 2) := by decide +kernel
theorem dX1_isLargeEnough_21 : decode cX1_isLargeEnough 21 = .ok (.imul, 1) := by decide +kernel
theorem dX1_isLargeEnough_22 : decode cX1_isLargeEnough 22 = .ok (.if_icmp .lt 7, 3) := by decide +kernel
theorem dX1_isLargeEnough_25 : decode cX1_isLargeEnough 25 = .ok (.iconst 1, 1) := by decide +kernel
theorem dX1_isLargeEnough_26 : decode cX1_isLargeEnough 26 = .ok (.goto 4, 3) := by decide +kernel
theorem dX1_isLargeEnough_29 : decode cX1_isLargeEnough 29 = .ok (.iconst 0, 1) := by decide +kernel
theorem dX1_isLargeEnough_30 : decode cX1_isLargeEnough 30 = .ok (.ireturn, 1) := by decide +kernel
