theorem dX8_init_0 : decode cX8_init 0 = .ok (.aload_n 0, 1) := by decide +kernel
theorem dX8_init_1 : decode cX8_init 1 = .ok (.invokespecial 3, 3) := by decide +kernel
theorem dX8_init_4 : decode cX8_init 4 = .ok (.aload_n 0, 1) := by decide +kernel
theorem dX8_init_5 : decode cX8_init 5 = .ok (.sipush 800, 3) := by decide +kernel
theorem dX8_init_8 : decode cX8_init 8 = .ok (.newarray .byte, 2) := by decide +kernel
theorem dX8_init_10 : decode cX8_init 10 = .ok (.putfield 9, 3) := by decide +kernel
theorem dX8_init_13 : decode cX8_init 13 = .ok (.aload_n 0, 1) := by decide +kernel
theorem dX8_init_14 : decode cX8_init 14 = .ok (.iconst 0, 1) := by decide +kernel
theorem dX8_init_15 : decode cX8_init 15 = .ok (.putfield 13, 3) := by decide +kernel
theorem dX8_init_18 : decode cX8_init 18 = .ok (.aload_n 0, 1) := by decide +kernel
theorem dX8_init_19 : decode cX8_init 19 = .ok (.iconst (-1), 1) := by decide +kernel
theorem dX8_init_20 : decode cX8_init 20 = .ok (.putfield 17, 3) := by decide +kernel
theorem dX8_init_23 : decode cX8_init 23 = .ok (.aload_n 0, 1) := by decide +kernel
theorem dX8_init_24 : decode cX8_init 24 = .ok (.new 20, 3) := by decide +kernel
theorem dX8_init_27 : decode cX8_init 27 = .ok (.dup, 1) := by decide +kernel
theorem dX8_init_28 : decode cX8_init 28 = .ok (.invokespecial 22, 3) := by decide +kernel
theorem dX8_init_31 : decode cX8_init 31 = .ok (.putfield 23, 3) := by decide +kernel
theorem dX8_init_34 : decode cX8_init 34 = .ok (.aload_n 0, 1) := by decide +kernel
theorem dX8_init_35 : decode cX8_init 35 = .ok (.new 27, 3) := by decide +kernel
theorem dX8_init_38 : decode cX8_init 38 = .ok (.dup, 1) := by decide +kernel
theorem dX8_init_39 : decode cX8_init 39 = .ok (.invokespecial 29, 3) := by decide +kernel
theorem dX8_init_42 : decode cX8_init 42 = .ok (.putfield 30, 3) := by decide +kernel
theorem dX8_init_45 : decode cX8_init 45 = .ok (.aload_n 0, 1) := by decide +kernel
theorem dX8_init_46 : decode cX8_init 46 = .ok (.new 34, 3) := by decide +kernel
theorem dX8_init_49 : decode cX8_init 49 = .ok (.dup, 1) := by decide +kernel
theorem dX8_init_50 : decode cX8_init 50 = .ok (.invokespecial 36, 3) := by decide +kernel
theorem dX8_init_53 : decode cX8_init 53 = .ok (.putfield 37, 3) := by decide +kernel
theorem dX8_init_56 : decode cX8_init 56 = .ok (.aload_n 0, 1) := by decide +kernel
theorem dX8_init_57 : decode cX8_init 57 = .ok (.new 41, 3) := by decide +kernel
theorem dX8_init_60 : decode cX8_init 60 = .ok (.dup, 1) := by decide +kernel
theorem dX8_init_61 : decode cX8_init 61 = .ok (.invokespecial 43, 3) := by decide +kernel
theorem dX8_init_64 : decode cX8_init 64 = .ok (.putfield 44, 3) := by decide +kernel
theorem dX8_init_67 : decode cX8_init 67 = .ok (.aload_n 0, 1) := by decide +kernel
theorem dX8_init_68 : decode cX8_init 68 = .ok (.new 48, 3) := by decide +kernel
theorem dX8_init_71 : decode cX8_init 71 = .ok (.dup, 1) := by decide +kernel
theorem dX8_init_72 : decode cX8_init 72 = .ok (.invokespecial 50, 3) := by decide +kernel
theorem dX8_init_75 : decode cX8_init 75 = .ok (.putfield 51, 3) := by decide +kernel
theorem dX8_init_78 : decode cX8_init 78 = .ok (.aload_n 0, 1) := by decide +kernel
theorem dX8_init_79 : decode cX8_init 79 = .ok (.bipush 96, 2) := by decide +kernel
theorem dX8_init_81 : decode cX8_init 81 = .ok (.newarray .int, 2) := by decide +kernel
theorem dX8_init_83 : decode cX8_init 83 = .ok (.putfield 55, 3) := by decide +kernel
theorem dX8_init_86 : decode cX8_init 86 = .ok (.return_, 1) := by decide +kernel
theorem dX8_append_0 : decode cX8_append 0 = .ok (.aload_n 0, 1) := by decide +kernel
theorem dX8_append_1 : decode cX8_append 1 = .ok (.getfield 13, 3) := by decide +kernel
theorem dX8_append_4 : decode cX8_append 4 = .ok (.bipush 20, 2) := by decide +kernel
theorem dX8_append_6 : decode cX8_append 6 = .ok (.iadd, 1) := by decide +kernel
theorem dX8_append_7 : decode cX8_append 7 = .ok (.sipush 800, 3) := by decide +kernel
theorem dX8_append_10 : decode cX8_append 10 = .ok (.if_icmp .le 5, 3) := by decide +kernel
theorem dX8_append_13 : decode cX8_append 13 = .ok (.iconst (-1), 1) := by decide +kernel
theorem dX8_append_14 : decode cX8_append 14 = .ok (.ireturn, 1) := by decide +kernel
theorem dX8_append_15 : decode cX8_append 15 = .ok (.aload_n 0, 1) := by decide +kernel
theorem dX8_append_16 : decode cX8_append 16 = .ok (.iload_n 1, 1) := by decide +kernel
theorem dX8_append_17 : decode cX8_append 17 = .ok (.invokevirtual 59, 3) := by decide +kernel
theorem dX8_append_20 : decode cX8_append 20 = .ok (.aload_n 0, 1) := by decide +kernel
theorem dX8_append_21 : decode cX8_append 21 = .ok (.iload_n 2, 1) := by decide +kernel
theorem dX8_append_22 : decode cX8_append 22 = .ok (.invokevirtual 59, 3) := by decide +kernel
theorem dX8_append_25 : decode cX8_append 25 = .ok (.aload_n 0, 1) := by decide +kernel
theorem dX8_append_26 : decode cX8_append 26 = .ok (.iload_n 3, 1) := by decide +kernel
theorem dX8_append_27 : decode cX8_append 27 = .ok (.invokevirtual 59, 3) := by decide +kernel
theorem dX8_append_30 : decode cX8_append 30 = .ok (.aload_n 0, 1) := by decide +kernel
theorem dX8_append_31 : decode cX8_append 31 = .ok (.iload 4, 2) := by decide +kernel
theorem dX8_append_33 : decode cX8_append 33 = .ok (.invokevirtual 59, 3) := by decide +kernel
theorem dX8_append_36 : decode cX8_append 36 = .ok (.aload_n 0, 1) := by decide +kernel
theorem dX8_append_37 : decode cX8_append 37 = .ok (.iload 5, 2) := by decide +kernel
theorem dX8_append_39 : decode cX8_append 39 = .ok (.invokevirtual 59, 3) := by decide +kernel
theorem dX8_append_42 : decode cX8_append 42 = .ok (.aload_n 0, 1) := by decide +kernel
theorem dX8_append_43 : decode cX8_append 43 = .ok (.getfield 13, 3) := by decide +kernel
theorem dX8_append_46 : decode cX8_append 46 = .ok (.ireturn, 1) := by decide +kernel
theorem dX8_load_0 : decode cX8_load 0 = .ok (.iload_n 1, 1) := by decide +kernel
theorem dX8_load_1 : decode cX8_load 1 = .ok (.ifCond .lt 11, 3) := by decide +kernel
theorem dX8_load_4 : decode cX8_load 4 = .ok (.iload_n 1, 1) := by decide +kernel
theorem dX8_load_5 : decode cX8_load 5 = .ok (.aload_n 0, 1) := by decide +kernel
theorem dX8_load_6 : decode cX8_load 6 = .ok (.getfield 13, 3) := by decide +kernel
theorem dX8_load_9 : decode cX8_load 9 = .ok (.if_icmp .le 13, 3) := by decide +kernel
theorem dX8_load_12 : decode cX8_load 12 = .ok (.new 63, 3) := by decide +kernel
theorem dX8_load_15 : decode cX8_load 15 = .ok (.dup, 1) := by decide +kernel
theorem dX8_load_16 : decode cX8_load 16 = .ok (.ldc 65, 2) := by decide +kernel
theorem dX8_load_18 : decode cX8_load 18 = .ok (.invokespecial 67, 3) := by decide +kernel
theorem dX8_load_21 : decode cX8_load 21 = .ok (.athrow, 1) := by decide +kernel
theorem dX8_load_22 : decode cX8_load 22 = .ok (.aload_n 0, 1) := by decide +kernel
theorem dX8_load_23 : decode cX8_load 23 = .ok (.iconst 0, 1) := by decide +kernel
theorem dX8_load_24 : decode cX8_load 24 = .ok (.putfield 13, 3) := by decide +kernel
theorem dX8_load_27 : decode cX8_load 27 = .ok (.aload_n 0, 1) := by decide +kernel
theorem dX8_load_28 : decode cX8_load 28 = .ok (.getfield 23, 3) := by decide +kernel
theorem dX8_load_31 : decode cX8_load 31 = .ok (.aload_n 0, 1) := by decide +kernel
theorem dX8_load_32 : decode cX8_load 32 = .ok (.getfield 9, 3) := by decide +kernel
theorem dX8_load_35 : decode cX8_load 35 = .ok (.iload_n 1, 1) := by decide +kernel
theorem dX8_load_36 : decode cX8_load 36 = .ok (.invokevirtual 70, 3) := by decide +kernel
theorem dX8_load_39 : decode cX8_load 39 = .ok (.ifCond .ne 22, 3) := by decide +kernel
theorem dX8_load_42 : decode cX8_load 42 = .ok (.aload_n 0, 1) := by decide +kernel
theorem dX8_load_43 : decode cX8_load 43 = .ok (.aload_n 0, 1) := by decide +kernel
theorem dX8_load_44 : decode cX8_load 44 = .ok (.getfield 23, 3) := by decide +kernel
theorem dX8_load_47 : decode cX8_load 47 = .ok (.getfield 74, 3) := by decide +kernel
theorem dX8_load_50 : decode cX8_load 50 = .ok (.putfield 17, 3) := by decide +kernel
theorem dX8_load_53 : decode cX8_load 53 = .ok (.aload_n 0, 1) := by decide +kernel
theorem dX8_load_54 : decode cX8_load 54 = .ok (.getfield 23, 3) := by decide +kernel
theorem dX8_load_57 : decode cX8_load 57 = .ok (.getfield 75, 3) := by decide +kernel
theorem dX8_load_60 : decode cX8_load 60 = .ok (.ireturn, 1) := by decide +kernel
theorem dX8_load_61 : decode cX8_load 61 = .ok (.aload_n 0, 1) := by decide +kernel
theorem dX8_load_62 : decode cX8_load 62 = .ok (.iconst (-1), 1) := by decide +kernel
theorem dX8_load_63 : decode cX8_load 63 = .ok (.putfield 17, 3) := by decide +kernel
theorem dX8_load_66 : decode cX8_load 66 = .ok (.aload_n 0, 1) := by decide +kernel
theorem dX8_load_67 : decode cX8_load 67 = .ok (.invokevirtual 78, 3) := by decide +kernel
theorem dX8_load_70 : decode cX8_load 70 = .ok (.aload_n 0, 1) := by decide +kernel
theorem dX8_load_71 : decode cX8_load 71 = .ok (.getfield 30, 3) := by decide +kernel
theorem dX8_load_74 : decode cX8_load 74 = .ok (.aload_n 0, 1) := by decide +kernel
theorem dX8_load_75 : decode cX8_load 75 = .ok (.getfield 23, 3) := by decide +kernel
theorem dX8_load_78 : decode cX8_load 78 = .ok (.getfield 81, 3) := by decide +kernel
theorem dX8_load_81 : decode cX8_load 81 = .ok (.invokevirtual 84, 3) := by decide +kernel
theorem dX8_load_84 : decode cX8_load 84 = .ok (.aload_n 0, 1) := by decide +kernel
theorem dX8_load_85 : decode cX8_load 85 = .ok (.getfield 37, 3) := by decide +kernel
theorem dX8_load_88 : decode cX8_load 88 = .ok (.aload_n 0, 1) := by decide +kernel
theorem dX8_load_89 : decode cX8_load 89 = .ok (.getfield 30, 3) := by decide +kernel
theorem dX8_load_92 : decode cX8_load 92 = .ok (.invokevirtual 88, 3) := by decide +kernel
theorem dX8_load_95 : decode cX8_load 95 = .ok (.aload_n 0, 1) := by decide +kernel
theorem dX8_load_96 : decode cX8_load 96 = .ok (.getfield 30, 3) := by decide +kernel
theorem dX8_load_99 : decode cX8_load 99 = .ok (.getfield 91, 3) := by decide +kernel
theorem dX8_load_102 : decode cX8_load 102 = .ok (.ireturn, 1) := by decide +kernel
theorem dX8_errorOffset_0 : decode cX8_errorOffset 0 = .ok (.aload_n 0, 1) := by decide +kernel
theorem dX8_errorOffset_1 : decode cX8_errorOffset 1 = .ok (.getfield 17, 3) := by decide +kernel
theorem dX8_errorOffset_4 : decode cX8_errorOffset 4 = .ok (.ireturn, 1) := by decide +kernel
theorem dX8_libraries_0 : decode cX8_libraries 0 = .ok (.aload_n 0, 1) := by decide +kernel
theorem dX8_libraries_1 : decode cX8_libraries 1 = .ok (.getfield 30, 3) := by decide +kernel
theorem dX8_libraries_4 : decode cX8_libraries 4 = .ok (.getfield 91, 3) := by decide +kernel
theorem dX8_libraries_7 : decode cX8_libraries 7 = .ok (.ireturn, 1) := by decide +kernel
theorem dX8_names_0 : decode cX8_names 0 = .ok (.aload_n 0, 1) := by decide +kernel
theorem dX8_names_1 : decode cX8_names 1 = .ok (.getfield 30, 3) := by decide +kernel
theorem dX8_names_4 : decode cX8_names 4 = .ok (.getfield 94, 3) := by decide +kernel
theorem dX8_names_7 : decode cX8_names 7 = .ok (.ireturn, 1) := by decide +kernel
theorem dX8_share_0 : decode cX8_share 0 = .ok (.aload_n 0, 1) := by decide +kernel
theorem dX8_share_1 : decode cX8_share 1 = .ok (.getfield 30, 3) := by decide +kernel
theorem dX8_share_4 : decode cX8_share 4 = .ok (.getfield 97, 3) := by decide +kernel
theorem dX8_share_7 : decode cX8_share 7 = .ok (.ireturn, 1) := by decide +kernel
theorem dX8_library_0 : decode cX8_library 0 = .ok (.aload_n 0, 1) := by decide +kernel
theorem dX8_library_1 : decode cX8_library 1 = .ok (.iload_n 1, 1) := by decide +kernel
theorem dX8_library_2 : decode cX8_library 2 = .ok (.invokevirtual 100, 3) := by decide +kernel
theorem dX8_library_5 : decode cX8_library 5 = .ok (.aload_n 0, 1) := by decide +kernel
theorem dX8_library_6 : decode cX8_library 6 = .ok (.getfield 30, 3) := by decide +kernel
theorem dX8_library_9 : decode cX8_library 9 = .ok (.getfield 103, 3) := by decide +kernel
theorem dX8_library_12 : decode cX8_library 12 = .ok (.iload_n 1, 1) := by decide +kernel
theorem dX8_library_13 : decode cX8_library 13 = .ok (.aaload, 1) := by decide +kernel
theorem dX8_library_14 : decode cX8_library 14 = .ok (.astore_n 3, 1) := by decide +kernel
theorem dX8_library_15 : decode cX8_library 15 = .ok (.iload_n 2, 1) := by decide +kernel
theorem dX8_library_16 : decode cX8_library 16 = .ok (.tableswitch 83 0 5 #[40, 45, 58, 63, 68, 73], 40) := by decide +kernel
theorem dX8_library_56 : decode cX8_library 56 = .ok (.aload_n 3, 1) := by decide +kernel
theorem dX8_library_57 : decode cX8_library 57 = .ok (.getfield 107, 3) := by decide +kernel
theorem dX8_library_60 : decode cX8_library 60 = .ok (.ireturn, 1) := by decide +kernel
theorem dX8_library_61 : decode cX8_library 61 = .ok (.aload_n 3, 1) := by decide +kernel
theorem dX8_library_62 : decode cX8_library 62 = .ok (.getfield 112, 3) := by decide +kernel
theorem dX8_library_65 : decode cX8_library 65 = .ok (.ifCond .eq 7, 3) := by decide +kernel
theorem dX8_library_68 : decode cX8_library 68 = .ok (.iconst 1, 1) := by decide +kernel
theorem dX8_library_69 : decode cX8_library 69 = .ok (.goto 4, 3) := by decide +kernel
theorem dX8_library_72 : decode cX8_library 72 = .ok (.iconst 0, 1) := by decide +kernel
theorem dX8_library_73 : decode cX8_library 73 = .ok (.ireturn, 1) := by decide +kernel
theorem dX8_library_74 : decode cX8_library 74 = .ok (.aload_n 3, 1) := by decide +kernel
theorem dX8_library_75 : decode cX8_library 75 = .ok (.getfield 116, 3) := by decide +kernel
theorem dX8_library_78 : decode cX8_library 78 = .ok (.ireturn, 1) := by decide +kernel
theorem dX8_library_79 : decode cX8_library 79 = .ok (.aload_n 3, 1) := by decide +kernel
theorem dX8_library_80 : decode cX8_library 80 = .ok (.invokevirtual 119, 3) := by decide +kernel
theorem dX8_library_83 : decode cX8_library 83 = .ok (.ireturn, 1) := by decide +kernel
theorem dX8_library_84 : decode cX8_library 84 = .ok (.aload_n 3, 1) := by decide +kernel
theorem dX8_library_85 : decode cX8_library 85 = .ok (.getfield 123, 3) := by decide +kernel
theorem dX8_library_88 : decode cX8_library 88 = .ok (.ireturn, 1) := by decide +kernel
theorem dX8_library_89 : decode cX8_library 89 = .ok (.aload_n 0, 1) := by decide +kernel
theorem dX8_library_90 : decode cX8_library 90 = .ok (.getfield 37, 3) := by decide +kernel
theorem dX8_library_93 : decode cX8_library 93 = .ok (.getfield 126, 3) := by decide +kernel
theorem dX8_library_96 : decode cX8_library 96 = .ok (.iload_n 1, 1) := by decide +kernel
theorem dX8_library_97 : decode cX8_library 97 = .ok (.iaload, 1) := by decide +kernel
theorem dX8_library_98 : decode cX8_library 98 = .ok (.ireturn, 1) := by decide +kernel
theorem dX8_library_99 : decode cX8_library 99 = .ok (.new 63, 3) := by decide +kernel
theorem dX8_library_102 : decode cX8_library 102 = .ok (.dup, 1) := by decide +kernel
theorem dX8_library_103 : decode cX8_library 103 = .ok (.ldc 129, 2) := by decide +kernel
theorem dX8_library_105 : decode cX8_library 105 = .ok (.invokespecial 67, 3) := by decide +kernel
theorem dX8_library_108 : decode cX8_library 108 = .ok (.athrow, 1) := by decide +kernel
theorem dX8_offer_0 : decode cX8_offer 0 = .ok (.aload_n 0, 1) := by decide +kernel
theorem dX8_offer_1 : decode cX8_offer 1 = .ok (.iload_n 1, 1) := by decide +kernel
theorem dX8_offer_2 : decode cX8_offer 2 = .ok (.invokevirtual 100, 3) := by decide +kernel
theorem dX8_offer_5 : decode cX8_offer 5 = .ok (.aload_n 0, 1) := by decide +kernel
theorem dX8_offer_6 : decode cX8_offer 6 = .ok (.iload_n 2, 1) := by decide +kernel
theorem dX8_offer_7 : decode cX8_offer 7 = .ok (.invokevirtual 131, 3) := by decide +kernel
theorem dX8_offer_10 : decode cX8_offer 10 = .ok (.aload_n 0, 1) := by decide +kernel
theorem dX8_offer_11 : decode cX8_offer 11 = .ok (.getfield 30, 3) := by decide +kernel
theorem dX8_offer_14 : decode cX8_offer 14 = .ok (.getfield 103, 3) := by decide +kernel
theorem dX8_offer_17 : decode cX8_offer 17 = .ok (.iload_n 1, 1) := by decide +kernel
theorem dX8_offer_18 : decode cX8_offer 18 = .ok (.aaload, 1) := by decide +kernel
theorem dX8_offer_19 : decode cX8_offer 19 = .ok (.getfield 134, 3) := by decide +kernel
theorem dX8_offer_22 : decode cX8_offer 22 = .ok (.iload_n 2, 1) := by decide +kernel
theorem dX8_offer_23 : decode cX8_offer 23 = .ok (.iaload, 1) := by decide +kernel
theorem dX8_offer_24 : decode cX8_offer 24 = .ok (.ireturn, 1) := by decide +kernel
theorem dX8_candidates_0 : decode cX8_candidates 0 = .ok (.aload_n 0, 1) := by decide +kernel
theorem dX8_candidates_1 : decode cX8_candidates 1 = .ok (.iload_n 1, 1) := by decide +kernel
theorem dX8_candidates_2 : decode cX8_candidates 2 = .ok (.invokevirtual 131, 3) := by decide +kernel
theorem dX8_candidates_5 : decode cX8_candidates 5 = .ok (.aload_n 0, 1) := by decide +kernel
theorem dX8_candidates_6 : decode cX8_candidates 6 = .ok (.getfield 37, 3) := by decide +kernel
theorem dX8_candidates_9 : decode cX8_candidates 9 = .ok (.getfield 137, 3) := by decide +kernel
theorem dX8_candidates_12 : decode cX8_candidates 12 = .ok (.iload_n 1, 1) := by decide +kernel
theorem dX8_candidates_13 : decode cX8_candidates 13 = .ok (.iaload, 1) := by decide +kernel
theorem dX8_candidates_14 : decode cX8_candidates 14 = .ok (.ireturn, 1) := by decide +kernel
theorem dX8_winner_0 : decode cX8_winner 0 = .ok (.aload_n 0, 1) := by decide +kernel
theorem dX8_winner_1 : decode cX8_winner 1 = .ok (.iload_n 1, 1) := by decide +kernel
theorem dX8_winner_2 : decode cX8_winner 2 = .ok (.invokevirtual 131, 3) := by decide +kernel
theorem dX8_winner_5 : decode cX8_winner 5 = .ok (.aload_n 0, 1) := by decide +kernel
theorem dX8_winner_6 : decode cX8_winner 6 = .ok (.getfield 37, 3) := by decide +kernel
theorem dX8_winner_9 : decode cX8_winner 9 = .ok (.getfield 150, 3) := by decide +kernel
theorem dX8_winner_12 : decode cX8_winner 12 = .ok (.iload_n 1, 1) := by decide +kernel
theorem dX8_winner_13 : decode cX8_winner 13 = .ok (.iaload, 1) := by decide +kernel
theorem dX8_winner_14 : decode cX8_winner 14 = .ok (.ireturn, 1) := by decide +kernel
theorem dX8_binding_0 : decode cX8_binding 0 = .ok (.aload_n 0, 1) := by decide +kernel
theorem dX8_binding_1 : decode cX8_binding 1 = .ok (.iload_n 1, 1) := by decide +kernel
theorem dX8_binding_2 : decode cX8_binding 2 = .ok (.invokevirtual 100, 3) := by decide +kernel
theorem dX8_binding_5 : decode cX8_binding 5 = .ok (.aload_n 0, 1) := by decide +kernel
theorem dX8_binding_6 : decode cX8_binding 6 = .ok (.iload_n 2, 1) := by decide +kernel
theorem dX8_binding_7 : decode cX8_binding 7 = .ok (.invokevirtual 131, 3) := by decide +kernel
theorem dX8_binding_10 : decode cX8_binding 10 = .ok (.aload_n 0, 1) := by decide +kernel
theorem dX8_binding_11 : decode cX8_binding 11 = .ok (.getfield 37, 3) := by decide +kernel
theorem dX8_binding_14 : decode cX8_binding 14 = .ok (.getfield 156, 3) := by decide +kernel
theorem dX8_binding_17 : decode cX8_binding 17 = .ok (.iload_n 1, 1) := by decide +kernel
theorem dX8_binding_18 : decode cX8_binding 18 = .ok (.iload_n 2, 1) := by decide +kernel
theorem dX8_binding_19 : decode cX8_binding 19 = .ok (.invokestatic 143, 3) := by decide +kernel
theorem dX8_binding_22 : decode cX8_binding 22 = .ok (.iaload, 1) := by decide +kernel
theorem dX8_binding_23 : decode cX8_binding 23 = .ok (.ireturn, 1) := by decide +kernel
theorem dX8_minority_0 : decode cX8_minority 0 = .ok (.aload_n 0, 1) := by decide +kernel
theorem dX8_minority_1 : decode cX8_minority 1 = .ok (.iload_n 1, 1) := by decide +kernel
theorem dX8_minority_2 : decode cX8_minority 2 = .ok (.invokevirtual 131, 3) := by decide +kernel
theorem dX8_minority_5 : decode cX8_minority 5 = .ok (.aload_n 0, 1) := by decide +kernel
theorem dX8_minority_6 : decode cX8_minority 6 = .ok (.getfield 37, 3) := by decide +kernel
theorem dX8_minority_9 : decode cX8_minority 9 = .ok (.getfield 150, 3) := by decide +kernel
theorem dX8_minority_12 : decode cX8_minority 12 = .ok (.iload_n 1, 1) := by decide +kernel
theorem dX8_minority_13 : decode cX8_minority 13 = .ok (.iaload, 1) := by decide +kernel
theorem dX8_minority_14 : decode cX8_minority 14 = .ok (.istore_n 2, 1) := by decide +kernel
theorem dX8_minority_15 : decode cX8_minority 15 = .ok (.iconst 0, 1) := by decide +kernel
theorem dX8_minority_16 : decode cX8_minority 16 = .ok (.istore_n 3, 1) := by decide +kernel
theorem dX8_minority_17 : decode cX8_minority 17 = .ok (.iconst 0, 1) := by decide +kernel
theorem dX8_minority_18 : decode cX8_minority 18 = .ok (.istore 4, 2) := by decide +kernel
theorem dX8_minority_20 : decode cX8_minority 20 = .ok (.iload 4, 2) := by decide +kernel
theorem dX8_minority_22 : decode cX8_minority 22 = .ok (.aload_n 0, 1) := by decide +kernel
theorem dX8_minority_23 : decode cX8_minority 23 = .ok (.getfield 30, 3) := by decide +kernel
theorem dX8_minority_26 : decode cX8_minority 26 = .ok (.getfield 91, 3) := by decide +kernel
theorem dX8_minority_29 : decode cX8_minority 29 = .ok (.if_icmp .ge 46, 3) := by decide +kernel
theorem dX8_minority_32 : decode cX8_minority 32 = .ok (.aload_n 0, 1) := by decide +kernel
theorem dX8_minority_33 : decode cX8_minority 33 = .ok (.getfield 30, 3) := by decide +kernel
theorem dX8_minority_36 : decode cX8_minority 36 = .ok (.getfield 103, 3) := by decide +kernel
theorem dX8_minority_39 : decode cX8_minority 39 = .ok (.iload 4, 2) := by decide +kernel
theorem dX8_minority_41 : decode cX8_minority 41 = .ok (.aaload, 1) := by decide +kernel
theorem dX8_minority_42 : decode cX8_minority 42 = .ok (.invokevirtual 159, 3) := by decide +kernel
theorem dX8_minority_45 : decode cX8_minority 45 = .ok (.ifCond .eq 24, 3) := by decide +kernel
theorem dX8_minority_48 : decode cX8_minority 48 = .ok (.aload_n 0, 1) := by decide +kernel
theorem dX8_minority_49 : decode cX8_minority 49 = .ok (.getfield 37, 3) := by decide +kernel
theorem dX8_minority_52 : decode cX8_minority 52 = .ok (.getfield 156, 3) := by decide +kernel
theorem dX8_minority_55 : decode cX8_minority 55 = .ok (.iload 4, 2) := by decide +kernel
theorem dX8_minority_57 : decode cX8_minority 57 = .ok (.iload_n 1, 1) := by decide +kernel
theorem dX8_minority_58 : decode cX8_minority 58 = .ok (.invokestatic 143, 3) := by decide +kernel
theorem dX8_minority_61 : decode cX8_minority 61 = .ok (.iaload, 1) := by decide +kernel
theorem dX8_minority_62 : decode cX8_minority 62 = .ok (.iload_n 2, 1) := by decide +kernel
theorem dX8_minority_63 : decode cX8_minority 63 = .ok (.if_icmp .eq 6, 3) := by decide +kernel
theorem dX8_minority_66 : decode cX8_minority 66 = .ok (.iinc 3 1, 3) := by decide +kernel
theorem dX8_minority_69 : decode cX8_minority 69 = .ok (.iinc 4 1, 3) := by decide +kernel
theorem dX8_minority_72 : decode cX8_minority 72 = .ok (.goto (-52), 3) := by decide +kernel
theorem dX8_minority_75 : decode cX8_minority 75 = .ok (.iload_n 3, 1) := by decide +kernel
theorem dX8_minority_76 : decode cX8_minority 76 = .ok (.ireturn, 1) := by decide +kernel
theorem dX8_call_0 : decode cX8_call 0 = .ok (.aload_n 0, 1) := by decide +kernel
theorem dX8_call_1 : decode cX8_call 1 = .ok (.iload_n 1, 1) := by decide +kernel
theorem dX8_call_2 : decode cX8_call 2 = .ok (.invokevirtual 100, 3) := by decide +kernel
theorem dX8_call_5 : decode cX8_call 5 = .ok (.aload_n 0, 1) := by decide +kernel
theorem dX8_call_6 : decode cX8_call 6 = .ok (.iload_n 2, 1) := by decide +kernel
theorem dX8_call_7 : decode cX8_call 7 = .ok (.invokevirtual 131, 3) := by decide +kernel
theorem dX8_call_10 : decode cX8_call 10 = .ok (.aload_n 0, 1) := by decide +kernel
theorem dX8_call_11 : decode cX8_call 11 = .ok (.getfield 44, 3) := by decide +kernel
theorem dX8_call_14 : decode cX8_call 14 = .ok (.aload_n 0, 1) := by decide +kernel
theorem dX8_call_15 : decode cX8_call 15 = .ok (.getfield 30, 3) := by decide +kernel
theorem dX8_call_18 : decode cX8_call 18 = .ok (.aload_n 0, 1) := by decide +kernel
theorem dX8_call_19 : decode cX8_call 19 = .ok (.getfield 37, 3) := by decide +kernel
theorem dX8_call_22 : decode cX8_call 22 = .ok (.iload_n 1, 1) := by decide +kernel
theorem dX8_call_23 : decode cX8_call 23 = .ok (.iload_n 2, 1) := by decide +kernel
theorem dX8_call_24 : decode cX8_call 24 = .ok (.invokevirtual 163, 3) := by decide +kernel
theorem dX8_call_27 : decode cX8_call 27 = .ok (.aload_n 0, 1) := by decide +kernel
theorem dX8_call_28 : decode cX8_call 28 = .ok (.getfield 44, 3) := by decide +kernel
theorem dX8_call_31 : decode cX8_call 31 = .ok (.getfield 167, 3) := by decide +kernel
theorem dX8_call_34 : decode cX8_call 34 = .ok (.ireturn, 1) := by decide +kernel
theorem dX8_unload_0 : decode cX8_unload 0 = .ok (.aload_n 0, 1) := by decide +kernel
theorem dX8_unload_1 : decode cX8_unload 1 = .ok (.iload_n 1, 1) := by decide +kernel
theorem dX8_unload_2 : decode cX8_unload 2 = .ok (.invokevirtual 100, 3) := by decide +kernel
theorem dX8_unload_5 : decode cX8_unload 5 = .ok (.aload_n 0, 1) := by decide +kernel
theorem dX8_unload_6 : decode cX8_unload 6 = .ok (.getfield 30, 3) := by decide +kernel
theorem dX8_unload_9 : decode cX8_unload 9 = .ok (.getfield 103, 3) := by decide +kernel
theorem dX8_unload_12 : decode cX8_unload 12 = .ok (.iload_n 1, 1) := by decide +kernel
theorem dX8_unload_13 : decode cX8_unload 13 = .ok (.aaload, 1) := by decide +kernel
theorem dX8_unload_14 : decode cX8_unload 14 = .ok (.invokevirtual 159, 3) := by decide +kernel
theorem dX8_unload_17 : decode cX8_unload 17 = .ok (.ifCond .ne 13, 3) := by decide +kernel
theorem dX8_unload_20 : decode cX8_unload 20 = .ok (.new 173, 3) := by decide +kernel
theorem dX8_unload_23 : decode cX8_unload 23 = .ok (.dup, 1) := by decide +kernel
theorem dX8_unload_24 : decode cX8_unload 24 = .ok (.ldc 175, 2) := by decide +kernel
theorem dX8_unload_26 : decode cX8_unload 26 = .ok (.invokespecial 177, 3) := by decide +kernel
theorem dX8_unload_29 : decode cX8_unload 29 = .ok (.athrow, 1) := by decide +kernel
theorem dX8_unload_30 : decode cX8_unload 30 = .ok (.aload_n 0, 1) := by decide +kernel
theorem dX8_unload_31 : decode cX8_unload 31 = .ok (.invokevirtual 78, 3) := by decide +kernel
theorem dX8_unload_34 : decode cX8_unload 34 = .ok (.aload_n 0, 1) := by decide +kernel
theorem dX8_unload_35 : decode cX8_unload 35 = .ok (.getfield 30, 3) := by decide +kernel
theorem dX8_unload_38 : decode cX8_unload 38 = .ok (.iload_n 1, 1) := by decide +kernel
theorem dX8_unload_39 : decode cX8_unload 39 = .ok (.invokevirtual 178, 3) := by decide +kernel
theorem dX8_unload_42 : decode cX8_unload 42 = .ok (.aload_n 0, 1) := by decide +kernel
theorem dX8_unload_43 : decode cX8_unload 43 = .ok (.getfield 37, 3) := by decide +kernel
theorem dX8_unload_46 : decode cX8_unload 46 = .ok (.aload_n 0, 1) := by decide +kernel
theorem dX8_unload_47 : decode cX8_unload 47 = .ok (.getfield 30, 3) := by decide +kernel
theorem dX8_unload_50 : decode cX8_unload 50 = .ok (.invokevirtual 88, 3) := by decide +kernel
theorem dX8_unload_53 : decode cX8_unload 53 = .ok (.aload_n 0, 1) := by decide +kernel
theorem dX8_unload_54 : decode cX8_unload 54 = .ok (.invokevirtual 181, 3) := by decide +kernel
theorem dX8_unload_57 : decode cX8_unload 57 = .ok (.ireturn, 1) := by decide +kernel
theorem dX8_reload_0 : decode cX8_reload 0 = .ok (.aload_n 0, 1) := by decide +kernel
theorem dX8_reload_1 : decode cX8_reload 1 = .ok (.iload_n 1, 1) := by decide +kernel
theorem dX8_reload_2 : decode cX8_reload 2 = .ok (.invokevirtual 100, 3) := by decide +kernel
theorem dX8_reload_5 : decode cX8_reload 5 = .ok (.aload_n 0, 1) := by decide +kernel
theorem dX8_reload_6 : decode cX8_reload 6 = .ok (.getfield 30, 3) := by decide +kernel
theorem dX8_reload_9 : decode cX8_reload 9 = .ok (.getfield 103, 3) := by decide +kernel
theorem dX8_reload_12 : decode cX8_reload 12 = .ok (.iload_n 1, 1) := by decide +kernel
theorem dX8_reload_13 : decode cX8_reload 13 = .ok (.aaload, 1) := by decide +kernel
theorem dX8_reload_14 : decode cX8_reload 14 = .ok (.invokevirtual 159, 3) := by decide +kernel
theorem dX8_reload_17 : decode cX8_reload 17 = .ok (.ifCond .eq 13, 3) := by decide +kernel
theorem dX8_reload_20 : decode cX8_reload 20 = .ok (.new 173, 3) := by decide +kernel
theorem dX8_reload_23 : decode cX8_reload 23 = .ok (.dup, 1) := by decide +kernel
theorem dX8_reload_24 : decode cX8_reload 24 = .ok (.ldc 184, 2) := by decide +kernel
theorem dX8_reload_26 : decode cX8_reload 26 = .ok (.invokespecial 177, 3) := by decide +kernel
theorem dX8_reload_29 : decode cX8_reload 29 = .ok (.athrow, 1) := by decide +kernel
theorem dX8_reload_30 : decode cX8_reload 30 = .ok (.aload_n 0, 1) := by decide +kernel
theorem dX8_reload_31 : decode cX8_reload 31 = .ok (.invokevirtual 78, 3) := by decide +kernel
theorem dX8_reload_34 : decode cX8_reload 34 = .ok (.aload_n 0, 1) := by decide +kernel
theorem dX8_reload_35 : decode cX8_reload 35 = .ok (.getfield 30, 3) := by decide +kernel
theorem dX8_reload_38 : decode cX8_reload 38 = .ok (.iload_n 1, 1) := by decide +kernel
theorem dX8_reload_39 : decode cX8_reload 39 = .ok (.invokevirtual 186, 3) := by decide +kernel
theorem dX8_reload_42 : decode cX8_reload 42 = .ok (.aload_n 0, 1) := by decide +kernel
theorem dX8_reload_43 : decode cX8_reload 43 = .ok (.getfield 37, 3) := by decide +kernel
theorem dX8_reload_46 : decode cX8_reload 46 = .ok (.aload_n 0, 1) := by decide +kernel
theorem dX8_reload_47 : decode cX8_reload 47 = .ok (.getfield 30, 3) := by decide +kernel
theorem dX8_reload_50 : decode cX8_reload 50 = .ok (.invokevirtual 88, 3) := by decide +kernel
theorem dX8_reload_53 : decode cX8_reload 53 = .ok (.aload_n 0, 1) := by decide +kernel
theorem dX8_reload_54 : decode cX8_reload 54 = .ok (.invokevirtual 181, 3) := by decide +kernel
theorem dX8_reload_57 : decode cX8_reload 57 = .ok (.aload_n 0, 1) := by decide +kernel
theorem dX8_reload_58 : decode cX8_reload 58 = .ok (.iload_n 1, 1) := by decide +kernel
theorem dX8_reload_59 : decode cX8_reload 59 = .ok (.invokevirtual 189, 3) := by decide +kernel
theorem dX8_reload_62 : decode cX8_reload 62 = .ok (.isub, 1) := by decide +kernel
theorem dX8_reload_63 : decode cX8_reload 63 = .ok (.ireturn, 1) := by decide +kernel
theorem dX8_offerValue_0 : decode cX8_offerValue 0 = .ok (.aload_n 0, 1) := by decide +kernel
theorem dX8_offerValue_1 : decode cX8_offerValue 1 = .ok (.iload_n 1, 1) := by decide +kernel
theorem dX8_offerValue_2 : decode cX8_offerValue 2 = .ok (.invokevirtual 100, 3) := by decide +kernel
theorem dX8_offerValue_5 : decode cX8_offerValue 5 = .ok (.aload_n 0, 1) := by decide +kernel
theorem dX8_offerValue_6 : decode cX8_offerValue 6 = .ok (.iload_n 2, 1) := by decide +kernel
theorem dX8_offerValue_7 : decode cX8_offerValue 7 = .ok (.invokevirtual 131, 3) := by decide +kernel
theorem dX8_offerValue_10 : decode cX8_offerValue 10 = .ok (.iload_n 3, 1) := by decide +kernel
theorem dX8_offerValue_11 : decode cX8_offerValue 11 = .ok (.ifCond .lt 10, 3) := by decide +kernel
theorem dX8_offerValue_14 : decode cX8_offerValue 14 = .ok (.iload_n 3, 1) := by decide +kernel
theorem dX8_offerValue_15 : decode cX8_offerValue 15 = .ok (.sipush 9999, 3) := by decide +kernel
theorem dX8_offerValue_18 : decode cX8_offerValue 18 = .ok (.if_icmp .le 13, 3) := by decide +kernel
theorem dX8_offerValue_21 : decode cX8_offerValue 21 = .ok (.new 63, 3) := by decide +kernel
theorem dX8_offerValue_24 : decode cX8_offerValue 24 = .ok (.dup, 1) := by decide +kernel
theorem dX8_offerValue_25 : decode cX8_offerValue 25 = .ok (.ldc 193, 2) := by decide +kernel
theorem dX8_offerValue_27 : decode cX8_offerValue 27 = .ok (.invokespecial 67, 3) := by decide +kernel
theorem dX8_offerValue_30 : decode cX8_offerValue 30 = .ok (.athrow, 1) := by decide +kernel
theorem dX8_offerValue_31 : decode cX8_offerValue 31 = .ok (.aload_n 0, 1) := by decide +kernel
theorem dX8_offerValue_32 : decode cX8_offerValue 32 = .ok (.iload_n 1, 1) := by decide +kernel
theorem dX8_offerValue_33 : decode cX8_offerValue 33 = .ok (.iload_n 2, 1) := by decide +kernel
theorem dX8_offerValue_34 : decode cX8_offerValue 34 = .ok (.iload_n 3, 1) := by decide +kernel
theorem dX8_offerValue_35 : decode cX8_offerValue 35 = .ok (.invokevirtual 195, 3) := by decide +kernel
theorem dX8_offerValue_38 : decode cX8_offerValue 38 = .ok (.ireturn, 1) := by decide +kernel
theorem dX8_offerForward_0 : decode cX8_offerForward 0 = .ok (.aload_n 0, 1) := by decide +kernel
theorem dX8_offerForward_1 : decode cX8_offerForward 1 = .ok (.iload_n 1, 1) := by decide +kernel
theorem dX8_offerForward_2 : decode cX8_offerForward 2 = .ok (.invokevirtual 100, 3) := by decide +kernel
theorem dX8_offerForward_5 : decode cX8_offerForward 5 = .ok (.aload_n 0, 1) := by decide +kernel
theorem dX8_offerForward_6 : decode cX8_offerForward 6 = .ok (.iload_n 2, 1) := by decide +kernel
theorem dX8_offerForward_7 : decode cX8_offerForward 7 = .ok (.invokevirtual 131, 3) := by decide +kernel
theorem dX8_offerForward_10 : decode cX8_offerForward 10 = .ok (.aload_n 0, 1) := by decide +kernel
theorem dX8_offerForward_11 : decode cX8_offerForward 11 = .ok (.iload_n 3, 1) := by decide +kernel
theorem dX8_offerForward_12 : decode cX8_offerForward 12 = .ok (.invokevirtual 131, 3) := by decide +kernel
theorem dX8_offerForward_15 : decode cX8_offerForward 15 = .ok (.aload_n 0, 1) := by decide +kernel
theorem dX8_offerForward_16 : decode cX8_offerForward 16 = .ok (.iload_n 1, 1) := by decide +kernel
theorem dX8_offerForward_17 : decode cX8_offerForward 17 = .ok (.iload_n 2, 1) := by decide +kernel
theorem dX8_offerForward_18 : decode cX8_offerForward 18 = .ok (.bipush (-2), 2) := by decide +kernel
theorem dX8_offerForward_20 : decode cX8_offerForward 20 = .ok (.iload_n 3, 1) := by decide +kernel
theorem dX8_offerForward_21 : decode cX8_offerForward 21 = .ok (.isub, 1) := by decide +kernel
theorem dX8_offerForward_22 : decode cX8_offerForward 22 = .ok (.invokevirtual 195, 3) := by decide +kernel
theorem dX8_offerForward_25 : decode cX8_offerForward 25 = .ok (.ireturn, 1) := by decide +kernel
theorem dX8_withdraw_0 : decode cX8_withdraw 0 = .ok (.aload_n 0, 1) := by decide +kernel
theorem dX8_withdraw_1 : decode cX8_withdraw 1 = .ok (.iload_n 1, 1) := by decide +kernel
theorem dX8_withdraw_2 : decode cX8_withdraw 2 = .ok (.invokevirtual 100, 3) := by decide +kernel
theorem dX8_withdraw_5 : decode cX8_withdraw 5 = .ok (.aload_n 0, 1) := by decide +kernel
theorem dX8_withdraw_6 : decode cX8_withdraw 6 = .ok (.iload_n 2, 1) := by decide +kernel
theorem dX8_withdraw_7 : decode cX8_withdraw 7 = .ok (.invokevirtual 131, 3) := by decide +kernel
theorem dX8_withdraw_10 : decode cX8_withdraw 10 = .ok (.aload_n 0, 1) := by decide +kernel
theorem dX8_withdraw_11 : decode cX8_withdraw 11 = .ok (.getfield 30, 3) := by decide +kernel
theorem dX8_withdraw_14 : decode cX8_withdraw 14 = .ok (.getfield 103, 3) := by decide +kernel
theorem dX8_withdraw_17 : decode cX8_withdraw 17 = .ok (.iload_n 1, 1) := by decide +kernel
theorem dX8_withdraw_18 : decode cX8_withdraw 18 = .ok (.aaload, 1) := by decide +kernel
theorem dX8_withdraw_19 : decode cX8_withdraw 19 = .ok (.iload_n 2, 1) := by decide +kernel
theorem dX8_withdraw_20 : decode cX8_withdraw 20 = .ok (.invokevirtual 199, 3) := by decide +kernel
theorem dX8_withdraw_23 : decode cX8_withdraw 23 = .ok (.ifCond .ne 13, 3) := by decide +kernel
theorem dX8_withdraw_26 : decode cX8_withdraw 26 = .ok (.new 173, 3) := by decide +kernel
theorem dX8_withdraw_29 : decode cX8_withdraw 29 = .ok (.dup, 1) := by decide +kernel
theorem dX8_withdraw_30 : decode cX8_withdraw 30 = .ok (.ldc 203, 2) := by decide +kernel
theorem dX8_withdraw_32 : decode cX8_withdraw 32 = .ok (.invokespecial 177, 3) := by decide +kernel
theorem dX8_withdraw_35 : decode cX8_withdraw 35 = .ok (.athrow, 1) := by decide +kernel
theorem dX8_withdraw_36 : decode cX8_withdraw 36 = .ok (.aload_n 0, 1) := by decide +kernel
theorem dX8_withdraw_37 : decode cX8_withdraw 37 = .ok (.iload_n 1, 1) := by decide +kernel
theorem dX8_withdraw_38 : decode cX8_withdraw 38 = .ok (.iload_n 2, 1) := by decide +kernel
theorem dX8_withdraw_39 : decode cX8_withdraw 39 = .ok (.iconst (-1), 1) := by decide +kernel
theorem dX8_withdraw_40 : decode cX8_withdraw 40 = .ok (.invokevirtual 195, 3) := by decide +kernel
theorem dX8_withdraw_43 : decode cX8_withdraw 43 = .ok (.ireturn, 1) := by decide +kernel
theorem dX8_setTrust_0 : decode cX8_setTrust 0 = .ok (.aload_n 0, 1) := by decide +kernel
theorem dX8_setTrust_1 : decode cX8_setTrust 1 = .ok (.iload_n 1, 1) := by decide +kernel
theorem dX8_setTrust_2 : decode cX8_setTrust 2 = .ok (.invokevirtual 100, 3) := by decide +kernel
theorem dX8_setTrust_5 : decode cX8_setTrust 5 = .ok (.iload_n 2, 1) := by decide +kernel
theorem dX8_setTrust_6 : decode cX8_setTrust 6 = .ok (.ifCond .lt 10, 3) := by decide +kernel
theorem dX8_setTrust_9 : decode cX8_setTrust 9 = .ok (.iload_n 2, 1) := by decide +kernel
theorem dX8_setTrust_10 : decode cX8_setTrust 10 = .ok (.sipush 999, 3) := by decide +kernel
theorem dX8_setTrust_13 : decode cX8_setTrust 13 = .ok (.if_icmp .le 13, 3) := by decide +kernel
theorem dX8_setTrust_16 : decode cX8_setTrust 16 = .ok (.new 63, 3) := by decide +kernel
theorem dX8_setTrust_19 : decode cX8_setTrust 19 = .ok (.dup, 1) := by decide +kernel
theorem dX8_setTrust_20 : decode cX8_setTrust 20 = .ok (.ldc 205, 2) := by decide +kernel
theorem dX8_setTrust_22 : decode cX8_setTrust 22 = .ok (.invokespecial 67, 3) := by decide +kernel
theorem dX8_setTrust_25 : decode cX8_setTrust 25 = .ok (.athrow, 1) := by decide +kernel
theorem dX8_setTrust_26 : decode cX8_setTrust 26 = .ok (.aload_n 0, 1) := by decide +kernel
theorem dX8_setTrust_27 : decode cX8_setTrust 27 = .ok (.invokevirtual 78, 3) := by decide +kernel
theorem dX8_setTrust_30 : decode cX8_setTrust 30 = .ok (.aload_n 0, 1) := by decide +kernel
theorem dX8_setTrust_31 : decode cX8_setTrust 31 = .ok (.getfield 30, 3) := by decide +kernel
theorem dX8_setTrust_34 : decode cX8_setTrust 34 = .ok (.getfield 103, 3) := by decide +kernel
theorem dX8_setTrust_37 : decode cX8_setTrust 37 = .ok (.iload_n 1, 1) := by decide +kernel
theorem dX8_setTrust_38 : decode cX8_setTrust 38 = .ok (.aaload, 1) := by decide +kernel
theorem dX8_setTrust_39 : decode cX8_setTrust 39 = .ok (.getfield 107, 3) := by decide +kernel
theorem dX8_setTrust_42 : decode cX8_setTrust 42 = .ok (.istore_n 3, 1) := by decide +kernel
theorem dX8_setTrust_43 : decode cX8_setTrust 43 = .ok (.aload_n 0, 1) := by decide +kernel
theorem dX8_setTrust_44 : decode cX8_setTrust 44 = .ok (.getfield 30, 3) := by decide +kernel
theorem dX8_setTrust_47 : decode cX8_setTrust 47 = .ok (.getfield 103, 3) := by decide +kernel
theorem dX8_setTrust_50 : decode cX8_setTrust 50 = .ok (.iload_n 1, 1) := by decide +kernel
theorem dX8_setTrust_51 : decode cX8_setTrust 51 = .ok (.aaload, 1) := by decide +kernel
theorem dX8_setTrust_52 : decode cX8_setTrust 52 = .ok (.iload_n 2, 1) := by decide +kernel
theorem dX8_setTrust_53 : decode cX8_setTrust 53 = .ok (.putfield 107, 3) := by decide +kernel
theorem dX8_setTrust_56 : decode cX8_setTrust 56 = .ok (.aload_n 0, 1) := by decide +kernel
theorem dX8_setTrust_57 : decode cX8_setTrust 57 = .ok (.getfield 37, 3) := by decide +kernel
theorem dX8_setTrust_60 : decode cX8_setTrust 60 = .ok (.aload_n 0, 1) := by decide +kernel
theorem dX8_setTrust_61 : decode cX8_setTrust 61 = .ok (.getfield 30, 3) := by decide +kernel
theorem dX8_setTrust_64 : decode cX8_setTrust 64 = .ok (.invokevirtual 88, 3) := by decide +kernel
theorem dX8_setTrust_67 : decode cX8_setTrust 67 = .ok (.iload_n 3, 1) := by decide +kernel
theorem dX8_setTrust_68 : decode cX8_setTrust 68 = .ok (.ireturn, 1) := by decide +kernel
theorem dX8_setKeeps_0 : decode cX8_setKeeps 0 = .ok (.aload_n 0, 1) := by decide +kernel
theorem dX8_setKeeps_1 : decode cX8_setKeeps 1 = .ok (.iload_n 1, 1) := by decide +kernel
theorem dX8_setKeeps_2 : decode cX8_setKeeps 2 = .ok (.invokevirtual 100, 3) := by decide +kernel
theorem dX8_setKeeps_5 : decode cX8_setKeeps 5 = .ok (.aload_n 0, 1) := by decide +kernel
theorem dX8_setKeeps_6 : decode cX8_setKeeps 6 = .ok (.invokevirtual 78, 3) := by decide +kernel
theorem dX8_setKeeps_9 : decode cX8_setKeeps 9 = .ok (.aload_n 0, 1) := by decide +kernel
theorem dX8_setKeeps_10 : decode cX8_setKeeps 10 = .ok (.getfield 30, 3) := by decide +kernel
theorem dX8_setKeeps_13 : decode cX8_setKeeps 13 = .ok (.getfield 103, 3) := by decide +kernel
theorem dX8_setKeeps_16 : decode cX8_setKeeps 16 = .ok (.iload_n 1, 1) := by decide +kernel
theorem dX8_setKeeps_17 : decode cX8_setKeeps 17 = .ok (.aaload, 1) := by decide +kernel
theorem dX8_setKeeps_18 : decode cX8_setKeeps 18 = .ok (.iload_n 2, 1) := by decide +kernel
theorem dX8_setKeeps_19 : decode cX8_setKeeps 19 = .ok (.putfield 112, 3) := by decide +kernel
theorem dX8_setKeeps_22 : decode cX8_setKeeps 22 = .ok (.aload_n 0, 1) := by decide +kernel
theorem dX8_setKeeps_23 : decode cX8_setKeeps 23 = .ok (.getfield 37, 3) := by decide +kernel
theorem dX8_setKeeps_26 : decode cX8_setKeeps 26 = .ok (.aload_n 0, 1) := by decide +kernel
theorem dX8_setKeeps_27 : decode cX8_setKeeps 27 = .ok (.getfield 30, 3) := by decide +kernel
theorem dX8_setKeeps_30 : decode cX8_setKeeps 30 = .ok (.invokevirtual 88, 3) := by decide +kernel
theorem dX8_setKeeps_33 : decode cX8_setKeeps 33 = .ok (.aload_n 0, 1) := by decide +kernel
theorem dX8_setKeeps_34 : decode cX8_setKeeps 34 = .ok (.iload_n 1, 1) := by decide +kernel
theorem dX8_setKeeps_35 : decode cX8_setKeeps 35 = .ok (.invokevirtual 189, 3) := by decide +kernel
theorem dX8_setKeeps_38 : decode cX8_setKeeps 38 = .ok (.ireturn, 1) := by decide +kernel
theorem dX8_setShare_0 : decode cX8_setShare 0 = .ok (.iload_n 1, 1) := by decide +kernel
theorem dX8_setShare_1 : decode cX8_setShare 1 = .ok (.ifCond .lt 9, 3) := by decide +kernel
theorem dX8_setShare_4 : decode cX8_setShare 4 = .ok (.iload_n 1, 1) := by decide +kernel
theorem dX8_setShare_5 : decode cX8_setShare 5 = .ok (.bipush 100, 2) := by decide +kernel
theorem dX8_setShare_7 : decode cX8_setShare 7 = .ok (.if_icmp .le 13, 3) := by decide +kernel
theorem dX8_setShare_10 : decode cX8_setShare 10 = .ok (.new 63, 3) := by decide +kernel
theorem dX8_setShare_13 : decode cX8_setShare 13 = .ok (.dup, 1) := by decide +kernel
theorem dX8_setShare_14 : decode cX8_setShare 14 = .ok (.ldc 207, 2) := by decide +kernel
theorem dX8_setShare_16 : decode cX8_setShare 16 = .ok (.invokespecial 67, 3) := by decide +kernel
theorem dX8_setShare_19 : decode cX8_setShare 19 = .ok (.athrow, 1) := by decide +kernel
theorem dX8_setShare_20 : decode cX8_setShare 20 = .ok (.aload_n 0, 1) := by decide +kernel
theorem dX8_setShare_21 : decode cX8_setShare 21 = .ok (.invokevirtual 78, 3) := by decide +kernel
theorem dX8_setShare_24 : decode cX8_setShare 24 = .ok (.aload_n 0, 1) := by decide +kernel
theorem dX8_setShare_25 : decode cX8_setShare 25 = .ok (.getfield 30, 3) := by decide +kernel
theorem dX8_setShare_28 : decode cX8_setShare 28 = .ok (.iload_n 1, 1) := by decide +kernel
theorem dX8_setShare_29 : decode cX8_setShare 29 = .ok (.putfield 97, 3) := by decide +kernel
theorem dX8_setShare_32 : decode cX8_setShare 32 = .ok (.aload_n 0, 1) := by decide +kernel
theorem dX8_setShare_33 : decode cX8_setShare 33 = .ok (.getfield 37, 3) := by decide +kernel
theorem dX8_setShare_36 : decode cX8_setShare 36 = .ok (.aload_n 0, 1) := by decide +kernel
theorem dX8_setShare_37 : decode cX8_setShare 37 = .ok (.getfield 30, 3) := by decide +kernel
theorem dX8_setShare_40 : decode cX8_setShare 40 = .ok (.invokevirtual 88, 3) := by decide +kernel
theorem dX8_setShare_43 : decode cX8_setShare 43 = .ok (.aload_n 0, 1) := by decide +kernel
theorem dX8_setShare_44 : decode cX8_setShare 44 = .ok (.invokevirtual 181, 3) := by decide +kernel
theorem dX8_setShare_47 : decode cX8_setShare 47 = .ok (.ireturn, 1) := by decide +kernel
theorem dX8_undo_0 : decode cX8_undo 0 = .ok (.aload_n 0, 1) := by decide +kernel
theorem dX8_undo_1 : decode cX8_undo 1 = .ok (.getfield 51, 3) := by decide +kernel
theorem dX8_undo_4 : decode cX8_undo 4 = .ok (.aload_n 0, 1) := by decide +kernel
theorem dX8_undo_5 : decode cX8_undo 5 = .ok (.getfield 30, 3) := by decide +kernel
theorem dX8_undo_8 : decode cX8_undo 8 = .ok (.invokevirtual 209, 3) := by decide +kernel
theorem dX8_undo_11 : decode cX8_undo 11 = .ok (.ifCond .ne 5, 3) := by decide +kernel
theorem dX8_undo_14 : decode cX8_undo 14 = .ok (.iconst (-1), 1) := by decide +kernel
theorem dX8_undo_15 : decode cX8_undo 15 = .ok (.ireturn, 1) := by decide +kernel
theorem dX8_undo_16 : decode cX8_undo 16 = .ok (.aload_n 0, 1) := by decide +kernel
theorem dX8_undo_17 : decode cX8_undo 17 = .ok (.getfield 37, 3) := by decide +kernel
theorem dX8_undo_20 : decode cX8_undo 20 = .ok (.aload_n 0, 1) := by decide +kernel
theorem dX8_undo_21 : decode cX8_undo 21 = .ok (.getfield 30, 3) := by decide +kernel
theorem dX8_undo_24 : decode cX8_undo 24 = .ok (.invokevirtual 88, 3) := by decide +kernel
theorem dX8_undo_27 : decode cX8_undo 27 = .ok (.aload_n 0, 1) := by decide +kernel
theorem dX8_undo_28 : decode cX8_undo 28 = .ok (.getfield 51, 3) := by decide +kernel
theorem dX8_undo_31 : decode cX8_undo 31 = .ok (.getfield 213, 3) := by decide +kernel
theorem dX8_undo_34 : decode cX8_undo 34 = .ok (.ireturn, 1) := by decide +kernel
theorem dX8_checksum_0 : decode cX8_checksum 0 = .ok (.aload_n 0, 1) := by decide +kernel
theorem dX8_checksum_1 : decode cX8_checksum 1 = .ok (.invokevirtual 216, 3) := by decide +kernel
theorem dX8_checksum_4 : decode cX8_checksum 4 = .ok (.i2l, 1) := by decide +kernel
theorem dX8_checksum_5 : decode cX8_checksum 5 = .ok (.lstore_n 1, 1) := by decide +kernel
theorem dX8_checksum_6 : decode cX8_checksum 6 = .ok (.iconst 0, 1) := by decide +kernel
theorem dX8_checksum_7 : decode cX8_checksum 7 = .ok (.istore_n 3, 1) := by decide +kernel
theorem dX8_checksum_8 : decode cX8_checksum 8 = .ok (.iload_n 3, 1) := by decide +kernel
theorem dX8_checksum_9 : decode cX8_checksum 9 = .ok (.aload_n 0, 1) := by decide +kernel
theorem dX8_checksum_10 : decode cX8_checksum 10 = .ok (.getfield 30, 3) := by decide +kernel
theorem dX8_checksum_13 : decode cX8_checksum 13 = .ok (.getfield 91, 3) := by decide +kernel
theorem dX8_checksum_16 : decode cX8_checksum 16 = .ok (.if_icmp .ge 105, 3) := by decide +kernel
theorem dX8_checksum_19 : decode cX8_checksum 19 = .ok (.iconst 0, 1) := by decide +kernel
theorem dX8_checksum_20 : decode cX8_checksum 20 = .ok (.istore 4, 2) := by decide +kernel
theorem dX8_checksum_22 : decode cX8_checksum 22 = .ok (.iload 4, 2) := by decide +kernel
theorem dX8_checksum_24 : decode cX8_checksum 24 = .ok (.iconst 5, 1) := by decide +kernel
theorem dX8_checksum_25 : decode cX8_checksum 25 = .ok (.if_icmp .gt 24, 3) := by decide +kernel
theorem dX8_checksum_28 : decode cX8_checksum 28 = .ok (.ldc2_w 218, 3) := by decide +kernel
theorem dX8_checksum_31 : decode cX8_checksum 31 = .ok (.lload_n 1, 1) := by decide +kernel
theorem dX8_checksum_32 : decode cX8_checksum 32 = .ok (.lmul, 1) := by decide +kernel
theorem dX8_checksum_33 : decode cX8_checksum 33 = .ok (.aload_n 0, 1) := by decide +kernel
theorem dX8_checksum_34 : decode cX8_checksum 34 = .ok (.iload_n 3, 1) := by decide +kernel
theorem dX8_checksum_35 : decode cX8_checksum 35 = .ok (.iload 4, 2) := by decide +kernel
theorem dX8_checksum_37 : decode cX8_checksum 37 = .ok (.invokevirtual 220, 3) := by decide +kernel
theorem dX8_checksum_40 : decode cX8_checksum 40 = .ok (.i2l, 1) := by decide +kernel
theorem dX8_checksum_41 : decode cX8_checksum 41 = .ok (.ladd, 1) := by decide +kernel
theorem dX8_checksum_42 : decode cX8_checksum 42 = .ok (.lstore_n 1, 1) := by decide +kernel
theorem dX8_checksum_43 : decode cX8_checksum 43 = .ok (.iinc 4 1, 3) := by decide +kernel
theorem dX8_checksum_46 : decode cX8_checksum 46 = .ok (.goto (-24), 3) := by decide +kernel
theorem dX8_checksum_49 : decode cX8_checksum 49 = .ok (.iconst 0, 1) := by decide +kernel
theorem dX8_checksum_50 : decode cX8_checksum 50 = .ok (.istore 4, 2) := by decide +kernel
theorem dX8_checksum_52 : decode cX8_checksum 52 = .ok (.iload 4, 2) := by decide +kernel
theorem dX8_checksum_54 : decode cX8_checksum 54 = .ok (.aload_n 0, 1) := by decide +kernel
theorem dX8_checksum_55 : decode cX8_checksum 55 = .ok (.getfield 30, 3) := by decide +kernel
theorem dX8_checksum_58 : decode cX8_checksum 58 = .ok (.getfield 94, 3) := by decide +kernel
theorem dX8_checksum_61 : decode cX8_checksum 61 = .ok (.if_icmp .ge 54, 3) := by decide +kernel
theorem dX8_checksum_64 : decode cX8_checksum 64 = .ok (.ldc2_w 218, 3) := by decide +kernel
theorem dX8_checksum_67 : decode cX8_checksum 67 = .ok (.lload_n 1, 1) := by decide +kernel
theorem dX8_checksum_68 : decode cX8_checksum 68 = .ok (.lmul, 1) := by decide +kernel
theorem dX8_checksum_69 : decode cX8_checksum 69 = .ok (.aload_n 0, 1) := by decide +kernel
theorem dX8_checksum_70 : decode cX8_checksum 70 = .ok (.iload_n 3, 1) := by decide +kernel
theorem dX8_checksum_71 : decode cX8_checksum 71 = .ok (.iload 4, 2) := by decide +kernel
theorem dX8_checksum_73 : decode cX8_checksum 73 = .ok (.invokevirtual 223, 3) := by decide +kernel
theorem dX8_checksum_76 : decode cX8_checksum 76 = .ok (.i2l, 1) := by decide +kernel
theorem dX8_checksum_77 : decode cX8_checksum 77 = .ok (.ladd, 1) := by decide +kernel
theorem dX8_checksum_78 : decode cX8_checksum 78 = .ok (.lstore_n 1, 1) := by decide +kernel
theorem dX8_checksum_79 : decode cX8_checksum 79 = .ok (.ldc2_w 218, 3) := by decide +kernel
theorem dX8_checksum_82 : decode cX8_checksum 82 = .ok (.lload_n 1, 1) := by decide +kernel
theorem dX8_checksum_83 : decode cX8_checksum 83 = .ok (.lmul, 1) := by decide +kernel
theorem dX8_checksum_84 : decode cX8_checksum 84 = .ok (.aload_n 0, 1) := by decide +kernel
theorem dX8_checksum_85 : decode cX8_checksum 85 = .ok (.iload_n 3, 1) := by decide +kernel
theorem dX8_checksum_86 : decode cX8_checksum 86 = .ok (.iload 4, 2) := by decide +kernel
theorem dX8_checksum_88 : decode cX8_checksum 88 = .ok (.invokevirtual 226, 3) := by decide +kernel
theorem dX8_checksum_91 : decode cX8_checksum 91 = .ok (.i2l, 1) := by decide +kernel
theorem dX8_checksum_92 : decode cX8_checksum 92 = .ok (.ladd, 1) := by decide +kernel
theorem dX8_checksum_93 : decode cX8_checksum 93 = .ok (.lstore_n 1, 1) := by decide +kernel
theorem dX8_checksum_94 : decode cX8_checksum 94 = .ok (.ldc2_w 218, 3) := by decide +kernel
theorem dX8_checksum_97 : decode cX8_checksum 97 = .ok (.lload_n 1, 1) := by decide +kernel
theorem dX8_checksum_98 : decode cX8_checksum 98 = .ok (.lmul, 1) := by decide +kernel
theorem dX8_checksum_99 : decode cX8_checksum 99 = .ok (.aload_n 0, 1) := by decide +kernel
theorem dX8_checksum_100 : decode cX8_checksum 100 = .ok (.iload_n 3, 1) := by decide +kernel
theorem dX8_checksum_101 : decode cX8_checksum 101 = .ok (.iload 4, 2) := by decide +kernel
theorem dX8_checksum_103 : decode cX8_checksum 103 = .ok (.invokevirtual 229, 3) := by decide +kernel
theorem dX8_checksum_106 : decode cX8_checksum 106 = .ok (.i2l, 1) := by decide +kernel
theorem dX8_checksum_107 : decode cX8_checksum 107 = .ok (.ladd, 1) := by decide +kernel
theorem dX8_checksum_108 : decode cX8_checksum 108 = .ok (.lstore_n 1, 1) := by decide +kernel
theorem dX8_checksum_109 : decode cX8_checksum 109 = .ok (.iinc 4 1, 3) := by decide +kernel
theorem dX8_checksum_112 : decode cX8_checksum 112 = .ok (.goto (-60), 3) := by decide +kernel
theorem dX8_checksum_115 : decode cX8_checksum 115 = .ok (.iinc 3 1, 3) := by decide +kernel
theorem dX8_checksum_118 : decode cX8_checksum 118 = .ok (.goto (-110), 3) := by decide +kernel
theorem dX8_checksum_121 : decode cX8_checksum 121 = .ok (.lload_n 1, 1) := by decide +kernel
theorem dX8_checksum_122 : decode cX8_checksum 122 = .ok (.lreturn, 1) := by decide +kernel
theorem dX8_requireLibrary_0 : decode cX8_requireLibrary 0 = .ok (.iload_n 1, 1) := by decide +kernel
theorem dX8_requireLibrary_1 : decode cX8_requireLibrary 1 = .ok (.ifCond .lt 14, 3) := by decide +kernel
theorem dX8_requireLibrary_4 : decode cX8_requireLibrary 4 = .ok (.iload_n 1, 1) := by decide +kernel
theorem dX8_requireLibrary_5 : decode cX8_requireLibrary 5 = .ok (.aload_n 0, 1) := by decide +kernel
theorem dX8_requireLibrary_6 : decode cX8_requireLibrary 6 = .ok (.getfield 30, 3) := by decide +kernel
theorem dX8_requireLibrary_9 : decode cX8_requireLibrary 9 = .ok (.getfield 91, 3) := by decide +kernel
theorem dX8_requireLibrary_12 : decode cX8_requireLibrary 12 = .ok (.if_icmp .lt 13, 3) := by decide +kernel
theorem dX8_requireLibrary_15 : decode cX8_requireLibrary 15 = .ok (.new 232, 3) := by decide +kernel
theorem dX8_requireLibrary_18 : decode cX8_requireLibrary 18 = .ok (.dup, 1) := by decide +kernel
theorem dX8_requireLibrary_19 : decode cX8_requireLibrary 19 = .ok (.ldc 234, 2) := by decide +kernel
theorem dX8_requireLibrary_21 : decode cX8_requireLibrary 21 = .ok (.invokespecial 236, 3) := by decide +kernel
theorem dX8_requireLibrary_24 : decode cX8_requireLibrary 24 = .ok (.athrow, 1) := by decide +kernel
theorem dX8_requireLibrary_25 : decode cX8_requireLibrary 25 = .ok (.return_, 1) := by decide +kernel
theorem dX8_requireName_0 : decode cX8_requireName 0 = .ok (.iload_n 1, 1) := by decide +kernel
theorem dX8_requireName_1 : decode cX8_requireName 1 = .ok (.ifCond .lt 14, 3) := by decide +kernel
theorem dX8_requireName_4 : decode cX8_requireName 4 = .ok (.iload_n 1, 1) := by decide +kernel
theorem dX8_requireName_5 : decode cX8_requireName 5 = .ok (.aload_n 0, 1) := by decide +kernel
theorem dX8_requireName_6 : decode cX8_requireName 6 = .ok (.getfield 30, 3) := by decide +kernel
theorem dX8_requireName_9 : decode cX8_requireName 9 = .ok (.getfield 94, 3) := by decide +kernel
theorem dX8_requireName_12 : decode cX8_requireName 12 = .ok (.if_icmp .lt 13, 3) := by decide +kernel
theorem dX8_requireName_15 : decode cX8_requireName 15 = .ok (.new 232, 3) := by decide +kernel
theorem dX8_requireName_18 : decode cX8_requireName 18 = .ok (.dup, 1) := by decide +kernel
theorem dX8_requireName_19 : decode cX8_requireName 19 = .ok (.ldc 237, 2) := by decide +kernel
theorem dX8_requireName_21 : decode cX8_requireName 21 = .ok (.invokespecial 236, 3) := by decide +kernel
theorem dX8_requireName_24 : decode cX8_requireName 24 = .ok (.athrow, 1) := by decide +kernel
theorem dX8_requireName_25 : decode cX8_requireName 25 = .ok (.return_, 1) := by decide +kernel
theorem dX8_cellOf_0 : decode cX8_cellOf 0 = .ok (.iload_n 0, 1) := by decide +kernel
theorem dX8_cellOf_1 : decode cX8_cellOf 1 = .ok (.bipush 12, 2) := by decide +kernel
theorem dX8_cellOf_3 : decode cX8_cellOf 3 = .ok (.imul, 1) := by decide +kernel
theorem dX8_cellOf_4 : decode cX8_cellOf 4 = .ok (.iload_n 1, 1) := by decide +kernel
theorem dX8_cellOf_5 : decode cX8_cellOf 5 = .ok (.iadd, 1) := by decide +kernel
theorem dX8_cellOf_6 : decode cX8_cellOf 6 = .ok (.ireturn, 1) := by decide +kernel
theorem dX8_putBytes_0 : decode cX8_putBytes 0 = .ok (.bipush 24, 2) := by decide +kernel
theorem dX8_putBytes_2 : decode cX8_putBytes 2 = .ok (.istore_n 2, 1) := by decide +kernel
theorem dX8_putBytes_3 : decode cX8_putBytes 3 = .ok (.iload_n 2, 1) := by decide +kernel
theorem dX8_putBytes_4 : decode cX8_putBytes 4 = .ok (.ifCond .lt 42, 3) := by decide +kernel
theorem dX8_putBytes_7 : decode cX8_putBytes 7 = .ok (.aload_n 0, 1) := by decide +kernel
theorem dX8_putBytes_8 : decode cX8_putBytes 8 = .ok (.getfield 13, 3) := by decide +kernel
theorem dX8_putBytes_11 : decode cX8_putBytes 11 = .ok (.sipush 800, 3) := by decide +kernel
theorem dX8_putBytes_14 : decode cX8_putBytes 14 = .ok (.if_icmp .ge 32, 3) := by decide +kernel
theorem dX8_putBytes_17 : decode cX8_putBytes 17 = .ok (.aload_n 0, 1) := by decide +kernel
theorem dX8_putBytes_18 : decode cX8_putBytes 18 = .ok (.getfield 9, 3) := by decide +kernel
theorem dX8_putBytes_21 : decode cX8_putBytes 21 = .ok (.aload_n 0, 1) := by decide +kernel
theorem dX8_putBytes_22 : decode cX8_putBytes 22 = .ok (.getfield 13, 3) := by decide +kernel
theorem dX8_putBytes_25 : decode cX8_putBytes 25 = .ok (.iload_n 1, 1) := by decide +kernel
theorem dX8_putBytes_26 : decode cX8_putBytes 26 = .ok (.iload_n 2, 1) := by decide +kernel
theorem dX8_putBytes_27 : decode cX8_putBytes 27 = .ok (.ishr, 1) := by decide +kernel
theorem dX8_putBytes_28 : decode cX8_putBytes 28 = .ok (.i2b, 1) := by decide +kernel
theorem dX8_putBytes_29 : decode cX8_putBytes 29 = .ok (.bastore, 1) := by decide +kernel
theorem dX8_putBytes_30 : decode cX8_putBytes 30 = .ok (.aload_n 0, 1) := by decide +kernel
theorem dX8_putBytes_31 : decode cX8_putBytes 31 = .ok (.dup, 1) := by decide +kernel
theorem dX8_putBytes_32 : decode cX8_putBytes 32 = .ok (.getfield 13, 3) := by decide +kernel
theorem dX8_putBytes_35 : decode cX8_putBytes 35 = .ok (.iconst 1, 1) := by decide +kernel
theorem dX8_putBytes_36 : decode cX8_putBytes 36 = .ok (.iadd, 1) := by decide +kernel
theorem dX8_putBytes_37 : decode cX8_putBytes 37 = .ok (.putfield 13, 3) := by decide +kernel
theorem dX8_putBytes_40 : decode cX8_putBytes 40 = .ok (.iinc 2 (-8), 3) := by decide +kernel
theorem dX8_putBytes_43 : decode cX8_putBytes 43 = .ok (.goto (-40), 3) := by decide +kernel
theorem dX8_putBytes_46 : decode cX8_putBytes 46 = .ok (.return_, 1) := by decide +kernel
theorem dX8_beginChange_0 : decode cX8_beginChange 0 = .ok (.aload_n 0, 1) := by decide +kernel
theorem dX8_beginChange_1 : decode cX8_beginChange 1 = .ok (.getfield 51, 3) := by decide +kernel
theorem dX8_beginChange_4 : decode cX8_beginChange 4 = .ok (.aload_n 0, 1) := by decide +kernel
theorem dX8_beginChange_5 : decode cX8_beginChange 5 = .ok (.getfield 30, 3) := by decide +kernel
theorem dX8_beginChange_8 : decode cX8_beginChange 8 = .ok (.invokevirtual 239, 3) := by decide +kernel
theorem dX8_beginChange_11 : decode cX8_beginChange 11 = .ok (.aload_n 0, 1) := by decide +kernel
theorem dX8_beginChange_12 : decode cX8_beginChange 12 = .ok (.getfield 37, 3) := by decide +kernel
theorem dX8_beginChange_15 : decode cX8_beginChange 15 = .ok (.getfield 156, 3) := by decide +kernel
theorem dX8_beginChange_18 : decode cX8_beginChange 18 = .ok (.iconst 0, 1) := by decide +kernel
theorem dX8_beginChange_19 : decode cX8_beginChange 19 = .ok (.aload_n 0, 1) := by decide +kernel
theorem dX8_beginChange_20 : decode cX8_beginChange 20 = .ok (.getfield 55, 3) := by decide +kernel
theorem dX8_beginChange_23 : decode cX8_beginChange 23 = .ok (.iconst 0, 1) := by decide +kernel
theorem dX8_beginChange_24 : decode cX8_beginChange 24 = .ok (.bipush 96, 2) := by decide +kernel
theorem dX8_beginChange_26 : decode cX8_beginChange 26 = .ok (.invokestatic 242, 3) := by decide +kernel
theorem dX8_beginChange_29 : decode cX8_beginChange 29 = .ok (.return_, 1) := by decide +kernel
theorem dX8_changeOffer_0 : decode cX8_changeOffer 0 = .ok (.aload_n 0, 1) := by decide +kernel
theorem dX8_changeOffer_1 : decode cX8_changeOffer 1 = .ok (.invokevirtual 78, 3) := by decide +kernel
theorem dX8_changeOffer_4 : decode cX8_changeOffer 4 = .ok (.aload_n 0, 1) := by decide +kernel
theorem dX8_changeOffer_5 : decode cX8_changeOffer 5 = .ok (.getfield 30, 3) := by decide +kernel
theorem dX8_changeOffer_8 : decode cX8_changeOffer 8 = .ok (.getfield 103, 3) := by decide +kernel
theorem dX8_changeOffer_11 : decode cX8_changeOffer 11 = .ok (.iload_n 1, 1) := by decide +kernel
theorem dX8_changeOffer_12 : decode cX8_changeOffer 12 = .ok (.aaload, 1) := by decide +kernel
theorem dX8_changeOffer_13 : decode cX8_changeOffer 13 = .ok (.getfield 134, 3) := by decide +kernel
theorem dX8_changeOffer_16 : decode cX8_changeOffer 16 = .ok (.iload_n 2, 1) := by decide +kernel
theorem dX8_changeOffer_17 : decode cX8_changeOffer 17 = .ok (.iload_n 3, 1) := by decide +kernel
theorem dX8_changeOffer_18 : decode cX8_changeOffer 18 = .ok (.iastore, 1) := by decide +kernel
theorem dX8_changeOffer_19 : decode cX8_changeOffer 19 = .ok (.aload_n 0, 1) := by decide +kernel
theorem dX8_changeOffer_20 : decode cX8_changeOffer 20 = .ok (.getfield 37, 3) := by decide +kernel
theorem dX8_changeOffer_23 : decode cX8_changeOffer 23 = .ok (.aload_n 0, 1) := by decide +kernel
theorem dX8_changeOffer_24 : decode cX8_changeOffer 24 = .ok (.getfield 30, 3) := by decide +kernel
theorem dX8_changeOffer_27 : decode cX8_changeOffer 27 = .ok (.invokevirtual 88, 3) := by decide +kernel
theorem dX8_changeOffer_30 : decode cX8_changeOffer 30 = .ok (.aload_n 0, 1) := by decide +kernel
theorem dX8_changeOffer_31 : decode cX8_changeOffer 31 = .ok (.getfield 37, 3) := by decide +kernel
theorem dX8_changeOffer_34 : decode cX8_changeOffer 34 = .ok (.getfield 150, 3) := by decide +kernel
theorem dX8_changeOffer_37 : decode cX8_changeOffer 37 = .ok (.iload_n 2, 1) := by decide +kernel
theorem dX8_changeOffer_38 : decode cX8_changeOffer 38 = .ok (.iaload, 1) := by decide +kernel
theorem dX8_changeOffer_39 : decode cX8_changeOffer 39 = .ok (.ireturn, 1) := by decide +kernel
theorem dX8_changedBindings_0 : decode cX8_changedBindings 0 = .ok (.aload_n 0, 1) := by decide +kernel
theorem dX8_changedBindings_1 : decode cX8_changedBindings 1 = .ok (.getfield 30, 3) := by decide +kernel
theorem dX8_changedBindings_4 : decode cX8_changedBindings 4 = .ok (.getfield 103, 3) := by decide +kernel
theorem dX8_changedBindings_7 : decode cX8_changedBindings 7 = .ok (.iload_n 1, 1) := by decide +kernel
theorem dX8_changedBindings_8 : decode cX8_changedBindings 8 = .ok (.aaload, 1) := by decide +kernel
theorem dX8_changedBindings_9 : decode cX8_changedBindings 9 = .ok (.invokevirtual 159, 3) := by decide +kernel
theorem dX8_changedBindings_12 : decode cX8_changedBindings 12 = .ok (.ifCond .ne 5, 3) := by decide +kernel
theorem dX8_changedBindings_15 : decode cX8_changedBindings 15 = .ok (.iconst 0, 1) := by decide +kernel
theorem dX8_changedBindings_16 : decode cX8_changedBindings 16 = .ok (.ireturn, 1) := by decide +kernel
theorem dX8_changedBindings_17 : decode cX8_changedBindings 17 = .ok (.iconst 0, 1) := by decide +kernel
theorem dX8_changedBindings_18 : decode cX8_changedBindings 18 = .ok (.istore_n 2, 1) := by decide +kernel
theorem dX8_changedBindings_19 : decode cX8_changedBindings 19 = .ok (.iconst 0, 1) := by decide +kernel
theorem dX8_changedBindings_20 : decode cX8_changedBindings 20 = .ok (.istore_n 3, 1) := by decide +kernel
theorem dX8_changedBindings_21 : decode cX8_changedBindings 21 = .ok (.iload_n 3, 1) := by decide +kernel
theorem dX8_changedBindings_22 : decode cX8_changedBindings 22 = .ok (.aload_n 0, 1) := by decide +kernel
theorem dX8_changedBindings_23 : decode cX8_changedBindings 23 = .ok (.getfield 30, 3) := by decide +kernel
theorem dX8_changedBindings_26 : decode cX8_changedBindings 26 = .ok (.getfield 94, 3) := by decide +kernel
theorem dX8_changedBindings_29 : decode cX8_changedBindings 29 = .ok (.if_icmp .ge 39, 3) := by decide +kernel
theorem dX8_changedBindings_32 : decode cX8_changedBindings 32 = .ok (.iload_n 1, 1) := by decide +kernel
theorem dX8_changedBindings_33 : decode cX8_changedBindings 33 = .ok (.iload_n 3, 1) := by decide +kernel
theorem dX8_changedBindings_34 : decode cX8_changedBindings 34 = .ok (.invokestatic 143, 3) := by decide +kernel
theorem dX8_changedBindings_37 : decode cX8_changedBindings 37 = .ok (.istore 4, 2) := by decide +kernel
theorem dX8_changedBindings_39 : decode cX8_changedBindings 39 = .ok (.aload_n 0, 1) := by decide +kernel
theorem dX8_changedBindings_40 : decode cX8_changedBindings 40 = .ok (.getfield 37, 3) := by decide +kernel
theorem dX8_changedBindings_43 : decode cX8_changedBindings 43 = .ok (.getfield 156, 3) := by decide +kernel
theorem dX8_changedBindings_46 : decode cX8_changedBindings 46 = .ok (.iload 4, 2) := by decide +kernel
theorem dX8_changedBindings_48 : decode cX8_changedBindings 48 = .ok (.iaload, 1) := by decide +kernel
theorem dX8_changedBindings_49 : decode cX8_changedBindings 49 = .ok (.aload_n 0, 1) := by decide +kernel
theorem dX8_changedBindings_50 : decode cX8_changedBindings 50 = .ok (.getfield 55, 3) := by decide +kernel
theorem dX8_changedBindings_53 : decode cX8_changedBindings 53 = .ok (.iload 4, 2) := by decide +kernel
theorem dX8_changedBindings_55 : decode cX8_changedBindings 55 = .ok (.iaload, 1) := by decide +kernel
theorem dX8_changedBindings_56 : decode cX8_changedBindings 56 = .ok (.if_icmp .eq 6, 3) := by decide +kernel
theorem dX8_changedBindings_59 : decode cX8_changedBindings 59 = .ok (.iinc 2 1, 3) := by decide +kernel
theorem dX8_changedBindings_62 : decode cX8_changedBindings 62 = .ok (.iinc 3 1, 3) := by decide +kernel
theorem dX8_changedBindings_65 : decode cX8_changedBindings 65 = .ok (.goto (-44), 3) := by decide +kernel
theorem dX8_changedBindings_68 : decode cX8_changedBindings 68 = .ok (.iload_n 2, 1) := by decide +kernel
theorem dX8_changedBindings_69 : decode cX8_changedBindings 69 = .ok (.ireturn, 1) := by decide +kernel
theorem dX8_changedBindingsOfAll_0 : decode cX8_changedBindingsOfAll 0 = .ok (.iconst 0, 1) := by decide +kernel
theorem dX8_changedBindingsOfAll_1 : decode cX8_changedBindingsOfAll 1 = .ok (.istore_n 1, 1) := by decide +kernel
theorem dX8_changedBindingsOfAll_2 : decode cX8_changedBindingsOfAll 2 = .ok (.iconst 0, 1) := by decide +kernel
theorem dX8_changedBindingsOfAll_3 : decode cX8_changedBindingsOfAll 3 = .ok (.istore_n 2, 1) := by decide +kernel
theorem dX8_changedBindingsOfAll_4 : decode cX8_changedBindingsOfAll 4 = .ok (.iload_n 2, 1) := by decide +kernel
theorem dX8_changedBindingsOfAll_5 : decode cX8_changedBindingsOfAll 5 = .ok (.aload_n 0, 1) := by decide +kernel
theorem dX8_changedBindingsOfAll_6 : decode cX8_changedBindingsOfAll 6 = .ok (.getfield 30, 3) := by decide +kernel
theorem dX8_changedBindingsOfAll_9 : decode cX8_changedBindingsOfAll 9 = .ok (.getfield 91, 3) := by decide +kernel
theorem dX8_changedBindingsOfAll_12 : decode cX8_changedBindingsOfAll 12 = .ok (.if_icmp .ge 17, 3) := by decide +kernel
theorem dX8_changedBindingsOfAll_15 : decode cX8_changedBindingsOfAll 15 = .ok (.iload_n 1, 1) := by decide +kernel
theorem dX8_changedBindingsOfAll_16 : decode cX8_changedBindingsOfAll 16 = .ok (.aload_n 0, 1) := by decide +kernel
theorem dX8_changedBindingsOfAll_17 : decode cX8_changedBindingsOfAll 17 = .ok (.iload_n 2, 1) := by decide +kernel
theorem dX8_changedBindingsOfAll_18 : decode cX8_changedBindingsOfAll 18 = .ok (.invokevirtual 189, 3) := by decide +kernel
theorem dX8_changedBindingsOfAll_21 : decode cX8_changedBindingsOfAll 21 = .ok (.iadd, 1) := by decide +kernel
theorem dX8_changedBindingsOfAll_22 : decode cX8_changedBindingsOfAll 22 = .ok (.istore_n 1, 1) := by decide +kernel
theorem dX8_changedBindingsOfAll_23 : decode cX8_changedBindingsOfAll 23 = .ok (.iinc 2 1, 3) := by decide +kernel
theorem dX8_changedBindingsOfAll_26 : decode cX8_changedBindingsOfAll 26 = .ok (.goto (-22), 3) := by decide +kernel
theorem dX8_changedBindingsOfAll_29 : decode cX8_changedBindingsOfAll 29 = .ok (.iload_n 1, 1) := by decide +kernel
theorem dX8_changedBindingsOfAll_30 : decode cX8_changedBindingsOfAll 30 = .ok (.ireturn, 1) := by decide +kernel
