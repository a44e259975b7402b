theorem dX5_init_0 : decode cX5_init 0 = .ok (.aload_n 0, 1) := by decide +kernel
theorem dX5_init_1 : decode cX5_init 1 = .ok (.invokespecial 3, 3) := by decide +kernel
theorem dX5_init_4 : decode cX5_init 4 = .ok (.aload_n 0, 1) := by decide +kernel
theorem dX5_init_5 : decode cX5_init 5 = .ok (.new 9, 3) := by decide +kernel
theorem dX5_init_8 : decode cX5_init 8 = .ok (.dup, 1) := by decide +kernel
theorem dX5_init_9 : decode cX5_init 9 = .ok (.invokespecial 11, 3) := by decide +kernel
theorem dX5_init_12 : decode cX5_init 12 = .ok (.putfield 12, 3) := by decide +kernel
theorem dX5_init_15 : decode cX5_init 15 = .ok (.aload_n 0, 1) := by decide +kernel
theorem dX5_init_16 : decode cX5_init 16 = .ok (.new 18, 3) := by decide +kernel
theorem dX5_init_19 : decode cX5_init 19 = .ok (.dup, 1) := by decide +kernel
theorem dX5_init_20 : decode cX5_init 20 = .ok (.invokespecial 20, 3) := by decide +kernel
theorem dX5_init_23 : decode cX5_init 23 = .ok (.putfield 21, 3) := by decide +kernel
theorem dX5_init_26 : decode cX5_init 26 = .ok (.aload_n 0, 1) := by decide +kernel
theorem dX5_init_27 : decode cX5_init 27 = .ok (.bipush 8, 2) := by decide +kernel
theorem dX5_init_29 : decode cX5_init 29 = .ok (.newarray .long, 2) := by decide +kernel
theorem dX5_init_31 : decode cX5_init 31 = .ok (.putfield 25, 3) := by decide +kernel
theorem dX5_init_34 : decode cX5_init 34 = .ok (.aload_n 0, 1) := by decide +kernel
theorem dX5_init_35 : decode cX5_init 35 = .ok (.bipush 12, 2) := by decide +kernel
theorem dX5_init_37 : decode cX5_init 37 = .ok (.newarray .long, 2) := by decide +kernel
theorem dX5_init_39 : decode cX5_init 39 = .ok (.putfield 29, 3) := by decide +kernel
theorem dX5_init_42 : decode cX5_init 42 = .ok (.aload_n 0, 1) := by decide +kernel
theorem dX5_init_43 : decode cX5_init 43 = .ok (.sipush 800, 3) := by decide +kernel
theorem dX5_init_46 : decode cX5_init 46 = .ok (.newarray .int, 2) := by decide +kernel
theorem dX5_init_48 : decode cX5_init 48 = .ok (.putfield 32, 3) := by decide +kernel
theorem dX5_init_51 : decode cX5_init 51 = .ok (.aload_n 0, 1) := by decide +kernel
theorem dX5_init_52 : decode cX5_init 52 = .ok (.iconst 0, 1) := by decide +kernel
theorem dX5_init_53 : decode cX5_init 53 = .ok (.putfield 36, 3) := by decide +kernel
theorem dX5_init_56 : decode cX5_init 56 = .ok (.aload_n 0, 1) := by decide +kernel
theorem dX5_init_57 : decode cX5_init 57 = .ok (.iconst 0, 1) := by decide +kernel
theorem dX5_init_58 : decode cX5_init 58 = .ok (.putfield 40, 3) := by decide +kernel
theorem dX5_init_61 : decode cX5_init 61 = .ok (.aload_n 0, 1) := by decide +kernel
theorem dX5_init_62 : decode cX5_init 62 = .ok (.iconst 0, 1) := by decide +kernel
theorem dX5_init_63 : decode cX5_init 63 = .ok (.putfield 44, 3) := by decide +kernel
theorem dX5_init_66 : decode cX5_init 66 = .ok (.aload_n 0, 1) := by decide +kernel
theorem dX5_init_67 : decode cX5_init 67 = .ok (.iconst 0, 1) := by decide +kernel
theorem dX5_init_68 : decode cX5_init 68 = .ok (.putfield 47, 3) := by decide +kernel
theorem dX5_init_71 : decode cX5_init 71 = .ok (.aload_n 0, 1) := by decide +kernel
theorem dX5_init_72 : decode cX5_init 72 = .ok (.iconst 0, 1) := by decide +kernel
theorem dX5_init_73 : decode cX5_init 73 = .ok (.putfield 50, 3) := by decide +kernel
theorem dX5_init_76 : decode cX5_init 76 = .ok (.aload_n 0, 1) := by decide +kernel
theorem dX5_init_77 : decode cX5_init 77 = .ok (.iconst (-1), 1) := by decide +kernel
theorem dX5_init_78 : decode cX5_init 78 = .ok (.putfield 53, 3) := by decide +kernel
theorem dX5_init_81 : decode cX5_init 81 = .ok (.return_, 1) := by decide +kernel
theorem dX5_readText_0 : decode cX5_readText 0 = .ok (.aload_n 0, 1) := by decide +kernel
theorem dX5_readText_1 : decode cX5_readText 1 = .ok (.getfield 21, 3) := by decide +kernel
theorem dX5_readText_4 : decode cX5_readText 4 = .ok (.invokevirtual 56, 3) := by decide +kernel
theorem dX5_readText_7 : decode cX5_readText 7 = .ok (.aload_n 0, 1) := by decide +kernel
theorem dX5_readText_8 : decode cX5_readText 8 = .ok (.iconst 0, 1) := by decide +kernel
theorem dX5_readText_9 : decode cX5_readText 9 = .ok (.putfield 36, 3) := by decide +kernel
theorem dX5_readText_12 : decode cX5_readText 12 = .ok (.aload_n 0, 1) := by decide +kernel
theorem dX5_readText_13 : decode cX5_readText 13 = .ok (.iconst (-1), 1) := by decide +kernel
theorem dX5_readText_14 : decode cX5_readText 14 = .ok (.invokevirtual 61, 3) := by decide +kernel
theorem dX5_readText_17 : decode cX5_readText 17 = .ok (.aload_n 0, 1) := by decide +kernel
theorem dX5_readText_18 : decode cX5_readText 18 = .ok (.iconst 0, 1) := by decide +kernel
theorem dX5_readText_19 : decode cX5_readText 19 = .ok (.putfield 40, 3) := by decide +kernel
theorem dX5_readText_22 : decode cX5_readText 22 = .ok (.aload_n 0, 1) := by decide +kernel
theorem dX5_readText_23 : decode cX5_readText 23 = .ok (.iconst 0, 1) := by decide +kernel
theorem dX5_readText_24 : decode cX5_readText 24 = .ok (.putfield 44, 3) := by decide +kernel
theorem dX5_readText_27 : decode cX5_readText 27 = .ok (.aload_n 0, 1) := by decide +kernel
theorem dX5_readText_28 : decode cX5_readText 28 = .ok (.getfield 12, 3) := by decide +kernel
theorem dX5_readText_31 : decode cX5_readText 31 = .ok (.aload_n 1, 1) := by decide +kernel
theorem dX5_readText_32 : decode cX5_readText 32 = .ok (.iload_n 2, 1) := by decide +kernel
theorem dX5_readText_33 : decode cX5_readText 33 = .ok (.invokevirtual 65, 3) := by decide +kernel
theorem dX5_readText_36 : decode cX5_readText 36 = .ok (.aload_n 0, 1) := by decide +kernel
theorem dX5_readText_37 : decode cX5_readText 37 = .ok (.ldc 69, 2) := by decide +kernel
theorem dX5_readText_39 : decode cX5_readText 39 = .ok (.invokevirtual 71, 3) := by decide +kernel
theorem dX5_readText_42 : decode cX5_readText 42 = .ok (.ifCond .eq 12, 3) := by decide +kernel
theorem dX5_readText_45 : decode cX5_readText 45 = .ok (.aload_n 0, 1) := by decide +kernel
theorem dX5_readText_46 : decode cX5_readText 46 = .ok (.bipush 59, 2) := by decide +kernel
theorem dX5_readText_48 : decode cX5_readText 48 = .ok (.invokevirtual 75, 3) := by decide +kernel
theorem dX5_readText_51 : decode cX5_readText 51 = .ok (.ifCond .ne 5, 3) := by decide +kernel
theorem dX5_readText_54 : decode cX5_readText 54 = .ok (.iconst 0, 1) := by decide +kernel
theorem dX5_readText_55 : decode cX5_readText 55 = .ok (.ireturn, 1) := by decide +kernel
theorem dX5_readText_56 : decode cX5_readText 56 = .ok (.iconst 0, 1) := by decide +kernel
theorem dX5_readText_57 : decode cX5_readText 57 = .ok (.istore_n 3, 1) := by decide +kernel
theorem dX5_readText_58 : decode cX5_readText 58 = .ok (.iload_n 3, 1) := by decide +kernel
theorem dX5_readText_59 : decode cX5_readText 59 = .ok (.sipush 800, 3) := by decide +kernel
theorem dX5_readText_62 : decode cX5_readText 62 = .ok (.if_icmp .ge 37, 3) := by decide +kernel
theorem dX5_readText_65 : decode cX5_readText 65 = .ok (.aload_n 0, 1) := by decide +kernel
theorem dX5_readText_66 : decode cX5_readText 66 = .ok (.getfield 12, 3) := by decide +kernel
theorem dX5_readText_69 : decode cX5_readText 69 = .ok (.getfield 79, 3) := by decide +kernel
theorem dX5_readText_72 : decode cX5_readText 72 = .ok (.ifCond .eq 27, 3) := by decide +kernel
theorem dX5_readText_75 : decode cX5_readText 75 = .ok (.aload_n 0, 1) := by decide +kernel
theorem dX5_readText_76 : decode cX5_readText 76 = .ok (.invokevirtual 82, 3) := by decide +kernel
theorem dX5_readText_79 : decode cX5_readText 79 = .ok (.ifCond .eq 12, 3) := by decide +kernel
theorem dX5_readText_82 : decode cX5_readText 82 = .ok (.aload_n 0, 1) := by decide +kernel
theorem dX5_readText_83 : decode cX5_readText 83 = .ok (.bipush 59, 2) := by decide +kernel
theorem dX5_readText_85 : decode cX5_readText 85 = .ok (.invokevirtual 75, 3) := by decide +kernel
theorem dX5_readText_88 : decode cX5_readText 88 = .ok (.ifCond .ne 5, 3) := by decide +kernel
theorem dX5_readText_91 : decode cX5_readText 91 = .ok (.iconst 0, 1) := by decide +kernel
theorem dX5_readText_92 : decode cX5_readText 92 = .ok (.ireturn, 1) := by decide +kernel
theorem dX5_readText_93 : decode cX5_readText 93 = .ok (.iinc 3 1, 3) := by decide +kernel
theorem dX5_readText_96 : decode cX5_readText 96 = .ok (.goto (-38), 3) := by decide +kernel
theorem dX5_readText_99 : decode cX5_readText 99 = .ok (.aload_n 0, 1) := by decide +kernel
theorem dX5_readText_100 : decode cX5_readText 100 = .ok (.getfield 21, 3) := by decide +kernel
theorem dX5_readText_103 : decode cX5_readText 103 = .ok (.new 59, 3) := by decide +kernel
theorem dX5_readText_106 : decode cX5_readText 106 = .ok (.dup, 1) := by decide +kernel
theorem dX5_readText_107 : decode cX5_readText 107 = .ok (.aload_n 0, 1) := by decide +kernel
theorem dX5_readText_108 : decode cX5_readText 108 = .ok (.getfield 32, 3) := by decide +kernel
theorem dX5_readText_111 : decode cX5_readText 111 = .ok (.aload_n 0, 1) := by decide +kernel
theorem dX5_readText_112 : decode cX5_readText 112 = .ok (.getfield 36, 3) := by decide +kernel
theorem dX5_readText_115 : decode cX5_readText 115 = .ok (.invokestatic 86, 3) := by decide +kernel
theorem dX5_readText_118 : decode cX5_readText 118 = .ok (.invokespecial 92, 3) := by decide +kernel
theorem dX5_readText_121 : decode cX5_readText 121 = .ok (.putfield 95, 3) := by decide +kernel
theorem dX5_readText_124 : decode cX5_readText 124 = .ok (.iconst 1, 1) := by decide +kernel
theorem dX5_readText_125 : decode cX5_readText 125 = .ok (.ireturn, 1) := by decide +kernel
theorem dX5_readStatement_0 : decode cX5_readStatement 0 = .ok (.aload_n 0, 1) := by decide +kernel
theorem dX5_readStatement_1 : decode cX5_readStatement 1 = .ok (.getfield 12, 3) := by decide +kernel
theorem dX5_readStatement_4 : decode cX5_readStatement 4 = .ok (.ldc 99, 2) := by decide +kernel
theorem dX5_readStatement_6 : decode cX5_readStatement 6 = .ok (.invokevirtual 101, 3) := by decide +kernel
theorem dX5_readStatement_9 : decode cX5_readStatement 9 = .ok (.ifCond .eq 8, 3) := by decide +kernel
theorem dX5_readStatement_12 : decode cX5_readStatement 12 = .ok (.aload_n 0, 1) := by decide +kernel
theorem dX5_readStatement_13 : decode cX5_readStatement 13 = .ok (.invokevirtual 104, 3) := by decide +kernel
theorem dX5_readStatement_16 : decode cX5_readStatement 16 = .ok (.ireturn, 1) := by decide +kernel
theorem dX5_readStatement_17 : decode cX5_readStatement 17 = .ok (.aload_n 0, 1) := by decide +kernel
theorem dX5_readStatement_18 : decode cX5_readStatement 18 = .ok (.getfield 12, 3) := by decide +kernel
theorem dX5_readStatement_21 : decode cX5_readStatement 21 = .ok (.ldc 107, 2) := by decide +kernel
theorem dX5_readStatement_23 : decode cX5_readStatement 23 = .ok (.invokevirtual 101, 3) := by decide +kernel
theorem dX5_readStatement_26 : decode cX5_readStatement 26 = .ok (.ifCond .eq 8, 3) := by decide +kernel
theorem dX5_readStatement_29 : decode cX5_readStatement 29 = .ok (.aload_n 0, 1) := by decide +kernel
theorem dX5_readStatement_30 : decode cX5_readStatement 30 = .ok (.invokevirtual 109, 3) := by decide +kernel
theorem dX5_readStatement_33 : decode cX5_readStatement 33 = .ok (.ireturn, 1) := by decide +kernel
theorem dX5_readStatement_34 : decode cX5_readStatement 34 = .ok (.aload_n 0, 1) := by decide +kernel
theorem dX5_readStatement_35 : decode cX5_readStatement 35 = .ok (.getfield 12, 3) := by decide +kernel
theorem dX5_readStatement_38 : decode cX5_readStatement 38 = .ok (.ldc 112, 2) := by decide +kernel
theorem dX5_readStatement_40 : decode cX5_readStatement 40 = .ok (.invokevirtual 101, 3) := by decide +kernel
theorem dX5_readStatement_43 : decode cX5_readStatement 43 = .ok (.ifCond .eq 8, 3) := by decide +kernel
theorem dX5_readStatement_46 : decode cX5_readStatement 46 = .ok (.aload_n 0, 1) := by decide +kernel
theorem dX5_readStatement_47 : decode cX5_readStatement 47 = .ok (.invokevirtual 114, 3) := by decide +kernel
theorem dX5_readStatement_50 : decode cX5_readStatement 50 = .ok (.ireturn, 1) := by decide +kernel
theorem dX5_readStatement_51 : decode cX5_readStatement 51 = .ok (.aload_n 0, 1) := by decide +kernel
theorem dX5_readStatement_52 : decode cX5_readStatement 52 = .ok (.getfield 12, 3) := by decide +kernel
theorem dX5_readStatement_55 : decode cX5_readStatement 55 = .ok (.ldc 117, 2) := by decide +kernel
theorem dX5_readStatement_57 : decode cX5_readStatement 57 = .ok (.invokevirtual 101, 3) := by decide +kernel
theorem dX5_readStatement_60 : decode cX5_readStatement 60 = .ok (.ifCond .eq 8, 3) := by decide +kernel
theorem dX5_readStatement_63 : decode cX5_readStatement 63 = .ok (.aload_n 0, 1) := by decide +kernel
theorem dX5_readStatement_64 : decode cX5_readStatement 64 = .ok (.invokevirtual 119, 3) := by decide +kernel
theorem dX5_readStatement_67 : decode cX5_readStatement 67 = .ok (.ireturn, 1) := by decide +kernel
theorem dX5_readStatement_68 : decode cX5_readStatement 68 = .ok (.aload_n 0, 1) := by decide +kernel
theorem dX5_readStatement_69 : decode cX5_readStatement 69 = .ok (.getfield 12, 3) := by decide +kernel
theorem dX5_readStatement_72 : decode cX5_readStatement 72 = .ok (.ldc 122, 2) := by decide +kernel
theorem dX5_readStatement_74 : decode cX5_readStatement 74 = .ok (.invokevirtual 101, 3) := by decide +kernel
theorem dX5_readStatement_77 : decode cX5_readStatement 77 = .ok (.ifCond .eq 15, 3) := by decide +kernel
theorem dX5_readStatement_80 : decode cX5_readStatement 80 = .ok (.aload_n 0, 1) := by decide +kernel
theorem dX5_readStatement_81 : decode cX5_readStatement 81 = .ok (.getfield 40, 3) := by decide +kernel
theorem dX5_readStatement_84 : decode cX5_readStatement 84 = .ok (.ifCond .ne 8, 3) := by decide +kernel
theorem dX5_readStatement_87 : decode cX5_readStatement 87 = .ok (.aload_n 0, 1) := by decide +kernel
theorem dX5_readStatement_88 : decode cX5_readStatement 88 = .ok (.invokevirtual 124, 3) := by decide +kernel
theorem dX5_readStatement_91 : decode cX5_readStatement 91 = .ok (.ireturn, 1) := by decide +kernel
theorem dX5_readStatement_92 : decode cX5_readStatement 92 = .ok (.aload_n 0, 1) := by decide +kernel
theorem dX5_readStatement_93 : decode cX5_readStatement 93 = .ok (.getfield 12, 3) := by decide +kernel
theorem dX5_readStatement_96 : decode cX5_readStatement 96 = .ok (.ldc 127, 2) := by decide +kernel
theorem dX5_readStatement_98 : decode cX5_readStatement 98 = .ok (.invokevirtual 101, 3) := by decide +kernel
theorem dX5_readStatement_101 : decode cX5_readStatement 101 = .ok (.ifCond .eq 15, 3) := by decide +kernel
theorem dX5_readStatement_104 : decode cX5_readStatement 104 = .ok (.aload_n 0, 1) := by decide +kernel
theorem dX5_readStatement_105 : decode cX5_readStatement 105 = .ok (.getfield 44, 3) := by decide +kernel
theorem dX5_readStatement_108 : decode cX5_readStatement 108 = .ok (.ifCond .ne 8, 3) := by decide +kernel
theorem dX5_readStatement_111 : decode cX5_readStatement 111 = .ok (.aload_n 0, 1) := by decide +kernel
theorem dX5_readStatement_112 : decode cX5_readStatement 112 = .ok (.invokevirtual 128, 3) := by decide +kernel
theorem dX5_readStatement_115 : decode cX5_readStatement 115 = .ok (.ireturn, 1) := by decide +kernel
theorem dX5_readStatement_116 : decode cX5_readStatement 116 = .ok (.aload_n 0, 1) := by decide +kernel
theorem dX5_readStatement_117 : decode cX5_readStatement 117 = .ok (.invokevirtual 131, 3) := by decide +kernel
theorem dX5_readStatement_120 : decode cX5_readStatement 120 = .ok (.ireturn, 1) := by decide +kernel
theorem dX5_readNewName_0 : decode cX5_readNewName 0 = .ok (.aload_n 0, 1) := by decide +kernel
theorem dX5_readNewName_1 : decode cX5_readNewName 1 = .ok (.getfield 21, 3) := by decide +kernel
theorem dX5_readNewName_4 : decode cX5_readNewName 4 = .ok (.getfield 134, 3) := by decide +kernel
theorem dX5_readNewName_7 : decode cX5_readNewName 7 = .ok (.bipush 12, 2) := by decide +kernel
theorem dX5_readNewName_9 : decode cX5_readNewName 9 = .ok (.if_icmp .lt 10, 3) := by decide +kernel
theorem dX5_readNewName_12 : decode cX5_readNewName 12 = .ok (.aload_n 0, 1) := by decide +kernel
theorem dX5_readNewName_13 : decode cX5_readNewName 13 = .ok (.bipush (-6), 2) := by decide +kernel
theorem dX5_readNewName_15 : decode cX5_readNewName 15 = .ok (.invokevirtual 137, 3) := by decide +kernel
theorem dX5_readNewName_18 : decode cX5_readNewName 18 = .ok (.ireturn, 1) := by decide +kernel
theorem dX5_readNewName_19 : decode cX5_readNewName 19 = .ok (.aload_n 0, 1) := by decide +kernel
theorem dX5_readNewName_20 : decode cX5_readNewName 20 = .ok (.getfield 12, 3) := by decide +kernel
theorem dX5_readNewName_23 : decode cX5_readNewName 23 = .ok (.invokevirtual 141, 3) := by decide +kernel
theorem dX5_readNewName_26 : decode cX5_readNewName 26 = .ok (.aload_n 0, 1) := by decide +kernel
theorem dX5_readNewName_27 : decode cX5_readNewName 27 = .ok (.aload_n 0, 1) := by decide +kernel
theorem dX5_readNewName_28 : decode cX5_readNewName 28 = .ok (.getfield 29, 3) := by decide +kernel
theorem dX5_readNewName_31 : decode cX5_readNewName 31 = .ok (.aload_n 0, 1) := by decide +kernel
theorem dX5_readNewName_32 : decode cX5_readNewName 32 = .ok (.getfield 21, 3) := by decide +kernel
theorem dX5_readNewName_35 : decode cX5_readNewName 35 = .ok (.getfield 134, 3) := by decide +kernel
theorem dX5_readNewName_38 : decode cX5_readNewName 38 = .ok (.invokevirtual 144, 3) := by decide +kernel
theorem dX5_readNewName_41 : decode cX5_readNewName 41 = .ok (.ifCond .ne 5, 3) := by decide +kernel
theorem dX5_readNewName_44 : decode cX5_readNewName 44 = .ok (.iconst 0, 1) := by decide +kernel
theorem dX5_readNewName_45 : decode cX5_readNewName 45 = .ok (.ireturn, 1) := by decide +kernel
theorem dX5_readNewName_46 : decode cX5_readNewName 46 = .ok (.aload_n 0, 1) := by decide +kernel
theorem dX5_readNewName_47 : decode cX5_readNewName 47 = .ok (.getfield 21, 3) := by decide +kernel
theorem dX5_readNewName_50 : decode cX5_readNewName 50 = .ok (.dup, 1) := by decide +kernel
theorem dX5_readNewName_51 : decode cX5_readNewName 51 = .ok (.getfield 134, 3) := by decide +kernel
theorem dX5_readNewName_54 : decode cX5_readNewName 54 = .ok (.iconst 1, 1) := by decide +kernel
theorem dX5_readNewName_55 : decode cX5_readNewName 55 = .ok (.iadd, 1) := by decide +kernel
theorem dX5_readNewName_56 : decode cX5_readNewName 56 = .ok (.putfield 134, 3) := by decide +kernel
theorem dX5_readNewName_59 : decode cX5_readNewName 59 = .ok (.iconst 1, 1) := by decide +kernel
theorem dX5_readNewName_60 : decode cX5_readNewName 60 = .ok (.ireturn, 1) := by decide +kernel
theorem dX5_readNewLibrary_0 : decode cX5_readNewLibrary 0 = .ok (.aload_n 0, 1) := by decide +kernel
theorem dX5_readNewLibrary_1 : decode cX5_readNewLibrary 1 = .ok (.getfield 21, 3) := by decide +kernel
theorem dX5_readNewLibrary_4 : decode cX5_readNewLibrary 4 = .ok (.getfield 148, 3) := by decide +kernel
theorem dX5_readNewLibrary_7 : decode cX5_readNewLibrary 7 = .ok (.bipush 8, 2) := by decide +kernel
theorem dX5_readNewLibrary_9 : decode cX5_readNewLibrary 9 = .ok (.if_icmp .lt 10, 3) := by decide +kernel
theorem dX5_readNewLibrary_12 : decode cX5_readNewLibrary 12 = .ok (.aload_n 0, 1) := by decide +kernel
theorem dX5_readNewLibrary_13 : decode cX5_readNewLibrary 13 = .ok (.bipush (-6), 2) := by decide +kernel
theorem dX5_readNewLibrary_15 : decode cX5_readNewLibrary 15 = .ok (.invokevirtual 137, 3) := by decide +kernel
theorem dX5_readNewLibrary_18 : decode cX5_readNewLibrary 18 = .ok (.ireturn, 1) := by decide +kernel
theorem dX5_readNewLibrary_19 : decode cX5_readNewLibrary 19 = .ok (.aload_n 0, 1) := by decide +kernel
theorem dX5_readNewLibrary_20 : decode cX5_readNewLibrary 20 = .ok (.getfield 12, 3) := by decide +kernel
theorem dX5_readNewLibrary_23 : decode cX5_readNewLibrary 23 = .ok (.invokevirtual 141, 3) := by decide +kernel
theorem dX5_readNewLibrary_26 : decode cX5_readNewLibrary 26 = .ok (.aload_n 0, 1) := by decide +kernel
theorem dX5_readNewLibrary_27 : decode cX5_readNewLibrary 27 = .ok (.aload_n 0, 1) := by decide +kernel
theorem dX5_readNewLibrary_28 : decode cX5_readNewLibrary 28 = .ok (.getfield 25, 3) := by decide +kernel
theorem dX5_readNewLibrary_31 : decode cX5_readNewLibrary 31 = .ok (.aload_n 0, 1) := by decide +kernel
theorem dX5_readNewLibrary_32 : decode cX5_readNewLibrary 32 = .ok (.getfield 21, 3) := by decide +kernel
theorem dX5_readNewLibrary_35 : decode cX5_readNewLibrary 35 = .ok (.getfield 148, 3) := by decide +kernel
theorem dX5_readNewLibrary_38 : decode cX5_readNewLibrary 38 = .ok (.invokevirtual 144, 3) := by decide +kernel
theorem dX5_readNewLibrary_41 : decode cX5_readNewLibrary 41 = .ok (.ifCond .eq 13, 3) := by decide +kernel
theorem dX5_readNewLibrary_44 : decode cX5_readNewLibrary 44 = .ok (.aload_n 0, 1) := by decide +kernel
theorem dX5_readNewLibrary_45 : decode cX5_readNewLibrary 45 = .ok (.sipush 999, 3) := by decide +kernel
theorem dX5_readNewLibrary_48 : decode cX5_readNewLibrary 48 = .ok (.invokevirtual 151, 3) := by decide +kernel
theorem dX5_readNewLibrary_51 : decode cX5_readNewLibrary 51 = .ok (.ifCond .ne 5, 3) := by decide +kernel
theorem dX5_readNewLibrary_54 : decode cX5_readNewLibrary 54 = .ok (.iconst 0, 1) := by decide +kernel
theorem dX5_readNewLibrary_55 : decode cX5_readNewLibrary 55 = .ok (.ireturn, 1) := by decide +kernel
theorem dX5_readNewLibrary_56 : decode cX5_readNewLibrary 56 = .ok (.aload_n 0, 1) := by decide +kernel
theorem dX5_readNewLibrary_57 : decode cX5_readNewLibrary 57 = .ok (.getfield 21, 3) := by decide +kernel
theorem dX5_readNewLibrary_60 : decode cX5_readNewLibrary 60 = .ok (.getfield 154, 3) := by decide +kernel
theorem dX5_readNewLibrary_63 : decode cX5_readNewLibrary 63 = .ok (.aload_n 0, 1) := by decide +kernel
theorem dX5_readNewLibrary_64 : decode cX5_readNewLibrary 64 = .ok (.getfield 21, 3) := by decide +kernel
theorem dX5_readNewLibrary_67 : decode cX5_readNewLibrary 67 = .ok (.getfield 148, 3) := by decide +kernel
theorem dX5_readNewLibrary_70 : decode cX5_readNewLibrary 70 = .ok (.aaload, 1) := by decide +kernel
theorem dX5_readNewLibrary_71 : decode cX5_readNewLibrary 71 = .ok (.astore_n 1, 1) := by decide +kernel
theorem dX5_readNewLibrary_72 : decode cX5_readNewLibrary 72 = .ok (.aload_n 1, 1) := by decide +kernel
theorem dX5_readNewLibrary_73 : decode cX5_readNewLibrary 73 = .ok (.aload_n 0, 1) := by decide +kernel
theorem dX5_readNewLibrary_74 : decode cX5_readNewLibrary 74 = .ok (.getfield 47, 3) := by decide +kernel
theorem dX5_readNewLibrary_77 : decode cX5_readNewLibrary 77 = .ok (.aload_n 0, 1) := by decide +kernel
theorem dX5_readNewLibrary_78 : decode cX5_readNewLibrary 78 = .ok (.getfield 21, 3) := by decide +kernel
theorem dX5_readNewLibrary_81 : decode cX5_readNewLibrary 81 = .ok (.getfield 148, 3) := by decide +kernel
theorem dX5_readNewLibrary_84 : decode cX5_readNewLibrary 84 = .ok (.invokevirtual 158, 3) := by decide +kernel
theorem dX5_readNewLibrary_87 : decode cX5_readNewLibrary 87 = .ok (.aload_n 0, 1) := by decide +kernel
theorem dX5_readNewLibrary_88 : decode cX5_readNewLibrary 88 = .ok (.getfield 21, 3) := by decide +kernel
theorem dX5_readNewLibrary_91 : decode cX5_readNewLibrary 91 = .ok (.dup, 1) := by decide +kernel
theorem dX5_readNewLibrary_92 : decode cX5_readNewLibrary 92 = .ok (.getfield 148, 3) := by decide +kernel
theorem dX5_readNewLibrary_95 : decode cX5_readNewLibrary 95 = .ok (.iconst 1, 1) := by decide +kernel
theorem dX5_readNewLibrary_96 : decode cX5_readNewLibrary 96 = .ok (.iadd, 1) := by decide +kernel
theorem dX5_readNewLibrary_97 : decode cX5_readNewLibrary 97 = .ok (.putfield 148, 3) := by decide +kernel
theorem dX5_readNewLibrary_100 : decode cX5_readNewLibrary 100 = .ok (.aload_n 0, 1) := by decide +kernel
theorem dX5_readNewLibrary_101 : decode cX5_readNewLibrary 101 = .ok (.getfield 12, 3) := by decide +kernel
theorem dX5_readNewLibrary_104 : decode cX5_readNewLibrary 104 = .ok (.ldc 164, 2) := by decide +kernel
theorem dX5_readNewLibrary_106 : decode cX5_readNewLibrary 106 = .ok (.invokevirtual 101, 3) := by decide +kernel
theorem dX5_readNewLibrary_109 : decode cX5_readNewLibrary 109 = .ok (.ifCond .eq 15, 3) := by decide +kernel
theorem dX5_readNewLibrary_112 : decode cX5_readNewLibrary 112 = .ok (.aload_n 1, 1) := by decide +kernel
theorem dX5_readNewLibrary_113 : decode cX5_readNewLibrary 113 = .ok (.iconst 1, 1) := by decide +kernel
theorem dX5_readNewLibrary_114 : decode cX5_readNewLibrary 114 = .ok (.putfield 166, 3) := by decide +kernel
theorem dX5_readNewLibrary_117 : decode cX5_readNewLibrary 117 = .ok (.aload_n 0, 1) := by decide +kernel
theorem dX5_readNewLibrary_118 : decode cX5_readNewLibrary 118 = .ok (.getfield 12, 3) := by decide +kernel
theorem dX5_readNewLibrary_121 : decode cX5_readNewLibrary 121 = .ok (.invokevirtual 141, 3) := by decide +kernel
theorem dX5_readNewLibrary_124 : decode cX5_readNewLibrary 124 = .ok (.iconst 1, 1) := by decide +kernel
theorem dX5_readNewLibrary_125 : decode cX5_readNewLibrary 125 = .ok (.ireturn, 1) := by decide +kernel
theorem dX5_readOffer_0 : decode cX5_readOffer 0 = .ok (.aload_n 0, 1) := by decide +kernel
theorem dX5_readOffer_1 : decode cX5_readOffer 1 = .ok (.getfield 12, 3) := by decide +kernel
theorem dX5_readOffer_4 : decode cX5_readOffer 4 = .ok (.invokevirtual 141, 3) := by decide +kernel
theorem dX5_readOffer_7 : decode cX5_readOffer 7 = .ok (.aload_n 0, 1) := by decide +kernel
theorem dX5_readOffer_8 : decode cX5_readOffer 8 = .ok (.invokevirtual 168, 3) := by decide +kernel
theorem dX5_readOffer_11 : decode cX5_readOffer 11 = .ok (.ifCond .ne 5, 3) := by decide +kernel
theorem dX5_readOffer_14 : decode cX5_readOffer 14 = .ok (.iconst 0, 1) := by decide +kernel
theorem dX5_readOffer_15 : decode cX5_readOffer 15 = .ok (.ireturn, 1) := by decide +kernel
theorem dX5_readOffer_16 : decode cX5_readOffer 16 = .ok (.aload_n 0, 1) := by decide +kernel
theorem dX5_readOffer_17 : decode cX5_readOffer 17 = .ok (.getfield 21, 3) := by decide +kernel
theorem dX5_readOffer_20 : decode cX5_readOffer 20 = .ok (.getfield 154, 3) := by decide +kernel
theorem dX5_readOffer_23 : decode cX5_readOffer 23 = .ok (.aload_n 0, 1) := by decide +kernel
theorem dX5_readOffer_24 : decode cX5_readOffer 24 = .ok (.getfield 47, 3) := by decide +kernel
theorem dX5_readOffer_27 : decode cX5_readOffer 27 = .ok (.aaload, 1) := by decide +kernel
theorem dX5_readOffer_28 : decode cX5_readOffer 28 = .ok (.astore_n 1, 1) := by decide +kernel
theorem dX5_readOffer_29 : decode cX5_readOffer 29 = .ok (.aload_n 0, 1) := by decide +kernel
theorem dX5_readOffer_30 : decode cX5_readOffer 30 = .ok (.getfield 12, 3) := by decide +kernel
theorem dX5_readOffer_33 : decode cX5_readOffer 33 = .ok (.invokevirtual 141, 3) := by decide +kernel
theorem dX5_readOffer_36 : decode cX5_readOffer 36 = .ok (.aload_n 0, 1) := by decide +kernel
theorem dX5_readOffer_37 : decode cX5_readOffer 37 = .ok (.invokevirtual 171, 3) := by decide +kernel
theorem dX5_readOffer_40 : decode cX5_readOffer 40 = .ok (.ifCond .ne 5, 3) := by decide +kernel
theorem dX5_readOffer_43 : decode cX5_readOffer 43 = .ok (.iconst 0, 1) := by decide +kernel
theorem dX5_readOffer_44 : decode cX5_readOffer 44 = .ok (.ireturn, 1) := by decide +kernel
theorem dX5_readOffer_45 : decode cX5_readOffer 45 = .ok (.aload_n 0, 1) := by decide +kernel
theorem dX5_readOffer_46 : decode cX5_readOffer 46 = .ok (.getfield 47, 3) := by decide +kernel
theorem dX5_readOffer_49 : decode cX5_readOffer 49 = .ok (.istore_n 2, 1) := by decide +kernel
theorem dX5_readOffer_50 : decode cX5_readOffer 50 = .ok (.aload_n 1, 1) := by decide +kernel
theorem dX5_readOffer_51 : decode cX5_readOffer 51 = .ok (.iload_n 2, 1) := by decide +kernel
theorem dX5_readOffer_52 : decode cX5_readOffer 52 = .ok (.invokevirtual 174, 3) := by decide +kernel
theorem dX5_readOffer_55 : decode cX5_readOffer 55 = .ok (.ifCond .eq 10, 3) := by decide +kernel
theorem dX5_readOffer_58 : decode cX5_readOffer 58 = .ok (.aload_n 0, 1) := by decide +kernel
theorem dX5_readOffer_59 : decode cX5_readOffer 59 = .ok (.bipush (-5), 2) := by decide +kernel
theorem dX5_readOffer_61 : decode cX5_readOffer 61 = .ok (.invokevirtual 137, 3) := by decide +kernel
theorem dX5_readOffer_64 : decode cX5_readOffer 64 = .ok (.ireturn, 1) := by decide +kernel
theorem dX5_readOffer_65 : decode cX5_readOffer 65 = .ok (.aload_n 0, 1) := by decide +kernel
theorem dX5_readOffer_66 : decode cX5_readOffer 66 = .ok (.getfield 12, 3) := by decide +kernel
theorem dX5_readOffer_69 : decode cX5_readOffer 69 = .ok (.invokevirtual 141, 3) := by decide +kernel
theorem dX5_readOffer_72 : decode cX5_readOffer 72 = .ok (.aload_n 0, 1) := by decide +kernel
theorem dX5_readOffer_73 : decode cX5_readOffer 73 = .ok (.getfield 12, 3) := by decide +kernel
theorem dX5_readOffer_76 : decode cX5_readOffer 76 = .ok (.getfield 79, 3) := by decide +kernel
theorem dX5_readOffer_79 : decode cX5_readOffer 79 = .ok (.iconst 2, 1) := by decide +kernel
theorem dX5_readOffer_80 : decode cX5_readOffer 80 = .ok (.if_icmp .ne 27, 3) := by decide +kernel
theorem dX5_readOffer_83 : decode cX5_readOffer 83 = .ok (.aload_n 0, 1) := by decide +kernel
theorem dX5_readOffer_84 : decode cX5_readOffer 84 = .ok (.sipush 9999, 3) := by decide +kernel
theorem dX5_readOffer_87 : decode cX5_readOffer 87 = .ok (.invokevirtual 151, 3) := by decide +kernel
theorem dX5_readOffer_90 : decode cX5_readOffer 90 = .ok (.ifCond .ne 5, 3) := by decide +kernel
theorem dX5_readOffer_93 : decode cX5_readOffer 93 = .ok (.iconst 0, 1) := by decide +kernel
theorem dX5_readOffer_94 : decode cX5_readOffer 94 = .ok (.ireturn, 1) := by decide +kernel
theorem dX5_readOffer_95 : decode cX5_readOffer 95 = .ok (.aload_n 1, 1) := by decide +kernel
theorem dX5_readOffer_96 : decode cX5_readOffer 96 = .ok (.getfield 177, 3) := by decide +kernel
theorem dX5_readOffer_99 : decode cX5_readOffer 99 = .ok (.iload_n 2, 1) := by decide +kernel
theorem dX5_readOffer_100 : decode cX5_readOffer 100 = .ok (.aload_n 0, 1) := by decide +kernel
theorem dX5_readOffer_101 : decode cX5_readOffer 101 = .ok (.getfield 47, 3) := by decide +kernel
theorem dX5_readOffer_104 : decode cX5_readOffer 104 = .ok (.iastore, 1) := by decide +kernel
theorem dX5_readOffer_105 : decode cX5_readOffer 105 = .ok (.iconst 1, 1) := by decide +kernel
theorem dX5_readOffer_106 : decode cX5_readOffer 106 = .ok (.ireturn, 1) := by decide +kernel
theorem dX5_readOffer_107 : decode cX5_readOffer 107 = .ok (.aload_n 0, 1) := by decide +kernel
theorem dX5_readOffer_108 : decode cX5_readOffer 108 = .ok (.ldc 180, 2) := by decide +kernel
theorem dX5_readOffer_110 : decode cX5_readOffer 110 = .ok (.invokevirtual 71, 3) := by decide +kernel
theorem dX5_readOffer_113 : decode cX5_readOffer 113 = .ok (.ifCond .eq 10, 3) := by decide +kernel
theorem dX5_readOffer_116 : decode cX5_readOffer 116 = .ok (.aload_n 0, 1) := by decide +kernel
theorem dX5_readOffer_117 : decode cX5_readOffer 117 = .ok (.invokevirtual 171, 3) := by decide +kernel
theorem dX5_readOffer_120 : decode cX5_readOffer 120 = .ok (.ifCond .ne 5, 3) := by decide +kernel
theorem dX5_readOffer_123 : decode cX5_readOffer 123 = .ok (.iconst 0, 1) := by decide +kernel
theorem dX5_readOffer_124 : decode cX5_readOffer 124 = .ok (.ireturn, 1) := by decide +kernel
theorem dX5_readOffer_125 : decode cX5_readOffer 125 = .ok (.aload_n 1, 1) := by decide +kernel
theorem dX5_readOffer_126 : decode cX5_readOffer 126 = .ok (.getfield 177, 3) := by decide +kernel
theorem dX5_readOffer_129 : decode cX5_readOffer 129 = .ok (.iload_n 2, 1) := by decide +kernel
theorem dX5_readOffer_130 : decode cX5_readOffer 130 = .ok (.bipush (-2), 2) := by decide +kernel
theorem dX5_readOffer_132 : decode cX5_readOffer 132 = .ok (.aload_n 0, 1) := by decide +kernel
theorem dX5_readOffer_133 : decode cX5_readOffer 133 = .ok (.getfield 47, 3) := by decide +kernel
theorem dX5_readOffer_136 : decode cX5_readOffer 136 = .ok (.isub, 1) := by decide +kernel
theorem dX5_readOffer_137 : decode cX5_readOffer 137 = .ok (.iastore, 1) := by decide +kernel
theorem dX5_readOffer_138 : decode cX5_readOffer 138 = .ok (.aload_n 0, 1) := by decide +kernel
theorem dX5_readOffer_139 : decode cX5_readOffer 139 = .ok (.getfield 12, 3) := by decide +kernel
theorem dX5_readOffer_142 : decode cX5_readOffer 142 = .ok (.invokevirtual 141, 3) := by decide +kernel
theorem dX5_readOffer_145 : decode cX5_readOffer 145 = .ok (.iconst 1, 1) := by decide +kernel
theorem dX5_readOffer_146 : decode cX5_readOffer 146 = .ok (.ireturn, 1) := by decide +kernel
theorem dX5_readPrefer_0 : decode cX5_readPrefer 0 = .ok (.aload_n 0, 1) := by decide +kernel
theorem dX5_readPrefer_1 : decode cX5_readPrefer 1 = .ok (.getfield 12, 3) := by decide +kernel
theorem dX5_readPrefer_4 : decode cX5_readPrefer 4 = .ok (.invokevirtual 141, 3) := by decide +kernel
theorem dX5_readPrefer_7 : decode cX5_readPrefer 7 = .ok (.aload_n 0, 1) := by decide +kernel
theorem dX5_readPrefer_8 : decode cX5_readPrefer 8 = .ok (.invokevirtual 168, 3) := by decide +kernel
theorem dX5_readPrefer_11 : decode cX5_readPrefer 11 = .ok (.ifCond .ne 5, 3) := by decide +kernel
theorem dX5_readPrefer_14 : decode cX5_readPrefer 14 = .ok (.iconst 0, 1) := by decide +kernel
theorem dX5_readPrefer_15 : decode cX5_readPrefer 15 = .ok (.ireturn, 1) := by decide +kernel
theorem dX5_readPrefer_16 : decode cX5_readPrefer 16 = .ok (.aload_n 0, 1) := by decide +kernel
theorem dX5_readPrefer_17 : decode cX5_readPrefer 17 = .ok (.getfield 47, 3) := by decide +kernel
theorem dX5_readPrefer_20 : decode cX5_readPrefer 20 = .ok (.istore_n 1, 1) := by decide +kernel
theorem dX5_readPrefer_21 : decode cX5_readPrefer 21 = .ok (.aload_n 0, 1) := by decide +kernel
theorem dX5_readPrefer_22 : decode cX5_readPrefer 22 = .ok (.getfield 12, 3) := by decide +kernel
theorem dX5_readPrefer_25 : decode cX5_readPrefer 25 = .ok (.invokevirtual 141, 3) := by decide +kernel
theorem dX5_readPrefer_28 : decode cX5_readPrefer 28 = .ok (.aload_n 0, 1) := by decide +kernel
theorem dX5_readPrefer_29 : decode cX5_readPrefer 29 = .ok (.invokevirtual 168, 3) := by decide +kernel
theorem dX5_readPrefer_32 : decode cX5_readPrefer 32 = .ok (.ifCond .ne 5, 3) := by decide +kernel
theorem dX5_readPrefer_35 : decode cX5_readPrefer 35 = .ok (.iconst 0, 1) := by decide +kernel
theorem dX5_readPrefer_36 : decode cX5_readPrefer 36 = .ok (.ireturn, 1) := by decide +kernel
theorem dX5_readPrefer_37 : decode cX5_readPrefer 37 = .ok (.aload_n 0, 1) := by decide +kernel
theorem dX5_readPrefer_38 : decode cX5_readPrefer 38 = .ok (.getfield 47, 3) := by decide +kernel
theorem dX5_readPrefer_41 : decode cX5_readPrefer 41 = .ok (.iload_n 1, 1) := by decide +kernel
theorem dX5_readPrefer_42 : decode cX5_readPrefer 42 = .ok (.if_icmp .eq 22, 3) := by decide +kernel
theorem dX5_readPrefer_45 : decode cX5_readPrefer 45 = .ok (.aload_n 0, 1) := by decide +kernel
theorem dX5_readPrefer_46 : decode cX5_readPrefer 46 = .ok (.getfield 21, 3) := by decide +kernel
theorem dX5_readPrefer_49 : decode cX5_readPrefer 49 = .ok (.getfield 154, 3) := by decide +kernel
theorem dX5_readPrefer_52 : decode cX5_readPrefer 52 = .ok (.iload_n 1, 1) := by decide +kernel
theorem dX5_readPrefer_53 : decode cX5_readPrefer 53 = .ok (.aaload, 1) := by decide +kernel
theorem dX5_readPrefer_54 : decode cX5_readPrefer 54 = .ok (.aload_n 0, 1) := by decide +kernel
theorem dX5_readPrefer_55 : decode cX5_readPrefer 55 = .ok (.getfield 47, 3) := by decide +kernel
theorem dX5_readPrefer_58 : decode cX5_readPrefer 58 = .ok (.invokevirtual 182, 3) := by decide +kernel
theorem dX5_readPrefer_61 : decode cX5_readPrefer 61 = .ok (.ifCond .eq 10, 3) := by decide +kernel
theorem dX5_readPrefer_64 : decode cX5_readPrefer 64 = .ok (.aload_n 0, 1) := by decide +kernel
theorem dX5_readPrefer_65 : decode cX5_readPrefer 65 = .ok (.bipush (-5), 2) := by decide +kernel
theorem dX5_readPrefer_67 : decode cX5_readPrefer 67 = .ok (.invokevirtual 137, 3) := by decide +kernel
theorem dX5_readPrefer_70 : decode cX5_readPrefer 70 = .ok (.ireturn, 1) := by decide +kernel
theorem dX5_readPrefer_71 : decode cX5_readPrefer 71 = .ok (.aload_n 0, 1) := by decide +kernel
theorem dX5_readPrefer_72 : decode cX5_readPrefer 72 = .ok (.getfield 21, 3) := by decide +kernel
theorem dX5_readPrefer_75 : decode cX5_readPrefer 75 = .ok (.getfield 154, 3) := by decide +kernel
theorem dX5_readPrefer_78 : decode cX5_readPrefer 78 = .ok (.iload_n 1, 1) := by decide +kernel
theorem dX5_readPrefer_79 : decode cX5_readPrefer 79 = .ok (.aaload, 1) := by decide +kernel
theorem dX5_readPrefer_80 : decode cX5_readPrefer 80 = .ok (.aload_n 0, 1) := by decide +kernel
theorem dX5_readPrefer_81 : decode cX5_readPrefer 81 = .ok (.getfield 47, 3) := by decide +kernel
theorem dX5_readPrefer_84 : decode cX5_readPrefer 84 = .ok (.invokevirtual 185, 3) := by decide +kernel
theorem dX5_readPrefer_87 : decode cX5_readPrefer 87 = .ok (.aload_n 0, 1) := by decide +kernel
theorem dX5_readPrefer_88 : decode cX5_readPrefer 88 = .ok (.getfield 12, 3) := by decide +kernel
theorem dX5_readPrefer_91 : decode cX5_readPrefer 91 = .ok (.invokevirtual 141, 3) := by decide +kernel
theorem dX5_readPrefer_94 : decode cX5_readPrefer 94 = .ok (.iconst 1, 1) := by decide +kernel
theorem dX5_readPrefer_95 : decode cX5_readPrefer 95 = .ok (.ireturn, 1) := by decide +kernel
theorem dX5_readShare_0 : decode cX5_readShare 0 = .ok (.aload_n 0, 1) := by decide +kernel
theorem dX5_readShare_1 : decode cX5_readShare 1 = .ok (.iconst 1, 1) := by decide +kernel
theorem dX5_readShare_2 : decode cX5_readShare 2 = .ok (.putfield 40, 3) := by decide +kernel
theorem dX5_readShare_5 : decode cX5_readShare 5 = .ok (.aload_n 0, 1) := by decide +kernel
theorem dX5_readShare_6 : decode cX5_readShare 6 = .ok (.getfield 12, 3) := by decide +kernel
theorem dX5_readShare_9 : decode cX5_readShare 9 = .ok (.invokevirtual 141, 3) := by decide +kernel
theorem dX5_readShare_12 : decode cX5_readShare 12 = .ok (.aload_n 0, 1) := by decide +kernel
theorem dX5_readShare_13 : decode cX5_readShare 13 = .ok (.bipush 100, 2) := by decide +kernel
theorem dX5_readShare_15 : decode cX5_readShare 15 = .ok (.invokevirtual 151, 3) := by decide +kernel
theorem dX5_readShare_18 : decode cX5_readShare 18 = .ok (.ifCond .ne 5, 3) := by decide +kernel
theorem dX5_readShare_21 : decode cX5_readShare 21 = .ok (.iconst 0, 1) := by decide +kernel
theorem dX5_readShare_22 : decode cX5_readShare 22 = .ok (.ireturn, 1) := by decide +kernel
theorem dX5_readShare_23 : decode cX5_readShare 23 = .ok (.aload_n 0, 1) := by decide +kernel
theorem dX5_readShare_24 : decode cX5_readShare 24 = .ok (.getfield 21, 3) := by decide +kernel
theorem dX5_readShare_27 : decode cX5_readShare 27 = .ok (.aload_n 0, 1) := by decide +kernel
theorem dX5_readShare_28 : decode cX5_readShare 28 = .ok (.getfield 47, 3) := by decide +kernel
theorem dX5_readShare_31 : decode cX5_readShare 31 = .ok (.putfield 188, 3) := by decide +kernel
theorem dX5_readShare_34 : decode cX5_readShare 34 = .ok (.iconst 1, 1) := by decide +kernel
theorem dX5_readShare_35 : decode cX5_readShare 35 = .ok (.ireturn, 1) := by decide +kernel
theorem dX5_readWeight_0 : decode cX5_readWeight 0 = .ok (.aload_n 0, 1) := by decide +kernel
theorem dX5_readWeight_1 : decode cX5_readWeight 1 = .ok (.iconst 1, 1) := by decide +kernel
theorem dX5_readWeight_2 : decode cX5_readWeight 2 = .ok (.putfield 44, 3) := by decide +kernel
theorem dX5_readWeight_5 : decode cX5_readWeight 5 = .ok (.aload_n 0, 1) := by decide +kernel
theorem dX5_readWeight_6 : decode cX5_readWeight 6 = .ok (.iconst 0, 1) := by decide +kernel
theorem dX5_readWeight_7 : decode cX5_readWeight 7 = .ok (.putfield 36, 3) := by decide +kernel
theorem dX5_readWeight_10 : decode cX5_readWeight 10 = .ok (.aload_n 0, 1) := by decide +kernel
theorem dX5_readWeight_11 : decode cX5_readWeight 11 = .ok (.getfield 12, 3) := by decide +kernel
theorem dX5_readWeight_14 : decode cX5_readWeight 14 = .ok (.invokevirtual 141, 3) := by decide +kernel
theorem dX5_readWeight_17 : decode cX5_readWeight 17 = .ok (.aload_n 0, 1) := by decide +kernel
theorem dX5_readWeight_18 : decode cX5_readWeight 18 = .ok (.iconst 0, 1) := by decide +kernel
theorem dX5_readWeight_19 : decode cX5_readWeight 19 = .ok (.invokevirtual 190, 3) := by decide +kernel
theorem dX5_readWeight_22 : decode cX5_readWeight 22 = .ok (.ireturn, 1) := by decide +kernel
theorem dX5_readSum_0 : decode cX5_readSum 0 = .ok (.aload_n 0, 1) := by decide +kernel
theorem dX5_readSum_1 : decode cX5_readSum 1 = .ok (.iload_n 1, 1) := by decide +kernel
theorem dX5_readSum_2 : decode cX5_readSum 2 = .ok (.invokevirtual 193, 3) := by decide +kernel
theorem dX5_readSum_5 : decode cX5_readSum 5 = .ok (.ifCond .ne 5, 3) := by decide +kernel
theorem dX5_readSum_8 : decode cX5_readSum 8 = .ok (.iconst 0, 1) := by decide +kernel
theorem dX5_readSum_9 : decode cX5_readSum 9 = .ok (.ireturn, 1) := by decide +kernel
theorem dX5_readSum_10 : decode cX5_readSum 10 = .ok (.iconst 0, 1) := by decide +kernel
theorem dX5_readSum_11 : decode cX5_readSum 11 = .ok (.istore_n 2, 1) := by decide +kernel
theorem dX5_readSum_12 : decode cX5_readSum 12 = .ok (.iload_n 2, 1) := by decide +kernel
theorem dX5_readSum_13 : decode cX5_readSum 13 = .ok (.sipush 800, 3) := by decide +kernel
theorem dX5_readSum_16 : decode cX5_readSum 16 = .ok (.if_icmp .ge 75, 3) := by decide +kernel
theorem dX5_readSum_19 : decode cX5_readSum 19 = .ok (.aload_n 0, 1) := by decide +kernel
theorem dX5_readSum_20 : decode cX5_readSum 20 = .ok (.getfield 12, 3) := by decide +kernel
theorem dX5_readSum_23 : decode cX5_readSum 23 = .ok (.bipush 43, 2) := by decide +kernel
theorem dX5_readSum_25 : decode cX5_readSum 25 = .ok (.invokevirtual 196, 3) := by decide +kernel
theorem dX5_readSum_28 : decode cX5_readSum 28 = .ok (.ifCond .ne 15, 3) := by decide +kernel
theorem dX5_readSum_31 : decode cX5_readSum 31 = .ok (.aload_n 0, 1) := by decide +kernel
theorem dX5_readSum_32 : decode cX5_readSum 32 = .ok (.getfield 12, 3) := by decide +kernel
theorem dX5_readSum_35 : decode cX5_readSum 35 = .ok (.bipush 45, 2) := by decide +kernel
theorem dX5_readSum_37 : decode cX5_readSum 37 = .ok (.invokevirtual 196, 3) := by decide +kernel
theorem dX5_readSum_40 : decode cX5_readSum 40 = .ok (.ifCond .eq 51, 3) := by decide +kernel
theorem dX5_readSum_43 : decode cX5_readSum 43 = .ok (.aload_n 0, 1) := by decide +kernel
theorem dX5_readSum_44 : decode cX5_readSum 44 = .ok (.getfield 12, 3) := by decide +kernel
theorem dX5_readSum_47 : decode cX5_readSum 47 = .ok (.bipush 43, 2) := by decide +kernel
theorem dX5_readSum_49 : decode cX5_readSum 49 = .ok (.invokevirtual 196, 3) := by decide +kernel
theorem dX5_readSum_52 : decode cX5_readSum 52 = .ok (.ifCond .eq 8, 3) := by decide +kernel
theorem dX5_readSum_55 : decode cX5_readSum 55 = .ok (.bipush (-5), 2) := by decide +kernel
theorem dX5_readSum_57 : decode cX5_readSum 57 = .ok (.goto 5, 3) := by decide +kernel
theorem dX5_readSum_60 : decode cX5_readSum 60 = .ok (.bipush (-6), 2) := by decide +kernel
theorem dX5_readSum_62 : decode cX5_readSum 62 = .ok (.istore_n 3, 1) := by decide +kernel
theorem dX5_readSum_63 : decode cX5_readSum 63 = .ok (.aload_n 0, 1) := by decide +kernel
theorem dX5_readSum_64 : decode cX5_readSum 64 = .ok (.getfield 12, 3) := by decide +kernel
theorem dX5_readSum_67 : decode cX5_readSum 67 = .ok (.invokevirtual 141, 3) := by decide +kernel
theorem dX5_readSum_70 : decode cX5_readSum 70 = .ok (.aload_n 0, 1) := by decide +kernel
theorem dX5_readSum_71 : decode cX5_readSum 71 = .ok (.iload_n 1, 1) := by decide +kernel
theorem dX5_readSum_72 : decode cX5_readSum 72 = .ok (.invokevirtual 193, 3) := by decide +kernel
theorem dX5_readSum_75 : decode cX5_readSum 75 = .ok (.ifCond .ne 5, 3) := by decide +kernel
theorem dX5_readSum_78 : decode cX5_readSum 78 = .ok (.iconst 0, 1) := by decide +kernel
theorem dX5_readSum_79 : decode cX5_readSum 79 = .ok (.ireturn, 1) := by decide +kernel
theorem dX5_readSum_80 : decode cX5_readSum 80 = .ok (.aload_n 0, 1) := by decide +kernel
theorem dX5_readSum_81 : decode cX5_readSum 81 = .ok (.iload_n 3, 1) := by decide +kernel
theorem dX5_readSum_82 : decode cX5_readSum 82 = .ok (.invokevirtual 61, 3) := by decide +kernel
theorem dX5_readSum_85 : decode cX5_readSum 85 = .ok (.iinc 2 1, 3) := by decide +kernel
theorem dX5_readSum_88 : decode cX5_readSum 88 = .ok (.goto (-76), 3) := by decide +kernel
theorem dX5_readSum_91 : decode cX5_readSum 91 = .ok (.iconst 1, 1) := by decide +kernel
theorem dX5_readSum_92 : decode cX5_readSum 92 = .ok (.ireturn, 1) := by decide +kernel
theorem dX5_readTerm_0 : decode cX5_readTerm 0 = .ok (.aload_n 0, 1) := by decide +kernel
theorem dX5_readTerm_1 : decode cX5_readTerm 1 = .ok (.iload_n 1, 1) := by decide +kernel
theorem dX5_readTerm_2 : decode cX5_readTerm 2 = .ok (.invokevirtual 199, 3) := by decide +kernel
theorem dX5_readTerm_5 : decode cX5_readTerm 5 = .ok (.ifCond .ne 5, 3) := by decide +kernel
theorem dX5_readTerm_8 : decode cX5_readTerm 8 = .ok (.iconst 0, 1) := by decide +kernel
theorem dX5_readTerm_9 : decode cX5_readTerm 9 = .ok (.ireturn, 1) := by decide +kernel
theorem dX5_readTerm_10 : decode cX5_readTerm 10 = .ok (.iconst 0, 1) := by decide +kernel
theorem dX5_readTerm_11 : decode cX5_readTerm 11 = .ok (.istore_n 2, 1) := by decide +kernel
theorem dX5_readTerm_12 : decode cX5_readTerm 12 = .ok (.iload_n 2, 1) := by decide +kernel
theorem dX5_readTerm_13 : decode cX5_readTerm 13 = .ok (.sipush 800, 3) := by decide +kernel
theorem dX5_readTerm_16 : decode cX5_readTerm 16 = .ok (.if_icmp .ge 75, 3) := by decide +kernel
theorem dX5_readTerm_19 : decode cX5_readTerm 19 = .ok (.aload_n 0, 1) := by decide +kernel
theorem dX5_readTerm_20 : decode cX5_readTerm 20 = .ok (.getfield 12, 3) := by decide +kernel
theorem dX5_readTerm_23 : decode cX5_readTerm 23 = .ok (.bipush 42, 2) := by decide +kernel
theorem dX5_readTerm_25 : decode cX5_readTerm 25 = .ok (.invokevirtual 196, 3) := by decide +kernel
theorem dX5_readTerm_28 : decode cX5_readTerm 28 = .ok (.ifCond .ne 15, 3) := by decide +kernel
theorem dX5_readTerm_31 : decode cX5_readTerm 31 = .ok (.aload_n 0, 1) := by decide +kernel
theorem dX5_readTerm_32 : decode cX5_readTerm 32 = .ok (.getfield 12, 3) := by decide +kernel
theorem dX5_readTerm_35 : decode cX5_readTerm 35 = .ok (.bipush 47, 2) := by decide +kernel
theorem dX5_readTerm_37 : decode cX5_readTerm 37 = .ok (.invokevirtual 196, 3) := by decide +kernel
theorem dX5_readTerm_40 : decode cX5_readTerm 40 = .ok (.ifCond .eq 51, 3) := by decide +kernel
theorem dX5_readTerm_43 : decode cX5_readTerm 43 = .ok (.aload_n 0, 1) := by decide +kernel
theorem dX5_readTerm_44 : decode cX5_readTerm 44 = .ok (.getfield 12, 3) := by decide +kernel
theorem dX5_readTerm_47 : decode cX5_readTerm 47 = .ok (.bipush 42, 2) := by decide +kernel
theorem dX5_readTerm_49 : decode cX5_readTerm 49 = .ok (.invokevirtual 196, 3) := by decide +kernel
theorem dX5_readTerm_52 : decode cX5_readTerm 52 = .ok (.ifCond .eq 8, 3) := by decide +kernel
theorem dX5_readTerm_55 : decode cX5_readTerm 55 = .ok (.bipush (-7), 2) := by decide +kernel
theorem dX5_readTerm_57 : decode cX5_readTerm 57 = .ok (.goto 5, 3) := by decide +kernel
theorem dX5_readTerm_60 : decode cX5_readTerm 60 = .ok (.bipush (-8), 2) := by decide +kernel
theorem dX5_readTerm_62 : decode cX5_readTerm 62 = .ok (.istore_n 3, 1) := by decide +kernel
theorem dX5_readTerm_63 : decode cX5_readTerm 63 = .ok (.aload_n 0, 1) := by decide +kernel
theorem dX5_readTerm_64 : decode cX5_readTerm 64 = .ok (.getfield 12, 3) := by decide +kernel
theorem dX5_readTerm_67 : decode cX5_readTerm 67 = .ok (.invokevirtual 141, 3) := by decide +kernel
theorem dX5_readTerm_70 : decode cX5_readTerm 70 = .ok (.aload_n 0, 1) := by decide +kernel
theorem dX5_readTerm_71 : decode cX5_readTerm 71 = .ok (.iload_n 1, 1) := by decide +kernel
theorem dX5_readTerm_72 : decode cX5_readTerm 72 = .ok (.invokevirtual 199, 3) := by decide +kernel
theorem dX5_readTerm_75 : decode cX5_readTerm 75 = .ok (.ifCond .ne 5, 3) := by decide +kernel
theorem dX5_readTerm_78 : decode cX5_readTerm 78 = .ok (.iconst 0, 1) := by decide +kernel
theorem dX5_readTerm_79 : decode cX5_readTerm 79 = .ok (.ireturn, 1) := by decide +kernel
theorem dX5_readTerm_80 : decode cX5_readTerm 80 = .ok (.aload_n 0, 1) := by decide +kernel
theorem dX5_readTerm_81 : decode cX5_readTerm 81 = .ok (.iload_n 3, 1) := by decide +kernel
theorem dX5_readTerm_82 : decode cX5_readTerm 82 = .ok (.invokevirtual 61, 3) := by decide +kernel
theorem dX5_readTerm_85 : decode cX5_readTerm 85 = .ok (.iinc 2 1, 3) := by decide +kernel
theorem dX5_readTerm_88 : decode cX5_readTerm 88 = .ok (.goto (-76), 3) := by decide +kernel
theorem dX5_readTerm_91 : decode cX5_readTerm 91 = .ok (.iconst 1, 1) := by decide +kernel
theorem dX5_readTerm_92 : decode cX5_readTerm 92 = .ok (.ireturn, 1) := by decide +kernel
theorem dX5_readFactor_0 : decode cX5_readFactor 0 = .ok (.aload_n 0, 1) := by decide +kernel
theorem dX5_readFactor_1 : decode cX5_readFactor 1 = .ok (.getfield 12, 3) := by decide +kernel
theorem dX5_readFactor_4 : decode cX5_readFactor 4 = .ok (.bipush 40, 2) := by decide +kernel
theorem dX5_readFactor_6 : decode cX5_readFactor 6 = .ok (.invokevirtual 196, 3) := by decide +kernel
theorem dX5_readFactor_9 : decode cX5_readFactor 9 = .ok (.ifCond .eq 47, 3) := by decide +kernel
theorem dX5_readFactor_12 : decode cX5_readFactor 12 = .ok (.iload_n 1, 1) := by decide +kernel
theorem dX5_readFactor_13 : decode cX5_readFactor 13 = .ok (.iconst 4, 1) := by decide +kernel
theorem dX5_readFactor_14 : decode cX5_readFactor 14 = .ok (.if_icmp .lt 10, 3) := by decide +kernel
theorem dX5_readFactor_17 : decode cX5_readFactor 17 = .ok (.aload_n 0, 1) := by decide +kernel
theorem dX5_readFactor_18 : decode cX5_readFactor 18 = .ok (.bipush (-7), 2) := by decide +kernel
theorem dX5_readFactor_20 : decode cX5_readFactor 20 = .ok (.invokevirtual 137, 3) := by decide +kernel
theorem dX5_readFactor_23 : decode cX5_readFactor 23 = .ok (.ireturn, 1) := by decide +kernel
theorem dX5_readFactor_24 : decode cX5_readFactor 24 = .ok (.aload_n 0, 1) := by decide +kernel
theorem dX5_readFactor_25 : decode cX5_readFactor 25 = .ok (.getfield 12, 3) := by decide +kernel
theorem dX5_readFactor_28 : decode cX5_readFactor 28 = .ok (.invokevirtual 141, 3) := by decide +kernel
theorem dX5_readFactor_31 : decode cX5_readFactor 31 = .ok (.aload_n 0, 1) := by decide +kernel
theorem dX5_readFactor_32 : decode cX5_readFactor 32 = .ok (.iload_n 1, 1) := by decide +kernel
theorem dX5_readFactor_33 : decode cX5_readFactor 33 = .ok (.iconst 1, 1) := by decide +kernel
theorem dX5_readFactor_34 : decode cX5_readFactor 34 = .ok (.iadd, 1) := by decide +kernel
theorem dX5_readFactor_35 : decode cX5_readFactor 35 = .ok (.invokevirtual 190, 3) := by decide +kernel
theorem dX5_readFactor_38 : decode cX5_readFactor 38 = .ok (.ifCond .eq 16, 3) := by decide +kernel
theorem dX5_readFactor_41 : decode cX5_readFactor 41 = .ok (.aload_n 0, 1) := by decide +kernel
theorem dX5_readFactor_42 : decode cX5_readFactor 42 = .ok (.bipush 41, 2) := by decide +kernel
theorem dX5_readFactor_44 : decode cX5_readFactor 44 = .ok (.invokevirtual 75, 3) := by decide +kernel
theorem dX5_readFactor_47 : decode cX5_readFactor 47 = .ok (.ifCond .eq 7, 3) := by decide +kernel
theorem dX5_readFactor_50 : decode cX5_readFactor 50 = .ok (.iconst 1, 1) := by decide +kernel
theorem dX5_readFactor_51 : decode cX5_readFactor 51 = .ok (.goto 4, 3) := by decide +kernel
theorem dX5_readFactor_54 : decode cX5_readFactor 54 = .ok (.iconst 0, 1) := by decide +kernel
theorem dX5_readFactor_55 : decode cX5_readFactor 55 = .ok (.ireturn, 1) := by decide +kernel
theorem dX5_readFactor_56 : decode cX5_readFactor 56 = .ok (.aload_n 0, 1) := by decide +kernel
theorem dX5_readFactor_57 : decode cX5_readFactor 57 = .ok (.getfield 12, 3) := by decide +kernel
theorem dX5_readFactor_60 : decode cX5_readFactor 60 = .ok (.getfield 79, 3) := by decide +kernel
theorem dX5_readFactor_63 : decode cX5_readFactor 63 = .ok (.iconst 2, 1) := by decide +kernel
theorem dX5_readFactor_64 : decode cX5_readFactor 64 = .ok (.if_icmp .ne 25, 3) := by decide +kernel
theorem dX5_readFactor_67 : decode cX5_readFactor 67 = .ok (.aload_n 0, 1) := by decide +kernel
theorem dX5_readFactor_68 : decode cX5_readFactor 68 = .ok (.sipush 9999, 3) := by decide +kernel
theorem dX5_readFactor_71 : decode cX5_readFactor 71 = .ok (.invokevirtual 151, 3) := by decide +kernel
theorem dX5_readFactor_74 : decode cX5_readFactor 74 = .ok (.ifCond .ne 5, 3) := by decide +kernel
theorem dX5_readFactor_77 : decode cX5_readFactor 77 = .ok (.iconst 0, 1) := by decide +kernel
theorem dX5_readFactor_78 : decode cX5_readFactor 78 = .ok (.ireturn, 1) := by decide +kernel
theorem dX5_readFactor_79 : decode cX5_readFactor 79 = .ok (.aload_n 0, 1) := by decide +kernel
theorem dX5_readFactor_80 : decode cX5_readFactor 80 = .ok (.aload_n 0, 1) := by decide +kernel
theorem dX5_readFactor_81 : decode cX5_readFactor 81 = .ok (.getfield 47, 3) := by decide +kernel
theorem dX5_readFactor_84 : decode cX5_readFactor 84 = .ok (.invokevirtual 61, 3) := by decide +kernel
theorem dX5_readFactor_87 : decode cX5_readFactor 87 = .ok (.iconst 1, 1) := by decide +kernel
theorem dX5_readFactor_88 : decode cX5_readFactor 88 = .ok (.ireturn, 1) := by decide +kernel
theorem dX5_readFactor_89 : decode cX5_readFactor 89 = .ok (.aload_n 0, 1) := by decide +kernel
theorem dX5_readFactor_90 : decode cX5_readFactor 90 = .ok (.invokevirtual 202, 3) := by decide +kernel
theorem dX5_readFactor_93 : decode cX5_readFactor 93 = .ok (.istore_n 2, 1) := by decide +kernel
theorem dX5_readFactor_94 : decode cX5_readFactor 94 = .ok (.iload_n 2, 1) := by decide +kernel
theorem dX5_readFactor_95 : decode cX5_readFactor 95 = .ok (.ifCond .ne 8, 3) := by decide +kernel
theorem dX5_readFactor_98 : decode cX5_readFactor 98 = .ok (.aload_n 0, 1) := by decide +kernel
theorem dX5_readFactor_99 : decode cX5_readFactor 99 = .ok (.invokevirtual 131, 3) := by decide +kernel
theorem dX5_readFactor_102 : decode cX5_readFactor 102 = .ok (.ireturn, 1) := by decide +kernel
theorem dX5_readFactor_103 : decode cX5_readFactor 103 = .ok (.aload_n 0, 1) := by decide +kernel
theorem dX5_readFactor_104 : decode cX5_readFactor 104 = .ok (.iload_n 2, 1) := by decide +kernel
theorem dX5_readFactor_105 : decode cX5_readFactor 105 = .ok (.invokevirtual 61, 3) := by decide +kernel
theorem dX5_readFactor_108 : decode cX5_readFactor 108 = .ok (.aload_n 0, 1) := by decide +kernel
theorem dX5_readFactor_109 : decode cX5_readFactor 109 = .ok (.getfield 12, 3) := by decide +kernel
theorem dX5_readFactor_112 : decode cX5_readFactor 112 = .ok (.invokevirtual 141, 3) := by decide +kernel
theorem dX5_readFactor_115 : decode cX5_readFactor 115 = .ok (.iconst 1, 1) := by decide +kernel
theorem dX5_readFactor_116 : decode cX5_readFactor 116 = .ok (.ireturn, 1) := by decide +kernel
theorem dX5_quantityCode_0 : decode cX5_quantityCode 0 = .ok (.aload_n 0, 1) := by decide +kernel
theorem dX5_quantityCode_1 : decode cX5_quantityCode 1 = .ok (.getfield 12, 3) := by decide +kernel
theorem dX5_quantityCode_4 : decode cX5_quantityCode 4 = .ok (.ldc 206, 2) := by decide +kernel
theorem dX5_quantityCode_6 : decode cX5_quantityCode 6 = .ok (.invokevirtual 101, 3) := by decide +kernel
theorem dX5_quantityCode_9 : decode cX5_quantityCode 9 = .ok (.ifCond .eq 5, 3) := by decide +kernel
theorem dX5_quantityCode_12 : decode cX5_quantityCode 12 = .ok (.iconst (-1), 1) := by decide +kernel
theorem dX5_quantityCode_13 : decode cX5_quantityCode 13 = .ok (.ireturn, 1) := by decide +kernel
theorem dX5_quantityCode_14 : decode cX5_quantityCode 14 = .ok (.aload_n 0, 1) := by decide +kernel
theorem dX5_quantityCode_15 : decode cX5_quantityCode 15 = .ok (.getfield 12, 3) := by decide +kernel
theorem dX5_quantityCode_18 : decode cX5_quantityCode 18 = .ok (.ldc 208, 2) := by decide +kernel
theorem dX5_quantityCode_20 : decode cX5_quantityCode 20 = .ok (.invokevirtual 101, 3) := by decide +kernel
theorem dX5_quantityCode_23 : decode cX5_quantityCode 23 = .ok (.ifCond .eq 6, 3) := by decide +kernel
theorem dX5_quantityCode_26 : decode cX5_quantityCode 26 = .ok (.bipush (-2), 2) := by decide +kernel
theorem dX5_quantityCode_28 : decode cX5_quantityCode 28 = .ok (.ireturn, 1) := by decide +kernel
theorem dX5_quantityCode_29 : decode cX5_quantityCode 29 = .ok (.aload_n 0, 1) := by decide +kernel
theorem dX5_quantityCode_30 : decode cX5_quantityCode 30 = .ok (.getfield 12, 3) := by decide +kernel
theorem dX5_quantityCode_33 : decode cX5_quantityCode 33 = .ok (.ldc 210, 2) := by decide +kernel
theorem dX5_quantityCode_35 : decode cX5_quantityCode 35 = .ok (.invokevirtual 101, 3) := by decide +kernel
theorem dX5_quantityCode_38 : decode cX5_quantityCode 38 = .ok (.ifCond .eq 6, 3) := by decide +kernel
theorem dX5_quantityCode_41 : decode cX5_quantityCode 41 = .ok (.bipush (-3), 2) := by decide +kernel
theorem dX5_quantityCode_43 : decode cX5_quantityCode 43 = .ok (.ireturn, 1) := by decide +kernel
theorem dX5_quantityCode_44 : decode cX5_quantityCode 44 = .ok (.aload_n 0, 1) := by decide +kernel
theorem dX5_quantityCode_45 : decode cX5_quantityCode 45 = .ok (.getfield 12, 3) := by decide +kernel
theorem dX5_quantityCode_48 : decode cX5_quantityCode 48 = .ok (.ldc 211, 2) := by decide +kernel
theorem dX5_quantityCode_50 : decode cX5_quantityCode 50 = .ok (.invokevirtual 101, 3) := by decide +kernel
theorem dX5_quantityCode_53 : decode cX5_quantityCode 53 = .ok (.ifCond .eq 8, 3) := by decide +kernel
theorem dX5_quantityCode_56 : decode cX5_quantityCode 56 = .ok (.bipush (-4), 2) := by decide +kernel
theorem dX5_quantityCode_58 : decode cX5_quantityCode 58 = .ok (.goto 4, 3) := by decide +kernel
theorem dX5_quantityCode_61 : decode cX5_quantityCode 61 = .ok (.iconst 0, 1) := by decide +kernel
theorem dX5_quantityCode_62 : decode cX5_quantityCode 62 = .ok (.ireturn, 1) := by decide +kernel
theorem dX5_addCode_0 : decode cX5_addCode 0 = .ok (.aload_n 0, 1) := by decide +kernel
theorem dX5_addCode_1 : decode cX5_addCode 1 = .ok (.getfield 36, 3) := by decide +kernel
theorem dX5_addCode_4 : decode cX5_addCode 4 = .ok (.sipush 800, 3) := by decide +kernel
theorem dX5_addCode_7 : decode cX5_addCode 7 = .ok (.if_icmp .ge 23, 3) := by decide +kernel
theorem dX5_addCode_10 : decode cX5_addCode 10 = .ok (.aload_n 0, 1) := by decide +kernel
theorem dX5_addCode_11 : decode cX5_addCode 11 = .ok (.getfield 32, 3) := by decide +kernel
theorem dX5_addCode_14 : decode cX5_addCode 14 = .ok (.aload_n 0, 1) := by decide +kernel
theorem dX5_addCode_15 : decode cX5_addCode 15 = .ok (.getfield 36, 3) := by decide +kernel
theorem dX5_addCode_18 : decode cX5_addCode 18 = .ok (.iload_n 1, 1) := by decide +kernel
theorem dX5_addCode_19 : decode cX5_addCode 19 = .ok (.iastore, 1) := by decide +kernel
theorem dX5_addCode_20 : decode cX5_addCode 20 = .ok (.aload_n 0, 1) := by decide +kernel
theorem dX5_addCode_21 : decode cX5_addCode 21 = .ok (.dup, 1) := by decide +kernel
theorem dX5_addCode_22 : decode cX5_addCode 22 = .ok (.getfield 36, 3) := by decide +kernel
theorem dX5_addCode_25 : decode cX5_addCode 25 = .ok (.iconst 1, 1) := by decide +kernel
theorem dX5_addCode_26 : decode cX5_addCode 26 = .ok (.iadd, 1) := by decide +kernel
theorem dX5_addCode_27 : decode cX5_addCode 27 = .ok (.putfield 36, 3) := by decide +kernel
theorem dX5_addCode_30 : decode cX5_addCode 30 = .ok (.return_, 1) := by decide +kernel
theorem dX5_readKeyword_0 : decode cX5_readKeyword 0 = .ok (.aload_n 0, 1) := by decide +kernel
theorem dX5_readKeyword_1 : decode cX5_readKeyword 1 = .ok (.getfield 12, 3) := by decide +kernel
theorem dX5_readKeyword_4 : decode cX5_readKeyword 4 = .ok (.aload_n 1, 1) := by decide +kernel
theorem dX5_readKeyword_5 : decode cX5_readKeyword 5 = .ok (.invokevirtual 101, 3) := by decide +kernel
theorem dX5_readKeyword_8 : decode cX5_readKeyword 8 = .ok (.ifCond .ne 8, 3) := by decide +kernel
theorem dX5_readKeyword_11 : decode cX5_readKeyword 11 = .ok (.aload_n 0, 1) := by decide +kernel
theorem dX5_readKeyword_12 : decode cX5_readKeyword 12 = .ok (.invokevirtual 131, 3) := by decide +kernel
theorem dX5_readKeyword_15 : decode cX5_readKeyword 15 = .ok (.ireturn, 1) := by decide +kernel
theorem dX5_readKeyword_16 : decode cX5_readKeyword 16 = .ok (.aload_n 0, 1) := by decide +kernel
theorem dX5_readKeyword_17 : decode cX5_readKeyword 17 = .ok (.getfield 12, 3) := by decide +kernel
theorem dX5_readKeyword_20 : decode cX5_readKeyword 20 = .ok (.invokevirtual 141, 3) := by decide +kernel
theorem dX5_readKeyword_23 : decode cX5_readKeyword 23 = .ok (.iconst 1, 1) := by decide +kernel
theorem dX5_readKeyword_24 : decode cX5_readKeyword 24 = .ok (.ireturn, 1) := by decide +kernel
theorem dX5_readSign_0 : decode cX5_readSign 0 = .ok (.aload_n 0, 1) := by decide +kernel
theorem dX5_readSign_1 : decode cX5_readSign 1 = .ok (.getfield 12, 3) := by decide +kernel
theorem dX5_readSign_4 : decode cX5_readSign 4 = .ok (.iload_n 1, 1) := by decide +kernel
theorem dX5_readSign_5 : decode cX5_readSign 5 = .ok (.invokevirtual 196, 3) := by decide +kernel
theorem dX5_readSign_8 : decode cX5_readSign 8 = .ok (.ifCond .ne 8, 3) := by decide +kernel
theorem dX5_readSign_11 : decode cX5_readSign 11 = .ok (.aload_n 0, 1) := by decide +kernel
theorem dX5_readSign_12 : decode cX5_readSign 12 = .ok (.invokevirtual 131, 3) := by decide +kernel
theorem dX5_readSign_15 : decode cX5_readSign 15 = .ok (.ireturn, 1) := by decide +kernel
theorem dX5_readSign_16 : decode cX5_readSign 16 = .ok (.aload_n 0, 1) := by decide +kernel
theorem dX5_readSign_17 : decode cX5_readSign 17 = .ok (.getfield 12, 3) := by decide +kernel
theorem dX5_readSign_20 : decode cX5_readSign 20 = .ok (.invokevirtual 141, 3) := by decide +kernel
theorem dX5_readSign_23 : decode cX5_readSign 23 = .ok (.iconst 1, 1) := by decide +kernel
theorem dX5_readSign_24 : decode cX5_readSign 24 = .ok (.ireturn, 1) := by decide +kernel
theorem dX5_readNumber_0 : decode cX5_readNumber 0 = .ok (.aload_n 0, 1) := by decide +kernel
theorem dX5_readNumber_1 : decode cX5_readNumber 1 = .ok (.getfield 12, 3) := by decide +kernel
theorem dX5_readNumber_4 : decode cX5_readNumber 4 = .ok (.getfield 79, 3) := by decide +kernel
theorem dX5_readNumber_7 : decode cX5_readNumber 7 = .ok (.iconst 2, 1) := by decide +kernel
theorem dX5_readNumber_8 : decode cX5_readNumber 8 = .ok (.if_icmp .eq 8, 3) := by decide +kernel
theorem dX5_readNumber_11 : decode cX5_readNumber 11 = .ok (.aload_n 0, 1) := by decide +kernel
theorem dX5_readNumber_12 : decode cX5_readNumber 12 = .ok (.invokevirtual 131, 3) := by decide +kernel
theorem dX5_readNumber_15 : decode cX5_readNumber 15 = .ok (.ireturn, 1) := by decide +kernel
theorem dX5_readNumber_16 : decode cX5_readNumber 16 = .ok (.aload_n 0, 1) := by decide +kernel
theorem dX5_readNumber_17 : decode cX5_readNumber 17 = .ok (.getfield 12, 3) := by decide +kernel
theorem dX5_readNumber_20 : decode cX5_readNumber 20 = .ok (.getfield 213, 3) := by decide +kernel
theorem dX5_readNumber_23 : decode cX5_readNumber 23 = .ok (.iload_n 1, 1) := by decide +kernel
theorem dX5_readNumber_24 : decode cX5_readNumber 24 = .ok (.if_icmp .le 10, 3) := by decide +kernel
theorem dX5_readNumber_27 : decode cX5_readNumber 27 = .ok (.aload_n 0, 1) := by decide +kernel
theorem dX5_readNumber_28 : decode cX5_readNumber 28 = .ok (.bipush (-3), 2) := by decide +kernel
theorem dX5_readNumber_30 : decode cX5_readNumber 30 = .ok (.invokevirtual 137, 3) := by decide +kernel
theorem dX5_readNumber_33 : decode cX5_readNumber 33 = .ok (.ireturn, 1) := by decide +kernel
theorem dX5_readNumber_34 : decode cX5_readNumber 34 = .ok (.aload_n 0, 1) := by decide +kernel
theorem dX5_readNumber_35 : decode cX5_readNumber 35 = .ok (.aload_n 0, 1) := by decide +kernel
theorem dX5_readNumber_36 : decode cX5_readNumber 36 = .ok (.getfield 12, 3) := by decide +kernel
theorem dX5_readNumber_39 : decode cX5_readNumber 39 = .ok (.getfield 213, 3) := by decide +kernel
theorem dX5_readNumber_42 : decode cX5_readNumber 42 = .ok (.putfield 47, 3) := by decide +kernel
theorem dX5_readNumber_45 : decode cX5_readNumber 45 = .ok (.aload_n 0, 1) := by decide +kernel
theorem dX5_readNumber_46 : decode cX5_readNumber 46 = .ok (.getfield 12, 3) := by decide +kernel
theorem dX5_readNumber_49 : decode cX5_readNumber 49 = .ok (.invokevirtual 141, 3) := by decide +kernel
theorem dX5_readNumber_52 : decode cX5_readNumber 52 = .ok (.iconst 1, 1) := by decide +kernel
theorem dX5_readNumber_53 : decode cX5_readNumber 53 = .ok (.ireturn, 1) := by decide +kernel
theorem dX5_readNewWord_0 : decode cX5_readNewWord 0 = .ok (.aload_n 0, 1) := by decide +kernel
theorem dX5_readNewWord_1 : decode cX5_readNewWord 1 = .ok (.getfield 12, 3) := by decide +kernel
theorem dX5_readNewWord_4 : decode cX5_readNewWord 4 = .ok (.getfield 79, 3) := by decide +kernel
theorem dX5_readNewWord_7 : decode cX5_readNewWord 7 = .ok (.iconst 1, 1) := by decide +kernel
theorem dX5_readNewWord_8 : decode cX5_readNewWord 8 = .ok (.if_icmp .eq 8, 3) := by decide +kernel
theorem dX5_readNewWord_11 : decode cX5_readNewWord 11 = .ok (.aload_n 0, 1) := by decide +kernel
theorem dX5_readNewWord_12 : decode cX5_readNewWord 12 = .ok (.invokevirtual 131, 3) := by decide +kernel
theorem dX5_readNewWord_15 : decode cX5_readNewWord 15 = .ok (.ireturn, 1) := by decide +kernel
theorem dX5_readNewWord_16 : decode cX5_readNewWord 16 = .ok (.aload_n 0, 1) := by decide +kernel
theorem dX5_readNewWord_17 : decode cX5_readNewWord 17 = .ok (.aload_n 1, 1) := by decide +kernel
theorem dX5_readNewWord_18 : decode cX5_readNewWord 18 = .ok (.iload_n 2, 1) := by decide +kernel
theorem dX5_readNewWord_19 : decode cX5_readNewWord 19 = .ok (.invokevirtual 216, 3) := by decide +kernel
theorem dX5_readNewWord_22 : decode cX5_readNewWord 22 = .ok (.iconst (-1), 1) := by decide +kernel
theorem dX5_readNewWord_23 : decode cX5_readNewWord 23 = .ok (.if_icmp .eq 10, 3) := by decide +kernel
theorem dX5_readNewWord_26 : decode cX5_readNewWord 26 = .ok (.aload_n 0, 1) := by decide +kernel
theorem dX5_readNewWord_27 : decode cX5_readNewWord 27 = .ok (.bipush (-5), 2) := by decide +kernel
theorem dX5_readNewWord_29 : decode cX5_readNewWord 29 = .ok (.invokevirtual 137, 3) := by decide +kernel
theorem dX5_readNewWord_32 : decode cX5_readNewWord 32 = .ok (.ireturn, 1) := by decide +kernel
theorem dX5_readNewWord_33 : decode cX5_readNewWord 33 = .ok (.aload_n 1, 1) := by decide +kernel
theorem dX5_readNewWord_34 : decode cX5_readNewWord 34 = .ok (.iload_n 2, 1) := by decide +kernel
theorem dX5_readNewWord_35 : decode cX5_readNewWord 35 = .ok (.aload_n 0, 1) := by decide +kernel
theorem dX5_readNewWord_36 : decode cX5_readNewWord 36 = .ok (.getfield 12, 3) := by decide +kernel
theorem dX5_readNewWord_39 : decode cX5_readNewWord 39 = .ok (.getfield 220, 3) := by decide +kernel
theorem dX5_readNewWord_42 : decode cX5_readNewWord 42 = .ok (.lastore, 1) := by decide +kernel
theorem dX5_readNewWord_43 : decode cX5_readNewWord 43 = .ok (.aload_n 0, 1) := by decide +kernel
theorem dX5_readNewWord_44 : decode cX5_readNewWord 44 = .ok (.getfield 12, 3) := by decide +kernel
theorem dX5_readNewWord_47 : decode cX5_readNewWord 47 = .ok (.invokevirtual 141, 3) := by decide +kernel
theorem dX5_readNewWord_50 : decode cX5_readNewWord 50 = .ok (.iconst 1, 1) := by decide +kernel
theorem dX5_readNewWord_51 : decode cX5_readNewWord 51 = .ok (.ireturn, 1) := by decide +kernel
theorem dX5_findLibrary_0 : decode cX5_findLibrary 0 = .ok (.aload_n 0, 1) := by decide +kernel
theorem dX5_findLibrary_1 : decode cX5_findLibrary 1 = .ok (.aload_n 0, 1) := by decide +kernel
theorem dX5_findLibrary_2 : decode cX5_findLibrary 2 = .ok (.getfield 25, 3) := by decide +kernel
theorem dX5_findLibrary_5 : decode cX5_findLibrary 5 = .ok (.aload_n 0, 1) := by decide +kernel
theorem dX5_findLibrary_6 : decode cX5_findLibrary 6 = .ok (.getfield 21, 3) := by decide +kernel
theorem dX5_findLibrary_9 : decode cX5_findLibrary 9 = .ok (.getfield 148, 3) := by decide +kernel
theorem dX5_findLibrary_12 : decode cX5_findLibrary 12 = .ok (.invokevirtual 224, 3) := by decide +kernel
theorem dX5_findLibrary_15 : decode cX5_findLibrary 15 = .ok (.ireturn, 1) := by decide +kernel
theorem dX5_findName_0 : decode cX5_findName 0 = .ok (.aload_n 0, 1) := by decide +kernel
theorem dX5_findName_1 : decode cX5_findName 1 = .ok (.aload_n 0, 1) := by decide +kernel
theorem dX5_findName_2 : decode cX5_findName 2 = .ok (.getfield 29, 3) := by decide +kernel
theorem dX5_findName_5 : decode cX5_findName 5 = .ok (.aload_n 0, 1) := by decide +kernel
theorem dX5_findName_6 : decode cX5_findName 6 = .ok (.getfield 21, 3) := by decide +kernel
theorem dX5_findName_9 : decode cX5_findName 9 = .ok (.getfield 134, 3) := by decide +kernel
theorem dX5_findName_12 : decode cX5_findName 12 = .ok (.invokevirtual 224, 3) := by decide +kernel
theorem dX5_findName_15 : decode cX5_findName 15 = .ok (.ireturn, 1) := by decide +kernel
theorem dX5_findWord_0 : decode cX5_findWord 0 = .ok (.aload_n 0, 1) := by decide +kernel
theorem dX5_findWord_1 : decode cX5_findWord 1 = .ok (.getfield 12, 3) := by decide +kernel
theorem dX5_findWord_4 : decode cX5_findWord 4 = .ok (.getfield 79, 3) := by decide +kernel
theorem dX5_findWord_7 : decode cX5_findWord 7 = .ok (.iconst 1, 1) := by decide +kernel
theorem dX5_findWord_8 : decode cX5_findWord 8 = .ok (.if_icmp .eq 8, 3) := by decide +kernel
theorem dX5_findWord_11 : decode cX5_findWord 11 = .ok (.aload_n 0, 1) := by decide +kernel
theorem dX5_findWord_12 : decode cX5_findWord 12 = .ok (.invokevirtual 131, 3) := by decide +kernel
theorem dX5_findWord_15 : decode cX5_findWord 15 = .ok (.ireturn, 1) := by decide +kernel
theorem dX5_findWord_16 : decode cX5_findWord 16 = .ok (.aload_n 0, 1) := by decide +kernel
theorem dX5_findWord_17 : decode cX5_findWord 17 = .ok (.aload_n 1, 1) := by decide +kernel
theorem dX5_findWord_18 : decode cX5_findWord 18 = .ok (.iload_n 2, 1) := by decide +kernel
theorem dX5_findWord_19 : decode cX5_findWord 19 = .ok (.invokevirtual 216, 3) := by decide +kernel
theorem dX5_findWord_22 : decode cX5_findWord 22 = .ok (.istore_n 3, 1) := by decide +kernel
theorem dX5_findWord_23 : decode cX5_findWord 23 = .ok (.iload_n 3, 1) := by decide +kernel
theorem dX5_findWord_24 : decode cX5_findWord 24 = .ok (.iconst (-1), 1) := by decide +kernel
theorem dX5_findWord_25 : decode cX5_findWord 25 = .ok (.if_icmp .ne 10, 3) := by decide +kernel
theorem dX5_findWord_28 : decode cX5_findWord 28 = .ok (.aload_n 0, 1) := by decide +kernel
theorem dX5_findWord_29 : decode cX5_findWord 29 = .ok (.bipush (-4), 2) := by decide +kernel
theorem dX5_findWord_31 : decode cX5_findWord 31 = .ok (.invokevirtual 137, 3) := by decide +kernel
theorem dX5_findWord_34 : decode cX5_findWord 34 = .ok (.ireturn, 1) := by decide +kernel
theorem dX5_findWord_35 : decode cX5_findWord 35 = .ok (.aload_n 0, 1) := by decide +kernel
theorem dX5_findWord_36 : decode cX5_findWord 36 = .ok (.iload_n 3, 1) := by decide +kernel
theorem dX5_findWord_37 : decode cX5_findWord 37 = .ok (.putfield 47, 3) := by decide +kernel
theorem dX5_findWord_40 : decode cX5_findWord 40 = .ok (.iconst 1, 1) := by decide +kernel
theorem dX5_findWord_41 : decode cX5_findWord 41 = .ok (.ireturn, 1) := by decide +kernel
theorem dX5_indexOfWord_0 : decode cX5_indexOfWord 0 = .ok (.iconst 0, 1) := by decide +kernel
theorem dX5_indexOfWord_1 : decode cX5_indexOfWord 1 = .ok (.istore_n 3, 1) := by decide +kernel
theorem dX5_indexOfWord_2 : decode cX5_indexOfWord 2 = .ok (.iload_n 3, 1) := by decide +kernel
theorem dX5_indexOfWord_3 : decode cX5_indexOfWord 3 = .ok (.iload_n 2, 1) := by decide +kernel
theorem dX5_indexOfWord_4 : decode cX5_indexOfWord 4 = .ok (.if_icmp .ge 25, 3) := by decide +kernel
theorem dX5_indexOfWord_7 : decode cX5_indexOfWord 7 = .ok (.aload_n 1, 1) := by decide +kernel
theorem dX5_indexOfWord_8 : decode cX5_indexOfWord 8 = .ok (.iload_n 3, 1) := by decide +kernel
theorem dX5_indexOfWord_9 : decode cX5_indexOfWord 9 = .ok (.laload, 1) := by decide +kernel
theorem dX5_indexOfWord_10 : decode cX5_indexOfWord 10 = .ok (.aload_n 0, 1) := by decide +kernel
theorem dX5_indexOfWord_11 : decode cX5_indexOfWord 11 = .ok (.getfield 12, 3) := by decide +kernel
theorem dX5_indexOfWord_14 : decode cX5_indexOfWord 14 = .ok (.getfield 220, 3) := by decide +kernel
theorem dX5_indexOfWord_17 : decode cX5_indexOfWord 17 = .ok (.lcmp, 1) := by decide +kernel
theorem dX5_indexOfWord_18 : decode cX5_indexOfWord 18 = .ok (.ifCond .ne 5, 3) := by decide +kernel
theorem dX5_indexOfWord_21 : decode cX5_indexOfWord 21 = .ok (.iload_n 3, 1) := by decide +kernel
theorem dX5_indexOfWord_22 : decode cX5_indexOfWord 22 = .ok (.ireturn, 1) := by decide +kernel
theorem dX5_indexOfWord_23 : decode cX5_indexOfWord 23 = .ok (.iinc 3 1, 3) := by decide +kernel
theorem dX5_indexOfWord_26 : decode cX5_indexOfWord 26 = .ok (.goto (-24), 3) := by decide +kernel
theorem dX5_indexOfWord_29 : decode cX5_indexOfWord 29 = .ok (.iconst (-1), 1) := by decide +kernel
theorem dX5_indexOfWord_30 : decode cX5_indexOfWord 30 = .ok (.ireturn, 1) := by decide +kernel
theorem dX5_syntaxError_0 : decode cX5_syntaxError 0 = .ok (.aload_n 0, 1) := by decide +kernel
theorem dX5_syntaxError_1 : decode cX5_syntaxError 1 = .ok (.bipush (-2), 2) := by decide +kernel
theorem dX5_syntaxError_3 : decode cX5_syntaxError 3 = .ok (.invokevirtual 137, 3) := by decide +kernel
theorem dX5_syntaxError_6 : decode cX5_syntaxError 6 = .ok (.ireturn, 1) := by decide +kernel
theorem dX5_error_0 : decode cX5_error 0 = .ok (.aload_n 0, 1) := by decide +kernel
theorem dX5_error_1 : decode cX5_error 1 = .ok (.iload_n 1, 1) := by decide +kernel
theorem dX5_error_2 : decode cX5_error 2 = .ok (.putfield 50, 3) := by decide +kernel
theorem dX5_error_5 : decode cX5_error 5 = .ok (.aload_n 0, 1) := by decide +kernel
theorem dX5_error_6 : decode cX5_error 6 = .ok (.aload_n 0, 1) := by decide +kernel
theorem dX5_error_7 : decode cX5_error 7 = .ok (.getfield 12, 3) := by decide +kernel
theorem dX5_error_10 : decode cX5_error 10 = .ok (.getfield 227, 3) := by decide +kernel
theorem dX5_error_13 : decode cX5_error 13 = .ok (.putfield 53, 3) := by decide +kernel
theorem dX5_error_16 : decode cX5_error 16 = .ok (.iconst 0, 1) := by decide +kernel
theorem dX5_error_17 : decode cX5_error 17 = .ok (.ireturn, 1) := by decide +kernel
