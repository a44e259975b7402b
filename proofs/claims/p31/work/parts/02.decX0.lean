theorem dX0_init_0 : decode cX0_init 0 = .ok (.aload_n 0, 1) := by decide +kernel
theorem dX0_init_1 : decode cX0_init 1 = .ok (.invokespecial 3, 3) := by decide +kernel
theorem dX0_init_4 : decode cX0_init 4 = .ok (.aload_n 0, 1) := by decide +kernel
theorem dX0_init_5 : decode cX0_init 5 = .ok (.bipush 8, 2) := by decide +kernel
theorem dX0_init_7 : decode cX0_init 7 = .ok (.anewarray 9, 3) := by decide +kernel
theorem dX0_init_10 : decode cX0_init 10 = .ok (.putfield 11, 3) := by decide +kernel
theorem dX0_init_13 : decode cX0_init 13 = .ok (.aload_n 0, 1) := by decide +kernel
theorem dX0_init_14 : decode cX0_init 14 = .ok (.iconst 0, 1) := by decide +kernel
theorem dX0_init_15 : decode cX0_init 15 = .ok (.putfield 17, 3) := by decide +kernel
theorem dX0_init_18 : decode cX0_init 18 = .ok (.aload_n 0, 1) := by decide +kernel
theorem dX0_init_19 : decode cX0_init 19 = .ok (.iconst 0, 1) := by decide +kernel
theorem dX0_init_20 : decode cX0_init 20 = .ok (.putfield 21, 3) := by decide +kernel
theorem dX0_init_23 : decode cX0_init 23 = .ok (.aload_n 0, 1) := by decide +kernel
theorem dX0_init_24 : decode cX0_init 24 = .ok (.bipush 50, 2) := by decide +kernel
theorem dX0_init_26 : decode cX0_init 26 = .ok (.putfield 24, 3) := by decide +kernel
theorem dX0_init_29 : decode cX0_init 29 = .ok (.aload_n 0, 1) := by decide +kernel
theorem dX0_init_30 : decode cX0_init 30 = .ok (.new 27, 3) := by decide +kernel
theorem dX0_init_33 : decode cX0_init 33 = .ok (.dup, 1) := by decide +kernel
theorem dX0_init_34 : decode cX0_init 34 = .ok (.iconst 1, 1) := by decide +kernel
theorem dX0_init_35 : decode cX0_init 35 = .ok (.newarray .int, 2) := by decide +kernel
theorem dX0_init_37 : decode cX0_init 37 = .ok (.dup, 1) := by decide +kernel
theorem dX0_init_38 : decode cX0_init 38 = .ok (.iconst 0, 1) := by decide +kernel
theorem dX0_init_39 : decode cX0_init 39 = .ok (.iconst (-1), 1) := by decide +kernel
theorem dX0_init_40 : decode cX0_init 40 = .ok (.iastore, 1) := by decide +kernel
theorem dX0_init_41 : decode cX0_init 41 = .ok (.invokespecial 29, 3) := by decide +kernel
theorem dX0_init_44 : decode cX0_init 44 = .ok (.putfield 32, 3) := by decide +kernel
theorem dX0_init_47 : decode cX0_init 47 = .ok (.iconst 0, 1) := by decide +kernel
theorem dX0_init_48 : decode cX0_init 48 = .ok (.istore_n 1, 1) := by decide +kernel
theorem dX0_init_49 : decode cX0_init 49 = .ok (.iload_n 1, 1) := by decide +kernel
theorem dX0_init_50 : decode cX0_init 50 = .ok (.bipush 8, 2) := by decide +kernel
theorem dX0_init_52 : decode cX0_init 52 = .ok (.if_icmp .ge 22, 3) := by decide +kernel
theorem dX0_init_55 : decode cX0_init 55 = .ok (.aload_n 0, 1) := by decide +kernel
theorem dX0_init_56 : decode cX0_init 56 = .ok (.getfield 11, 3) := by decide +kernel
theorem dX0_init_59 : decode cX0_init 59 = .ok (.iload_n 1, 1) := by decide +kernel
theorem dX0_init_60 : decode cX0_init 60 = .ok (.new 9, 3) := by decide +kernel
theorem dX0_init_63 : decode cX0_init 63 = .ok (.dup, 1) := by decide +kernel
theorem dX0_init_64 : decode cX0_init 64 = .ok (.invokespecial 36, 3) := by decide +kernel
theorem dX0_init_67 : decode cX0_init 67 = .ok (.aastore, 1) := by decide +kernel
theorem dX0_init_68 : decode cX0_init 68 = .ok (.iinc 1 1, 3) := by decide +kernel
theorem dX0_init_71 : decode cX0_init 71 = .ok (.goto (-22), 3) := by decide +kernel
theorem dX0_init_74 : decode cX0_init 74 = .ok (.return_, 1) := by decide +kernel
theorem dX0_clear_0 : decode cX0_clear 0 = .ok (.aload_n 0, 1) := by decide +kernel
theorem dX0_clear_1 : decode cX0_clear 1 = .ok (.iconst 0, 1) := by decide +kernel
theorem dX0_clear_2 : decode cX0_clear 2 = .ok (.putfield 17, 3) := by decide +kernel
theorem dX0_clear_5 : decode cX0_clear 5 = .ok (.aload_n 0, 1) := by decide +kernel
theorem dX0_clear_6 : decode cX0_clear 6 = .ok (.iconst 0, 1) := by decide +kernel
theorem dX0_clear_7 : decode cX0_clear 7 = .ok (.putfield 21, 3) := by decide +kernel
theorem dX0_clear_10 : decode cX0_clear 10 = .ok (.aload_n 0, 1) := by decide +kernel
theorem dX0_clear_11 : decode cX0_clear 11 = .ok (.bipush 50, 2) := by decide +kernel
theorem dX0_clear_13 : decode cX0_clear 13 = .ok (.putfield 24, 3) := by decide +kernel
theorem dX0_clear_16 : decode cX0_clear 16 = .ok (.return_, 1) := by decide +kernel
theorem dX0_copyFrom_0 : decode cX0_copyFrom 0 = .ok (.aload_n 0, 1) := by decide +kernel
theorem dX0_copyFrom_1 : decode cX0_copyFrom 1 = .ok (.aload_n 1, 1) := by decide +kernel
theorem dX0_copyFrom_2 : decode cX0_copyFrom 2 = .ok (.getfield 17, 3) := by decide +kernel
theorem dX0_copyFrom_5 : decode cX0_copyFrom 5 = .ok (.putfield 17, 3) := by decide +kernel
theorem dX0_copyFrom_8 : decode cX0_copyFrom 8 = .ok (.aload_n 0, 1) := by decide +kernel
theorem dX0_copyFrom_9 : decode cX0_copyFrom 9 = .ok (.aload_n 1, 1) := by decide +kernel
theorem dX0_copyFrom_10 : decode cX0_copyFrom 10 = .ok (.getfield 21, 3) := by decide +kernel
theorem dX0_copyFrom_13 : decode cX0_copyFrom 13 = .ok (.putfield 21, 3) := by decide +kernel
theorem dX0_copyFrom_16 : decode cX0_copyFrom 16 = .ok (.aload_n 0, 1) := by decide +kernel
theorem dX0_copyFrom_17 : decode cX0_copyFrom 17 = .ok (.aload_n 1, 1) := by decide +kernel
theorem dX0_copyFrom_18 : decode cX0_copyFrom 18 = .ok (.getfield 24, 3) := by decide +kernel
theorem dX0_copyFrom_21 : decode cX0_copyFrom 21 = .ok (.putfield 24, 3) := by decide +kernel
theorem dX0_copyFrom_24 : decode cX0_copyFrom 24 = .ok (.aload_n 0, 1) := by decide +kernel
theorem dX0_copyFrom_25 : decode cX0_copyFrom 25 = .ok (.aload_n 1, 1) := by decide +kernel
theorem dX0_copyFrom_26 : decode cX0_copyFrom 26 = .ok (.getfield 32, 3) := by decide +kernel
theorem dX0_copyFrom_29 : decode cX0_copyFrom 29 = .ok (.putfield 32, 3) := by decide +kernel
theorem dX0_copyFrom_32 : decode cX0_copyFrom 32 = .ok (.iconst 0, 1) := by decide +kernel
theorem dX0_copyFrom_33 : decode cX0_copyFrom 33 = .ok (.istore_n 2, 1) := by decide +kernel
theorem dX0_copyFrom_34 : decode cX0_copyFrom 34 = .ok (.iload_n 2, 1) := by decide +kernel
theorem dX0_copyFrom_35 : decode cX0_copyFrom 35 = .ok (.bipush 8, 2) := by decide +kernel
theorem dX0_copyFrom_37 : decode cX0_copyFrom 37 = .ok (.if_icmp .ge 24, 3) := by decide +kernel
theorem dX0_copyFrom_40 : decode cX0_copyFrom 40 = .ok (.aload_n 0, 1) := by decide +kernel
theorem dX0_copyFrom_41 : decode cX0_copyFrom 41 = .ok (.getfield 11, 3) := by decide +kernel
theorem dX0_copyFrom_44 : decode cX0_copyFrom 44 = .ok (.iload_n 2, 1) := by decide +kernel
theorem dX0_copyFrom_45 : decode cX0_copyFrom 45 = .ok (.aaload, 1) := by decide +kernel
theorem dX0_copyFrom_46 : decode cX0_copyFrom 46 = .ok (.aload_n 1, 1) := by decide +kernel
theorem dX0_copyFrom_47 : decode cX0_copyFrom 47 = .ok (.getfield 11, 3) := by decide +kernel
theorem dX0_copyFrom_50 : decode cX0_copyFrom 50 = .ok (.iload_n 2, 1) := by decide +kernel
theorem dX0_copyFrom_51 : decode cX0_copyFrom 51 = .ok (.aaload, 1) := by decide +kernel
theorem dX0_copyFrom_52 : decode cX0_copyFrom 52 = .ok (.invokevirtual 37, 3) := by decide +kernel
theorem dX0_copyFrom_55 : decode cX0_copyFrom 55 = .ok (.iinc 2 1, 3) := by decide +kernel
theorem dX0_copyFrom_58 : decode cX0_copyFrom 58 = .ok (.goto (-24), 3) := by decide +kernel
theorem dX0_copyFrom_61 : decode cX0_copyFrom 61 = .ok (.return_, 1) := by decide +kernel
theorem dX0_isCandidate_0 : decode cX0_isCandidate 0 = .ok (.aload_n 0, 1) := by decide +kernel
theorem dX0_isCandidate_1 : decode cX0_isCandidate 1 = .ok (.getfield 11, 3) := by decide +kernel
theorem dX0_isCandidate_4 : decode cX0_isCandidate 4 = .ok (.iload_n 1, 1) := by decide +kernel
theorem dX0_isCandidate_5 : decode cX0_isCandidate 5 = .ok (.aaload, 1) := by decide +kernel
theorem dX0_isCandidate_6 : decode cX0_isCandidate 6 = .ok (.invokevirtual 41, 3) := by decide +kernel
theorem dX0_isCandidate_9 : decode cX0_isCandidate 9 = .ok (.ifCond .eq 20, 3) := by decide +kernel
theorem dX0_isCandidate_12 : decode cX0_isCandidate 12 = .ok (.aload_n 0, 1) := by decide +kernel
theorem dX0_isCandidate_13 : decode cX0_isCandidate 13 = .ok (.getfield 11, 3) := by decide +kernel
theorem dX0_isCandidate_16 : decode cX0_isCandidate 16 = .ok (.iload_n 1, 1) := by decide +kernel
theorem dX0_isCandidate_17 : decode cX0_isCandidate 17 = .ok (.aaload, 1) := by decide +kernel
theorem dX0_isCandidate_18 : decode cX0_isCandidate 18 = .ok (.iload_n 2, 1) := by decide +kernel
theorem dX0_isCandidate_19 : decode cX0_isCandidate 19 = .ok (.invokevirtual 45, 3) := by decide +kernel
theorem dX0_isCandidate_22 : decode cX0_isCandidate 22 = .ok (.ifCond .eq 7, 3) := by decide +kernel
theorem dX0_isCandidate_25 : decode cX0_isCandidate 25 = .ok (.iconst 1, 1) := by decide +kernel
theorem dX0_isCandidate_26 : decode cX0_isCandidate 26 = .ok (.goto 4, 3) := by decide +kernel
theorem dX0_isCandidate_29 : decode cX0_isCandidate 29 = .ok (.iconst 0, 1) := by decide +kernel
theorem dX0_isCandidate_30 : decode cX0_isCandidate 30 = .ok (.ireturn, 1) := by decide +kernel
theorem dX0_takeOut_0 : decode cX0_takeOut 0 = .ok (.aload_n 0, 1) := by decide +kernel
theorem dX0_takeOut_1 : decode cX0_takeOut 1 = .ok (.getfield 11, 3) := by decide +kernel
theorem dX0_takeOut_4 : decode cX0_takeOut 4 = .ok (.iload_n 1, 1) := by decide +kernel
theorem dX0_takeOut_5 : decode cX0_takeOut 5 = .ok (.aaload, 1) := by decide +kernel
theorem dX0_takeOut_6 : decode cX0_takeOut 6 = .ok (.getfield 49, 3) := by decide +kernel
theorem dX0_takeOut_9 : decode cX0_takeOut 9 = .ok (.istore_n 2, 1) := by decide +kernel
theorem dX0_takeOut_10 : decode cX0_takeOut 10 = .ok (.aload_n 0, 1) := by decide +kernel
theorem dX0_takeOut_11 : decode cX0_takeOut 11 = .ok (.getfield 11, 3) := by decide +kernel
theorem dX0_takeOut_14 : decode cX0_takeOut 14 = .ok (.iload_n 1, 1) := by decide +kernel
theorem dX0_takeOut_15 : decode cX0_takeOut 15 = .ok (.aaload, 1) := by decide +kernel
theorem dX0_takeOut_16 : decode cX0_takeOut 16 = .ok (.iconst (-1), 1) := by decide +kernel
theorem dX0_takeOut_17 : decode cX0_takeOut 17 = .ok (.putfield 49, 3) := by decide +kernel
theorem dX0_takeOut_20 : decode cX0_takeOut 20 = .ok (.iconst 0, 1) := by decide +kernel
theorem dX0_takeOut_21 : decode cX0_takeOut 21 = .ok (.istore_n 3, 1) := by decide +kernel
theorem dX0_takeOut_22 : decode cX0_takeOut 22 = .ok (.iload_n 3, 1) := by decide +kernel
theorem dX0_takeOut_23 : decode cX0_takeOut 23 = .ok (.aload_n 0, 1) := by decide +kernel
theorem dX0_takeOut_24 : decode cX0_takeOut 24 = .ok (.getfield 17, 3) := by decide +kernel
theorem dX0_takeOut_27 : decode cX0_takeOut 27 = .ok (.if_icmp .ge 37, 3) := by decide +kernel
theorem dX0_takeOut_30 : decode cX0_takeOut 30 = .ok (.aload_n 0, 1) := by decide +kernel
theorem dX0_takeOut_31 : decode cX0_takeOut 31 = .ok (.getfield 11, 3) := by decide +kernel
theorem dX0_takeOut_34 : decode cX0_takeOut 34 = .ok (.iload_n 3, 1) := by decide +kernel
theorem dX0_takeOut_35 : decode cX0_takeOut 35 = .ok (.aaload, 1) := by decide +kernel
theorem dX0_takeOut_36 : decode cX0_takeOut 36 = .ok (.getfield 49, 3) := by decide +kernel
theorem dX0_takeOut_39 : decode cX0_takeOut 39 = .ok (.iload_n 2, 1) := by decide +kernel
theorem dX0_takeOut_40 : decode cX0_takeOut 40 = .ok (.if_icmp .le 18, 3) := by decide +kernel
theorem dX0_takeOut_43 : decode cX0_takeOut 43 = .ok (.aload_n 0, 1) := by decide +kernel
theorem dX0_takeOut_44 : decode cX0_takeOut 44 = .ok (.getfield 11, 3) := by decide +kernel
theorem dX0_takeOut_47 : decode cX0_takeOut 47 = .ok (.iload_n 3, 1) := by decide +kernel
theorem dX0_takeOut_48 : decode cX0_takeOut 48 = .ok (.aaload, 1) := by decide +kernel
theorem dX0_takeOut_49 : decode cX0_takeOut 49 = .ok (.dup, 1) := by decide +kernel
theorem dX0_takeOut_50 : decode cX0_takeOut 50 = .ok (.getfield 49, 3) := by decide +kernel
theorem dX0_takeOut_53 : decode cX0_takeOut 53 = .ok (.iconst 1, 1) := by decide +kernel
theorem dX0_takeOut_54 : decode cX0_takeOut 54 = .ok (.isub, 1) := by decide +kernel
theorem dX0_takeOut_55 : decode cX0_takeOut 55 = .ok (.putfield 49, 3) := by decide +kernel
theorem dX0_takeOut_58 : decode cX0_takeOut 58 = .ok (.iinc 3 1, 3) := by decide +kernel
theorem dX0_takeOut_61 : decode cX0_takeOut 61 = .ok (.goto (-39), 3) := by decide +kernel
theorem dX0_takeOut_64 : decode cX0_takeOut 64 = .ok (.return_, 1) := by decide +kernel
theorem dX0_takeIn_0 : decode cX0_takeIn 0 = .ok (.iconst 0, 1) := by decide +kernel
theorem dX0_takeIn_1 : decode cX0_takeIn 1 = .ok (.istore_n 2, 1) := by decide +kernel
theorem dX0_takeIn_2 : decode cX0_takeIn 2 = .ok (.iconst 0, 1) := by decide +kernel
theorem dX0_takeIn_3 : decode cX0_takeIn 3 = .ok (.istore_n 3, 1) := by decide +kernel
theorem dX0_takeIn_4 : decode cX0_takeIn 4 = .ok (.iload_n 3, 1) := by decide +kernel
theorem dX0_takeIn_5 : decode cX0_takeIn 5 = .ok (.aload_n 0, 1) := by decide +kernel
theorem dX0_takeIn_6 : decode cX0_takeIn 6 = .ok (.getfield 17, 3) := by decide +kernel
theorem dX0_takeIn_9 : decode cX0_takeIn 9 = .ok (.if_icmp .ge 24, 3) := by decide +kernel
theorem dX0_takeIn_12 : decode cX0_takeIn 12 = .ok (.aload_n 0, 1) := by decide +kernel
theorem dX0_takeIn_13 : decode cX0_takeIn 13 = .ok (.getfield 11, 3) := by decide +kernel
theorem dX0_takeIn_16 : decode cX0_takeIn 16 = .ok (.iload_n 3, 1) := by decide +kernel
theorem dX0_takeIn_17 : decode cX0_takeIn 17 = .ok (.aaload, 1) := by decide +kernel
theorem dX0_takeIn_18 : decode cX0_takeIn 18 = .ok (.invokevirtual 41, 3) := by decide +kernel
theorem dX0_takeIn_21 : decode cX0_takeIn 21 = .ok (.ifCond .eq 6, 3) := by decide +kernel
theorem dX0_takeIn_24 : decode cX0_takeIn 24 = .ok (.iinc 2 1, 3) := by decide +kernel
theorem dX0_takeIn_27 : decode cX0_takeIn 27 = .ok (.iinc 3 1, 3) := by decide +kernel
theorem dX0_takeIn_30 : decode cX0_takeIn 30 = .ok (.goto (-26), 3) := by decide +kernel
theorem dX0_takeIn_33 : decode cX0_takeIn 33 = .ok (.aload_n 0, 1) := by decide +kernel
theorem dX0_takeIn_34 : decode cX0_takeIn 34 = .ok (.getfield 11, 3) := by decide +kernel
theorem dX0_takeIn_37 : decode cX0_takeIn 37 = .ok (.iload_n 1, 1) := by decide +kernel
theorem dX0_takeIn_38 : decode cX0_takeIn 38 = .ok (.aaload, 1) := by decide +kernel
theorem dX0_takeIn_39 : decode cX0_takeIn 39 = .ok (.iload_n 2, 1) := by decide +kernel
theorem dX0_takeIn_40 : decode cX0_takeIn 40 = .ok (.putfield 49, 3) := by decide +kernel
theorem dX0_takeIn_43 : decode cX0_takeIn 43 = .ok (.return_, 1) := by decide +kernel
theorem dX0_friendsOf_0 : decode cX0_friendsOf 0 = .ok (.iconst 0, 1) := by decide +kernel
theorem dX0_friendsOf_1 : decode cX0_friendsOf 1 = .ok (.istore_n 2, 1) := by decide +kernel
theorem dX0_friendsOf_2 : decode cX0_friendsOf 2 = .ok (.iconst 0, 1) := by decide +kernel
theorem dX0_friendsOf_3 : decode cX0_friendsOf 3 = .ok (.istore_n 3, 1) := by decide +kernel
theorem dX0_friendsOf_4 : decode cX0_friendsOf 4 = .ok (.iload_n 3, 1) := by decide +kernel
theorem dX0_friendsOf_5 : decode cX0_friendsOf 5 = .ok (.aload_n 0, 1) := by decide +kernel
theorem dX0_friendsOf_6 : decode cX0_friendsOf 6 = .ok (.getfield 17, 3) := by decide +kernel
theorem dX0_friendsOf_9 : decode cX0_friendsOf 9 = .ok (.if_icmp .ge 37, 3) := by decide +kernel
theorem dX0_friendsOf_12 : decode cX0_friendsOf 12 = .ok (.aload_n 0, 1) := by decide +kernel
theorem dX0_friendsOf_13 : decode cX0_friendsOf 13 = .ok (.getfield 11, 3) := by decide +kernel
theorem dX0_friendsOf_16 : decode cX0_friendsOf 16 = .ok (.iload_n 3, 1) := by decide +kernel
theorem dX0_friendsOf_17 : decode cX0_friendsOf 17 = .ok (.aaload, 1) := by decide +kernel
theorem dX0_friendsOf_18 : decode cX0_friendsOf 18 = .ok (.invokevirtual 41, 3) := by decide +kernel
theorem dX0_friendsOf_21 : decode cX0_friendsOf 21 = .ok (.ifCond .eq 19, 3) := by decide +kernel
theorem dX0_friendsOf_24 : decode cX0_friendsOf 24 = .ok (.aload_n 0, 1) := by decide +kernel
theorem dX0_friendsOf_25 : decode cX0_friendsOf 25 = .ok (.getfield 11, 3) := by decide +kernel
theorem dX0_friendsOf_28 : decode cX0_friendsOf 28 = .ok (.iload_n 3, 1) := by decide +kernel
theorem dX0_friendsOf_29 : decode cX0_friendsOf 29 = .ok (.aaload, 1) := by decide +kernel
theorem dX0_friendsOf_30 : decode cX0_friendsOf 30 = .ok (.iload_n 1, 1) := by decide +kernel
theorem dX0_friendsOf_31 : decode cX0_friendsOf 31 = .ok (.invokevirtual 52, 3) := by decide +kernel
theorem dX0_friendsOf_34 : decode cX0_friendsOf 34 = .ok (.ifCond .eq 6, 3) := by decide +kernel
theorem dX0_friendsOf_37 : decode cX0_friendsOf 37 = .ok (.iinc 2 1, 3) := by decide +kernel
theorem dX0_friendsOf_40 : decode cX0_friendsOf 40 = .ok (.iinc 3 1, 3) := by decide +kernel
theorem dX0_friendsOf_43 : decode cX0_friendsOf 43 = .ok (.goto (-39), 3) := by decide +kernel
theorem dX0_friendsOf_46 : decode cX0_friendsOf 46 = .ok (.iload_n 2, 1) := by decide +kernel
theorem dX0_friendsOf_47 : decode cX0_friendsOf 47 = .ok (.ireturn, 1) := by decide +kernel
theorem dX0_weightOf_0 : decode cX0_weightOf 0 = .ok (.aload_n 0, 1) := by decide +kernel
theorem dX0_weightOf_1 : decode cX0_weightOf 1 = .ok (.getfield 11, 3) := by decide +kernel
theorem dX0_weightOf_4 : decode cX0_weightOf 4 = .ok (.iload_n 1, 1) := by decide +kernel
theorem dX0_weightOf_5 : decode cX0_weightOf 5 = .ok (.aaload, 1) := by decide +kernel
theorem dX0_weightOf_6 : decode cX0_weightOf 6 = .ok (.astore_n 2, 1) := by decide +kernel
theorem dX0_weightOf_7 : decode cX0_weightOf 7 = .ok (.aload_n 0, 1) := by decide +kernel
theorem dX0_weightOf_8 : decode cX0_weightOf 8 = .ok (.getfield 32, 3) := by decide +kernel
theorem dX0_weightOf_11 : decode cX0_weightOf 11 = .ok (.aload_n 2, 1) := by decide +kernel
theorem dX0_weightOf_12 : decode cX0_weightOf 12 = .ok (.getfield 55, 3) := by decide +kernel
theorem dX0_weightOf_15 : decode cX0_weightOf 15 = .ok (.aload_n 2, 1) := by decide +kernel
theorem dX0_weightOf_16 : decode cX0_weightOf 16 = .ok (.getfield 49, 3) := by decide +kernel
theorem dX0_weightOf_19 : decode cX0_weightOf 19 = .ok (.aload_n 2, 1) := by decide +kernel
theorem dX0_weightOf_20 : decode cX0_weightOf 20 = .ok (.invokevirtual 58, 3) := by decide +kernel
theorem dX0_weightOf_23 : decode cX0_weightOf 23 = .ok (.aload_n 0, 1) := by decide +kernel
theorem dX0_weightOf_24 : decode cX0_weightOf 24 = .ok (.iload_n 1, 1) := by decide +kernel
theorem dX0_weightOf_25 : decode cX0_weightOf 25 = .ok (.invokevirtual 62, 3) := by decide +kernel
theorem dX0_weightOf_28 : decode cX0_weightOf 28 = .ok (.invokevirtual 66, 3) := by decide +kernel
theorem dX0_weightOf_31 : decode cX0_weightOf 31 = .ok (.ireturn, 1) := by decide +kernel
