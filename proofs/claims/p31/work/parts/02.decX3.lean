theorem dX3_init_0 : decode cX3_init 0 = .ok (.aload_n 0, 1) := by decide +kernel
theorem dX3_init_1 : decode cX3_init 1 = .ok (.invokespecial 3, 3) := by decide +kernel
theorem dX3_init_4 : decode cX3_init 4 = .ok (.aload_n 0, 1) := by decide +kernel
theorem dX3_init_5 : decode cX3_init 5 = .ok (.iconst 0, 1) := by decide +kernel
theorem dX3_init_6 : decode cX3_init 6 = .ok (.putfield 9, 3) := by decide +kernel
theorem dX3_init_9 : decode cX3_init 9 = .ok (.aload_n 0, 1) := by decide +kernel
theorem dX3_init_10 : decode cX3_init 10 = .ok (.iconst 0, 1) := by decide +kernel
theorem dX3_init_11 : decode cX3_init 11 = .ok (.putfield 15, 3) := by decide +kernel
theorem dX3_init_14 : decode cX3_init 14 = .ok (.aload_n 0, 1) := by decide +kernel
theorem dX3_init_15 : decode cX3_init 15 = .ok (.iconst (-1), 1) := by decide +kernel
theorem dX3_init_16 : decode cX3_init 16 = .ok (.putfield 19, 3) := by decide +kernel
theorem dX3_init_19 : decode cX3_init 19 = .ok (.aload_n 0, 1) := by decide +kernel
theorem dX3_init_20 : decode cX3_init 20 = .ok (.bipush 12, 2) := by decide +kernel
theorem dX3_init_22 : decode cX3_init 22 = .ok (.newarray .int, 2) := by decide +kernel
theorem dX3_init_24 : decode cX3_init 24 = .ok (.putfield 22, 3) := by decide +kernel
theorem dX3_init_27 : decode cX3_init 27 = .ok (.aload_n 0, 1) := by decide +kernel
theorem dX3_init_28 : decode cX3_init 28 = .ok (.bipush 8, 2) := by decide +kernel
theorem dX3_init_30 : decode cX3_init 30 = .ok (.newarray .int, 2) := by decide +kernel
theorem dX3_init_32 : decode cX3_init 32 = .ok (.putfield 26, 3) := by decide +kernel
theorem dX3_init_35 : decode cX3_init 35 = .ok (.aload_n 0, 1) := by decide +kernel
theorem dX3_init_36 : decode cX3_init 36 = .ok (.iconst 0, 1) := by decide +kernel
theorem dX3_init_37 : decode cX3_init 37 = .ok (.putfield 29, 3) := by decide +kernel
theorem dX3_init_40 : decode cX3_init 40 = .ok (.return_, 1) := by decide +kernel
theorem dX3_startAs_0 : decode cX3_startAs 0 = .ok (.aload_n 0, 1) := by decide +kernel
theorem dX3_startAs_1 : decode cX3_startAs 1 = .ok (.iload_n 1, 1) := by decide +kernel
theorem dX3_startAs_2 : decode cX3_startAs 2 = .ok (.putfield 9, 3) := by decide +kernel
theorem dX3_startAs_5 : decode cX3_startAs 5 = .ok (.aload_n 0, 1) := by decide +kernel
theorem dX3_startAs_6 : decode cX3_startAs 6 = .ok (.iconst 0, 1) := by decide +kernel
theorem dX3_startAs_7 : decode cX3_startAs 7 = .ok (.putfield 15, 3) := by decide +kernel
theorem dX3_startAs_10 : decode cX3_startAs 10 = .ok (.aload_n 0, 1) := by decide +kernel
theorem dX3_startAs_11 : decode cX3_startAs 11 = .ok (.iload_n 2, 1) := by decide +kernel
theorem dX3_startAs_12 : decode cX3_startAs 12 = .ok (.putfield 19, 3) := by decide +kernel
theorem dX3_startAs_15 : decode cX3_startAs 15 = .ok (.aload_n 0, 1) := by decide +kernel
theorem dX3_startAs_16 : decode cX3_startAs 16 = .ok (.getfield 22, 3) := by decide +kernel
theorem dX3_startAs_19 : decode cX3_startAs 19 = .ok (.iconst (-1), 1) := by decide +kernel
theorem dX3_startAs_20 : decode cX3_startAs 20 = .ok (.invokestatic 32, 3) := by decide +kernel
theorem dX3_startAs_23 : decode cX3_startAs 23 = .ok (.aload_n 0, 1) := by decide +kernel
theorem dX3_startAs_24 : decode cX3_startAs 24 = .ok (.iconst 0, 1) := by decide +kernel
theorem dX3_startAs_25 : decode cX3_startAs 25 = .ok (.putfield 29, 3) := by decide +kernel
theorem dX3_startAs_28 : decode cX3_startAs 28 = .ok (.return_, 1) := by decide +kernel
theorem dX3_copyFrom_0 : decode cX3_copyFrom 0 = .ok (.aload_n 0, 1) := by decide +kernel
theorem dX3_copyFrom_1 : decode cX3_copyFrom 1 = .ok (.aload_n 1, 1) := by decide +kernel
theorem dX3_copyFrom_2 : decode cX3_copyFrom 2 = .ok (.getfield 9, 3) := by decide +kernel
theorem dX3_copyFrom_5 : decode cX3_copyFrom 5 = .ok (.putfield 9, 3) := by decide +kernel
theorem dX3_copyFrom_8 : decode cX3_copyFrom 8 = .ok (.aload_n 0, 1) := by decide +kernel
theorem dX3_copyFrom_9 : decode cX3_copyFrom 9 = .ok (.aload_n 1, 1) := by decide +kernel
theorem dX3_copyFrom_10 : decode cX3_copyFrom 10 = .ok (.getfield 15, 3) := by decide +kernel
theorem dX3_copyFrom_13 : decode cX3_copyFrom 13 = .ok (.putfield 15, 3) := by decide +kernel
theorem dX3_copyFrom_16 : decode cX3_copyFrom 16 = .ok (.aload_n 0, 1) := by decide +kernel
theorem dX3_copyFrom_17 : decode cX3_copyFrom 17 = .ok (.aload_n 1, 1) := by decide +kernel
theorem dX3_copyFrom_18 : decode cX3_copyFrom 18 = .ok (.getfield 19, 3) := by decide +kernel
theorem dX3_copyFrom_21 : decode cX3_copyFrom 21 = .ok (.putfield 19, 3) := by decide +kernel
theorem dX3_copyFrom_24 : decode cX3_copyFrom 24 = .ok (.aload_n 1, 1) := by decide +kernel
theorem dX3_copyFrom_25 : decode cX3_copyFrom 25 = .ok (.getfield 22, 3) := by decide +kernel
theorem dX3_copyFrom_28 : decode cX3_copyFrom 28 = .ok (.iconst 0, 1) := by decide +kernel
theorem dX3_copyFrom_29 : decode cX3_copyFrom 29 = .ok (.aload_n 0, 1) := by decide +kernel
theorem dX3_copyFrom_30 : decode cX3_copyFrom 30 = .ok (.getfield 22, 3) := by decide +kernel
theorem dX3_copyFrom_33 : decode cX3_copyFrom 33 = .ok (.iconst 0, 1) := by decide +kernel
theorem dX3_copyFrom_34 : decode cX3_copyFrom 34 = .ok (.bipush 12, 2) := by decide +kernel
theorem dX3_copyFrom_36 : decode cX3_copyFrom 36 = .ok (.invokestatic 38, 3) := by decide +kernel
theorem dX3_copyFrom_39 : decode cX3_copyFrom 39 = .ok (.aload_n 1, 1) := by decide +kernel
theorem dX3_copyFrom_40 : decode cX3_copyFrom 40 = .ok (.getfield 26, 3) := by decide +kernel
theorem dX3_copyFrom_43 : decode cX3_copyFrom 43 = .ok (.iconst 0, 1) := by decide +kernel
theorem dX3_copyFrom_44 : decode cX3_copyFrom 44 = .ok (.aload_n 0, 1) := by decide +kernel
theorem dX3_copyFrom_45 : decode cX3_copyFrom 45 = .ok (.getfield 26, 3) := by decide +kernel
theorem dX3_copyFrom_48 : decode cX3_copyFrom 48 = .ok (.iconst 0, 1) := by decide +kernel
theorem dX3_copyFrom_49 : decode cX3_copyFrom 49 = .ok (.bipush 8, 2) := by decide +kernel
theorem dX3_copyFrom_51 : decode cX3_copyFrom 51 = .ok (.invokestatic 38, 3) := by decide +kernel
theorem dX3_copyFrom_54 : decode cX3_copyFrom 54 = .ok (.aload_n 0, 1) := by decide +kernel
theorem dX3_copyFrom_55 : decode cX3_copyFrom 55 = .ok (.aload_n 1, 1) := by decide +kernel
theorem dX3_copyFrom_56 : decode cX3_copyFrom 56 = .ok (.getfield 29, 3) := by decide +kernel
theorem dX3_copyFrom_59 : decode cX3_copyFrom 59 = .ok (.putfield 29, 3) := by decide +kernel
theorem dX3_copyFrom_62 : decode cX3_copyFrom 62 = .ok (.return_, 1) := by decide +kernel
theorem dX3_isLoaded_0 : decode cX3_isLoaded 0 = .ok (.aload_n 0, 1) := by decide +kernel
theorem dX3_isLoaded_1 : decode cX3_isLoaded 1 = .ok (.getfield 19, 3) := by decide +kernel
theorem dX3_isLoaded_4 : decode cX3_isLoaded 4 = .ok (.iconst (-1), 1) := by decide +kernel
theorem dX3_isLoaded_5 : decode cX3_isLoaded 5 = .ok (.if_icmp .eq 7, 3) := by decide +kernel
theorem dX3_isLoaded_8 : decode cX3_isLoaded 8 = .ok (.iconst 1, 1) := by decide +kernel
theorem dX3_isLoaded_9 : decode cX3_isLoaded 9 = .ok (.goto 4, 3) := by decide +kernel
theorem dX3_isLoaded_12 : decode cX3_isLoaded 12 = .ok (.iconst 0, 1) := by decide +kernel
theorem dX3_isLoaded_13 : decode cX3_isLoaded 13 = .ok (.ireturn, 1) := by decide +kernel
theorem dX3_hasOffer_0 : decode cX3_hasOffer 0 = .ok (.aload_n 0, 1) := by decide +kernel
theorem dX3_hasOffer_1 : decode cX3_hasOffer 1 = .ok (.getfield 22, 3) := by decide +kernel
theorem dX3_hasOffer_4 : decode cX3_hasOffer 4 = .ok (.iload_n 1, 1) := by decide +kernel
theorem dX3_hasOffer_5 : decode cX3_hasOffer 5 = .ok (.iaload, 1) := by decide +kernel
theorem dX3_hasOffer_6 : decode cX3_hasOffer 6 = .ok (.iconst (-1), 1) := by decide +kernel
theorem dX3_hasOffer_7 : decode cX3_hasOffer 7 = .ok (.if_icmp .eq 7, 3) := by decide +kernel
theorem dX3_hasOffer_10 : decode cX3_hasOffer 10 = .ok (.iconst 1, 1) := by decide +kernel
theorem dX3_hasOffer_11 : decode cX3_hasOffer 11 = .ok (.goto 4, 3) := by decide +kernel
theorem dX3_hasOffer_14 : decode cX3_hasOffer 14 = .ok (.iconst 0, 1) := by decide +kernel
theorem dX3_hasOffer_15 : decode cX3_hasOffer 15 = .ok (.ireturn, 1) := by decide +kernel
theorem dX3_countOffers_0 : decode cX3_countOffers 0 = .ok (.iconst 0, 1) := by decide +kernel
theorem dX3_countOffers_1 : decode cX3_countOffers 1 = .ok (.istore_n 1, 1) := by decide +kernel
theorem dX3_countOffers_2 : decode cX3_countOffers 2 = .ok (.iconst 0, 1) := by decide +kernel
theorem dX3_countOffers_3 : decode cX3_countOffers 3 = .ok (.istore_n 2, 1) := by decide +kernel
theorem dX3_countOffers_4 : decode cX3_countOffers 4 = .ok (.iload_n 2, 1) := by decide +kernel
theorem dX3_countOffers_5 : decode cX3_countOffers 5 = .ok (.bipush 12, 2) := by decide +kernel
theorem dX3_countOffers_7 : decode cX3_countOffers 7 = .ok (.if_icmp .ge 20, 3) := by decide +kernel
theorem dX3_countOffers_10 : decode cX3_countOffers 10 = .ok (.aload_n 0, 1) := by decide +kernel
theorem dX3_countOffers_11 : decode cX3_countOffers 11 = .ok (.iload_n 2, 1) := by decide +kernel
theorem dX3_countOffers_12 : decode cX3_countOffers 12 = .ok (.invokevirtual 44, 3) := by decide +kernel
theorem dX3_countOffers_15 : decode cX3_countOffers 15 = .ok (.ifCond .eq 6, 3) := by decide +kernel
theorem dX3_countOffers_18 : decode cX3_countOffers 18 = .ok (.iinc 1 1, 3) := by decide +kernel
theorem dX3_countOffers_21 : decode cX3_countOffers 21 = .ok (.iinc 2 1, 3) := by decide +kernel
theorem dX3_countOffers_24 : decode cX3_countOffers 24 = .ok (.goto (-20), 3) := by decide +kernel
theorem dX3_countOffers_27 : decode cX3_countOffers 27 = .ok (.iload_n 1, 1) := by decide +kernel
theorem dX3_countOffers_28 : decode cX3_countOffers 28 = .ok (.ireturn, 1) := by decide +kernel
theorem dX3_prefers_0 : decode cX3_prefers 0 = .ok (.iconst 0, 1) := by decide +kernel
theorem dX3_prefers_1 : decode cX3_prefers 1 = .ok (.istore_n 2, 1) := by decide +kernel
theorem dX3_prefers_2 : decode cX3_prefers 2 = .ok (.iload_n 2, 1) := by decide +kernel
theorem dX3_prefers_3 : decode cX3_prefers 3 = .ok (.aload_n 0, 1) := by decide +kernel
theorem dX3_prefers_4 : decode cX3_prefers 4 = .ok (.getfield 29, 3) := by decide +kernel
theorem dX3_prefers_7 : decode cX3_prefers 7 = .ok (.if_icmp .ge 21, 3) := by decide +kernel
theorem dX3_prefers_10 : decode cX3_prefers 10 = .ok (.aload_n 0, 1) := by decide +kernel
theorem dX3_prefers_11 : decode cX3_prefers 11 = .ok (.getfield 26, 3) := by decide +kernel
theorem dX3_prefers_14 : decode cX3_prefers 14 = .ok (.iload_n 2, 1) := by decide +kernel
theorem dX3_prefers_15 : decode cX3_prefers 15 = .ok (.iaload, 1) := by decide +kernel
theorem dX3_prefers_16 : decode cX3_prefers 16 = .ok (.iload_n 1, 1) := by decide +kernel
theorem dX3_prefers_17 : decode cX3_prefers 17 = .ok (.if_icmp .ne 5, 3) := by decide +kernel
theorem dX3_prefers_20 : decode cX3_prefers 20 = .ok (.iconst 1, 1) := by decide +kernel
theorem dX3_prefers_21 : decode cX3_prefers 21 = .ok (.ireturn, 1) := by decide +kernel
theorem dX3_prefers_22 : decode cX3_prefers 22 = .ok (.iinc 2 1, 3) := by decide +kernel
theorem dX3_prefers_25 : decode cX3_prefers 25 = .ok (.goto (-23), 3) := by decide +kernel
theorem dX3_prefers_28 : decode cX3_prefers 28 = .ok (.iconst 0, 1) := by decide +kernel
theorem dX3_prefers_29 : decode cX3_prefers 29 = .ok (.ireturn, 1) := by decide +kernel
theorem dX3_addPreference_0 : decode cX3_addPreference 0 = .ok (.aload_n 0, 1) := by decide +kernel
theorem dX3_addPreference_1 : decode cX3_addPreference 1 = .ok (.getfield 29, 3) := by decide +kernel
theorem dX3_addPreference_4 : decode cX3_addPreference 4 = .ok (.bipush 8, 2) := by decide +kernel
theorem dX3_addPreference_6 : decode cX3_addPreference 6 = .ok (.if_icmp .ge 23, 3) := by decide +kernel
theorem dX3_addPreference_9 : decode cX3_addPreference 9 = .ok (.aload_n 0, 1) := by decide +kernel
theorem dX3_addPreference_10 : decode cX3_addPreference 10 = .ok (.getfield 26, 3) := by decide +kernel
theorem dX3_addPreference_13 : decode cX3_addPreference 13 = .ok (.aload_n 0, 1) := by decide +kernel
theorem dX3_addPreference_14 : decode cX3_addPreference 14 = .ok (.getfield 29, 3) := by decide +kernel
theorem dX3_addPreference_17 : decode cX3_addPreference 17 = .ok (.iload_n 1, 1) := by decide +kernel
theorem dX3_addPreference_18 : decode cX3_addPreference 18 = .ok (.iastore, 1) := by decide +kernel
theorem dX3_addPreference_19 : decode cX3_addPreference 19 = .ok (.aload_n 0, 1) := by decide +kernel
theorem dX3_addPreference_20 : decode cX3_addPreference 20 = .ok (.dup, 1) := by decide +kernel
theorem dX3_addPreference_21 : decode cX3_addPreference 21 = .ok (.getfield 29, 3) := by decide +kernel
theorem dX3_addPreference_24 : decode cX3_addPreference 24 = .ok (.iconst 1, 1) := by decide +kernel
theorem dX3_addPreference_25 : decode cX3_addPreference 25 = .ok (.iadd, 1) := by decide +kernel
theorem dX3_addPreference_26 : decode cX3_addPreference 26 = .ok (.putfield 29, 3) := by decide +kernel
theorem dX3_addPreference_29 : decode cX3_addPreference 29 = .ok (.return_, 1) := by decide +kernel
