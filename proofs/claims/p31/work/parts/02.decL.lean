theorem dL_put_0 : decode cL_put 0 = .ok (.aload_n 1, 1) := by decide +kernel
theorem dL_put_1 : decode cL_put 1 = .ok (.iconst 1, 1) := by decide +kernel
theorem dL_put_2 : decode cL_put 2 = .ok (.aload_n 1, 1) := by decide +kernel
theorem dL_put_3 : decode cL_put 3 = .ok (.iconst 0, 1) := by decide +kernel
theorem dL_put_4 : decode cL_put 4 = .ok (.iaload, 1) := by decide +kernel
theorem dL_put_5 : decode cL_put 5 = .ok (.bipush 20, 2) := by decide +kernel
theorem dL_put_7 : decode cL_put 7 = .ok (.irem, 1) := by decide +kernel
theorem dL_put_8 : decode cL_put 8 = .ok (.iconst 4, 1) := by decide +kernel
theorem dL_put_9 : decode cL_put 9 = .ok (.idiv, 1) := by decide +kernel
theorem dL_put_10 : decode cL_put 10 = .ok (.iadd, 1) := by decide +kernel
theorem dL_put_11 : decode cL_put 11 = .ok (.dup2, 1) := by decide +kernel
theorem dL_put_12 : decode cL_put 12 = .ok (.iaload, 1) := by decide +kernel
theorem dL_put_13 : decode cL_put 13 = .ok (.iload_n 2, 1) := by decide +kernel
theorem dL_put_14 : decode cL_put 14 = .ok (.bipush 24, 2) := by decide +kernel
theorem dL_put_16 : decode cL_put 16 = .ok (.bipush 8, 2) := by decide +kernel
theorem dL_put_18 : decode cL_put 18 = .ok (.aload_n 1, 1) := by decide +kernel
theorem dL_put_19 : decode cL_put 19 = .ok (.iconst 0, 1) := by decide +kernel
theorem dL_put_20 : decode cL_put 20 = .ok (.iaload, 1) := by decide +kernel
theorem dL_put_21 : decode cL_put 21 = .ok (.iconst 4, 1) := by decide +kernel
theorem dL_put_22 : decode cL_put 22 = .ok (.irem, 1) := by decide +kernel
theorem dL_put_23 : decode cL_put 23 = .ok (.imul, 1) := by decide +kernel
theorem dL_put_24 : decode cL_put 24 = .ok (.isub, 1) := by decide +kernel
theorem dL_put_25 : decode cL_put 25 = .ok (.ishl, 1) := by decide +kernel
theorem dL_put_26 : decode cL_put 26 = .ok (.ior, 1) := by decide +kernel
theorem dL_put_27 : decode cL_put 27 = .ok (.iastore, 1) := by decide +kernel
theorem dL_put_28 : decode cL_put 28 = .ok (.aload_n 1, 1) := by decide +kernel
theorem dL_put_29 : decode cL_put 29 = .ok (.iconst 0, 1) := by decide +kernel
theorem dL_put_30 : decode cL_put 30 = .ok (.dup2, 1) := by decide +kernel
theorem dL_put_31 : decode cL_put 31 = .ok (.iaload, 1) := by decide +kernel
theorem dL_put_32 : decode cL_put 32 = .ok (.iconst 1, 1) := by decide +kernel
theorem dL_put_33 : decode cL_put 33 = .ok (.iadd, 1) := by decide +kernel
theorem dL_put_34 : decode cL_put 34 = .ok (.iastore, 1) := by decide +kernel
theorem dL_put_35 : decode cL_put 35 = .ok (.aload_n 1, 1) := by decide +kernel
theorem dL_put_36 : decode cL_put 36 = .ok (.iconst 0, 1) := by decide +kernel
theorem dL_put_37 : decode cL_put 37 = .ok (.iaload, 1) := by decide +kernel
theorem dL_put_38 : decode cL_put 38 = .ok (.bipush 20, 2) := by decide +kernel
theorem dL_put_40 : decode cL_put 40 = .ok (.irem, 1) := by decide +kernel
theorem dL_put_41 : decode cL_put 41 = .ok (.ifCond .ne 8, 3) := by decide +kernel
theorem dL_put_44 : decode cL_put 44 = .ok (.aload_n 0, 1) := by decide +kernel
theorem dL_put_45 : decode cL_put 45 = .ok (.aload_n 1, 1) := by decide +kernel
theorem dL_put_46 : decode cL_put 46 = .ok (.invokestatic 7, 3) := by decide +kernel
theorem dL_put_49 : decode cL_put 49 = .ok (.return_, 1) := by decide +kernel
theorem dL_flush_0 : decode cL_flush 0 = .ok (.aload_n 0, 1) := by decide +kernel
theorem dL_flush_1 : decode cL_flush 1 = .ok (.aload_n 1, 1) := by decide +kernel
theorem dL_flush_2 : decode cL_flush 2 = .ok (.iconst 1, 1) := by decide +kernel
theorem dL_flush_3 : decode cL_flush 3 = .ok (.iaload, 1) := by decide +kernel
theorem dL_flush_4 : decode cL_flush 4 = .ok (.aload_n 1, 1) := by decide +kernel
theorem dL_flush_5 : decode cL_flush 5 = .ok (.iconst 2, 1) := by decide +kernel
theorem dL_flush_6 : decode cL_flush 6 = .ok (.iaload, 1) := by decide +kernel
theorem dL_flush_7 : decode cL_flush 7 = .ok (.aload_n 1, 1) := by decide +kernel
theorem dL_flush_8 : decode cL_flush 8 = .ok (.iconst 3, 1) := by decide +kernel
theorem dL_flush_9 : decode cL_flush 9 = .ok (.iaload, 1) := by decide +kernel
theorem dL_flush_10 : decode cL_flush 10 = .ok (.aload_n 1, 1) := by decide +kernel
theorem dL_flush_11 : decode cL_flush 11 = .ok (.iconst 4, 1) := by decide +kernel
theorem dL_flush_12 : decode cL_flush 12 = .ok (.iaload, 1) := by decide +kernel
theorem dL_flush_13 : decode cL_flush 13 = .ok (.aload_n 1, 1) := by decide +kernel
theorem dL_flush_14 : decode cL_flush 14 = .ok (.iconst 5, 1) := by decide +kernel
theorem dL_flush_15 : decode cL_flush 15 = .ok (.iaload, 1) := by decide +kernel
theorem dL_flush_16 : decode cL_flush 16 = .ok (.invokevirtual 13, 3) := by decide +kernel
theorem dL_flush_19 : decode cL_flush 19 = .ok (.pop, 1) := by decide +kernel
theorem dL_flush_20 : decode cL_flush 20 = .ok (.iconst 1, 1) := by decide +kernel
theorem dL_flush_21 : decode cL_flush 21 = .ok (.istore_n 2, 1) := by decide +kernel
theorem dL_flush_22 : decode cL_flush 22 = .ok (.iload_n 2, 1) := by decide +kernel
theorem dL_flush_23 : decode cL_flush 23 = .ok (.bipush 6, 2) := by decide +kernel
theorem dL_flush_25 : decode cL_flush 25 = .ok (.if_icmp .ge 13, 3) := by decide +kernel
theorem dL_flush_28 : decode cL_flush 28 = .ok (.aload_n 1, 1) := by decide +kernel
theorem dL_flush_29 : decode cL_flush 29 = .ok (.iload_n 2, 1) := by decide +kernel
theorem dL_flush_30 : decode cL_flush 30 = .ok (.iconst 0, 1) := by decide +kernel
theorem dL_flush_31 : decode cL_flush 31 = .ok (.iastore, 1) := by decide +kernel
theorem dL_flush_32 : decode cL_flush 32 = .ok (.iinc 2 1, 3) := by decide +kernel
theorem dL_flush_35 : decode cL_flush 35 = .ok (.goto (-13), 3) := by decide +kernel
theorem dL_flush_38 : decode cL_flush 38 = .ok (.return_, 1) := by decide +kernel
theorem dL_loadText_0 : decode cL_loadText 0 = .ok (.aload_n 1, 1) := by decide +kernel
theorem dL_loadText_1 : decode cL_loadText 1 = .ok (.iconst 0, 1) := by decide +kernel
theorem dL_loadText_2 : decode cL_loadText 2 = .ok (.iaload, 1) := by decide +kernel
theorem dL_loadText_3 : decode cL_loadText 3 = .ok (.istore_n 2, 1) := by decide +kernel
theorem dL_loadText_4 : decode cL_loadText 4 = .ok (.iload_n 2, 1) := by decide +kernel
theorem dL_loadText_5 : decode cL_loadText 5 = .ok (.bipush 20, 2) := by decide +kernel
theorem dL_loadText_7 : decode cL_loadText 7 = .ok (.irem, 1) := by decide +kernel
theorem dL_loadText_8 : decode cL_loadText 8 = .ok (.ifCond .le 8, 3) := by decide +kernel
theorem dL_loadText_11 : decode cL_loadText 11 = .ok (.aload_n 0, 1) := by decide +kernel
theorem dL_loadText_12 : decode cL_loadText 12 = .ok (.aload_n 1, 1) := by decide +kernel
theorem dL_loadText_13 : decode cL_loadText 13 = .ok (.invokestatic 7, 3) := by decide +kernel
theorem dL_loadText_16 : decode cL_loadText 16 = .ok (.aload_n 1, 1) := by decide +kernel
theorem dL_loadText_17 : decode cL_loadText 17 = .ok (.iconst 0, 1) := by decide +kernel
theorem dL_loadText_18 : decode cL_loadText 18 = .ok (.iconst 0, 1) := by decide +kernel
theorem dL_loadText_19 : decode cL_loadText 19 = .ok (.iastore, 1) := by decide +kernel
theorem dL_loadText_20 : decode cL_loadText 20 = .ok (.aload_n 0, 1) := by decide +kernel
theorem dL_loadText_21 : decode cL_loadText 21 = .ok (.iload_n 2, 1) := by decide +kernel
theorem dL_loadText_22 : decode cL_loadText 22 = .ok (.invokestatic 19, 3) := by decide +kernel
theorem dL_loadText_25 : decode cL_loadText 25 = .ok (.ireturn, 1) := by decide +kernel
theorem dL_write_0 : decode cL_write 0 = .ok (.iconst 0, 1) := by decide +kernel
theorem dL_write_1 : decode cL_write 1 = .ok (.istore_n 3, 1) := by decide +kernel
theorem dL_write_2 : decode cL_write 2 = .ok (.iload_n 3, 1) := by decide +kernel
theorem dL_write_3 : decode cL_write 3 = .ok (.aload_n 2, 1) := by decide +kernel
theorem dL_write_4 : decode cL_write 4 = .ok (.invokevirtual 23, 3) := by decide +kernel
theorem dL_write_7 : decode cL_write 7 = .ok (.if_icmp .ge 19, 3) := by decide +kernel
theorem dL_write_10 : decode cL_write 10 = .ok (.aload_n 0, 1) := by decide +kernel
theorem dL_write_11 : decode cL_write 11 = .ok (.aload_n 1, 1) := by decide +kernel
theorem dL_write_12 : decode cL_write 12 = .ok (.aload_n 2, 1) := by decide +kernel
theorem dL_write_13 : decode cL_write 13 = .ok (.iload_n 3, 1) := by decide +kernel
theorem dL_write_14 : decode cL_write 14 = .ok (.invokevirtual 29, 3) := by decide +kernel
theorem dL_write_17 : decode cL_write 17 = .ok (.invokestatic 33, 3) := by decide +kernel
theorem dL_write_20 : decode cL_write 20 = .ok (.iinc 3 1, 3) := by decide +kernel
theorem dL_write_23 : decode cL_write 23 = .ok (.goto (-21), 3) := by decide +kernel
theorem dL_write_26 : decode cL_write 26 = .ok (.return_, 1) := by decide +kernel
theorem dL_writeNumber_0 : decode cL_writeNumber 0 = .ok (.iconst 1, 1) := by decide +kernel
theorem dL_writeNumber_1 : decode cL_writeNumber 1 = .ok (.istore_n 3, 1) := by decide +kernel
theorem dL_writeNumber_2 : decode cL_writeNumber 2 = .ok (.iload_n 3, 1) := by decide +kernel
theorem dL_writeNumber_3 : decode cL_writeNumber 3 = .ok (.iload_n 2, 1) := by decide +kernel
theorem dL_writeNumber_4 : decode cL_writeNumber 4 = .ok (.bipush 10, 2) := by decide +kernel
theorem dL_writeNumber_6 : decode cL_writeNumber 6 = .ok (.idiv, 1) := by decide +kernel
theorem dL_writeNumber_7 : decode cL_writeNumber 7 = .ok (.if_icmp .gt 11, 3) := by decide +kernel
theorem dL_writeNumber_10 : decode cL_writeNumber 10 = .ok (.iload_n 3, 1) := by decide +kernel
theorem dL_writeNumber_11 : decode cL_writeNumber 11 = .ok (.bipush 10, 2) := by decide +kernel
theorem dL_writeNumber_13 : decode cL_writeNumber 13 = .ok (.imul, 1) := by decide +kernel
theorem dL_writeNumber_14 : decode cL_writeNumber 14 = .ok (.istore_n 3, 1) := by decide +kernel
theorem dL_writeNumber_15 : decode cL_writeNumber 15 = .ok (.goto (-13), 3) := by decide +kernel
theorem dL_writeNumber_18 : decode cL_writeNumber 18 = .ok (.iload_n 3, 1) := by decide +kernel
theorem dL_writeNumber_19 : decode cL_writeNumber 19 = .ok (.ifCond .le 25, 3) := by decide +kernel
theorem dL_writeNumber_22 : decode cL_writeNumber 22 = .ok (.aload_n 0, 1) := by decide +kernel
theorem dL_writeNumber_23 : decode cL_writeNumber 23 = .ok (.aload_n 1, 1) := by decide +kernel
theorem dL_writeNumber_24 : decode cL_writeNumber 24 = .ok (.bipush 48, 2) := by decide +kernel
theorem dL_writeNumber_26 : decode cL_writeNumber 26 = .ok (.iload_n 2, 1) := by decide +kernel
theorem dL_writeNumber_27 : decode cL_writeNumber 27 = .ok (.iload_n 3, 1) := by decide +kernel
theorem dL_writeNumber_28 : decode cL_writeNumber 28 = .ok (.idiv, 1) := by decide +kernel
theorem dL_writeNumber_29 : decode cL_writeNumber 29 = .ok (.bipush 10, 2) := by decide +kernel
theorem dL_writeNumber_31 : decode cL_writeNumber 31 = .ok (.irem, 1) := by decide +kernel
theorem dL_writeNumber_32 : decode cL_writeNumber 32 = .ok (.iadd, 1) := by decide +kernel
theorem dL_writeNumber_33 : decode cL_writeNumber 33 = .ok (.invokestatic 33, 3) := by decide +kernel
theorem dL_writeNumber_36 : decode cL_writeNumber 36 = .ok (.iload_n 3, 1) := by decide +kernel
theorem dL_writeNumber_37 : decode cL_writeNumber 37 = .ok (.bipush 10, 2) := by decide +kernel
theorem dL_writeNumber_39 : decode cL_writeNumber 39 = .ok (.idiv, 1) := by decide +kernel
theorem dL_writeNumber_40 : decode cL_writeNumber 40 = .ok (.istore_n 3, 1) := by decide +kernel
theorem dL_writeNumber_41 : decode cL_writeNumber 41 = .ok (.goto (-23), 3) := by decide +kernel
theorem dL_writeNumber_44 : decode cL_writeNumber 44 = .ok (.return_, 1) := by decide +kernel
theorem dL_load_0 : decode cL_load 0 = .ok (.aload_n 0, 1) := by decide +kernel
theorem dL_load_1 : decode cL_load 1 = .ok (.iload_n 1, 1) := by decide +kernel
theorem dL_load_2 : decode cL_load 2 = .ok (.invokevirtual 37, 3) := by decide +kernel
theorem dL_load_5 : decode cL_load 5 = .ok (.ireturn, 1) := by decide +kernel
theorem dL_load_6 : decode cL_load 6 = .ok (.astore_n 2, 1) := by decide +kernel
theorem dL_load_7 : decode cL_load 7 = .ok (.ldc 42, 2) := by decide +kernel
theorem dL_load_9 : decode cL_load 9 = .ok (.ireturn, 1) := by decide +kernel
theorem dL_library_0 : decode cL_library 0 = .ok (.aload_n 0, 1) := by decide +kernel
theorem dL_library_1 : decode cL_library 1 = .ok (.iload_n 1, 1) := by decide +kernel
theorem dL_library_2 : decode cL_library 2 = .ok (.iload_n 2, 1) := by decide +kernel
theorem dL_library_3 : decode cL_library 3 = .ok (.invokevirtual 43, 3) := by decide +kernel
theorem dL_library_6 : decode cL_library 6 = .ok (.ireturn, 1) := by decide +kernel
theorem dL_library_7 : decode cL_library 7 = .ok (.astore_n 3, 1) := by decide +kernel
theorem dL_library_8 : decode cL_library 8 = .ok (.ldc 49, 2) := by decide +kernel
theorem dL_library_10 : decode cL_library 10 = .ok (.ireturn, 1) := by decide +kernel
theorem dL_library_11 : decode cL_library 11 = .ok (.astore_n 3, 1) := by decide +kernel
theorem dL_library_12 : decode cL_library 12 = .ok (.ldc 42, 2) := by decide +kernel
theorem dL_library_14 : decode cL_library 14 = .ok (.ireturn, 1) := by decide +kernel
theorem dL_offer_0 : decode cL_offer 0 = .ok (.aload_n 0, 1) := by decide +kernel
theorem dL_offer_1 : decode cL_offer 1 = .ok (.iload_n 1, 1) := by decide +kernel
theorem dL_offer_2 : decode cL_offer 2 = .ok (.iload_n 2, 1) := by decide +kernel
theorem dL_offer_3 : decode cL_offer 3 = .ok (.invokevirtual 50, 3) := by decide +kernel
theorem dL_offer_6 : decode cL_offer 6 = .ok (.ireturn, 1) := by decide +kernel
theorem dL_offer_7 : decode cL_offer 7 = .ok (.astore_n 3, 1) := by decide +kernel
theorem dL_offer_8 : decode cL_offer 8 = .ok (.ldc 49, 2) := by decide +kernel
theorem dL_offer_10 : decode cL_offer 10 = .ok (.ireturn, 1) := by decide +kernel
theorem dL_candidates_0 : decode cL_candidates 0 = .ok (.aload_n 0, 1) := by decide +kernel
theorem dL_candidates_1 : decode cL_candidates 1 = .ok (.iload_n 1, 1) := by decide +kernel
theorem dL_candidates_2 : decode cL_candidates 2 = .ok (.invokevirtual 53, 3) := by decide +kernel
theorem dL_candidates_5 : decode cL_candidates 5 = .ok (.ireturn, 1) := by decide +kernel
theorem dL_candidates_6 : decode cL_candidates 6 = .ok (.astore_n 2, 1) := by decide +kernel
theorem dL_candidates_7 : decode cL_candidates 7 = .ok (.ldc 49, 2) := by decide +kernel
theorem dL_candidates_9 : decode cL_candidates 9 = .ok (.ireturn, 1) := by decide +kernel
theorem dL_winner_0 : decode cL_winner 0 = .ok (.aload_n 0, 1) := by decide +kernel
theorem dL_winner_1 : decode cL_winner 1 = .ok (.iload_n 1, 1) := by decide +kernel
theorem dL_winner_2 : decode cL_winner 2 = .ok (.invokevirtual 62, 3) := by decide +kernel
theorem dL_winner_5 : decode cL_winner 5 = .ok (.ireturn, 1) := by decide +kernel
theorem dL_winner_6 : decode cL_winner 6 = .ok (.astore_n 2, 1) := by decide +kernel
theorem dL_winner_7 : decode cL_winner 7 = .ok (.ldc 49, 2) := by decide +kernel
theorem dL_winner_9 : decode cL_winner 9 = .ok (.ireturn, 1) := by decide +kernel
theorem dL_binding_0 : decode cL_binding 0 = .ok (.aload_n 0, 1) := by decide +kernel
theorem dL_binding_1 : decode cL_binding 1 = .ok (.iload_n 1, 1) := by decide +kernel
theorem dL_binding_2 : decode cL_binding 2 = .ok (.iload_n 2, 1) := by decide +kernel
theorem dL_binding_3 : decode cL_binding 3 = .ok (.invokevirtual 68, 3) := by decide +kernel
theorem dL_binding_6 : decode cL_binding 6 = .ok (.ireturn, 1) := by decide +kernel
theorem dL_binding_7 : decode cL_binding 7 = .ok (.astore_n 3, 1) := by decide +kernel
theorem dL_binding_8 : decode cL_binding 8 = .ok (.ldc 49, 2) := by decide +kernel
theorem dL_binding_10 : decode cL_binding 10 = .ok (.ireturn, 1) := by decide +kernel
theorem dL_minority_0 : decode cL_minority 0 = .ok (.aload_n 0, 1) := by decide +kernel
theorem dL_minority_1 : decode cL_minority 1 = .ok (.iload_n 1, 1) := by decide +kernel
theorem dL_minority_2 : decode cL_minority 2 = .ok (.invokevirtual 71, 3) := by decide +kernel
theorem dL_minority_5 : decode cL_minority 5 = .ok (.ireturn, 1) := by decide +kernel
theorem dL_minority_6 : decode cL_minority 6 = .ok (.astore_n 2, 1) := by decide +kernel
theorem dL_minority_7 : decode cL_minority 7 = .ok (.ldc 49, 2) := by decide +kernel
theorem dL_minority_9 : decode cL_minority 9 = .ok (.ireturn, 1) := by decide +kernel
theorem dL_call_0 : decode cL_call 0 = .ok (.aload_n 0, 1) := by decide +kernel
theorem dL_call_1 : decode cL_call 1 = .ok (.iload_n 1, 1) := by decide +kernel
theorem dL_call_2 : decode cL_call 2 = .ok (.iload_n 2, 1) := by decide +kernel
theorem dL_call_3 : decode cL_call 3 = .ok (.invokevirtual 74, 3) := by decide +kernel
theorem dL_call_6 : decode cL_call 6 = .ok (.ireturn, 1) := by decide +kernel
theorem dL_call_7 : decode cL_call 7 = .ok (.astore_n 3, 1) := by decide +kernel
theorem dL_call_8 : decode cL_call 8 = .ok (.ldc 49, 2) := by decide +kernel
theorem dL_call_10 : decode cL_call 10 = .ok (.ireturn, 1) := by decide +kernel
theorem dL_unload_0 : decode cL_unload 0 = .ok (.aload_n 0, 1) := by decide +kernel
theorem dL_unload_1 : decode cL_unload 1 = .ok (.iload_n 1, 1) := by decide +kernel
theorem dL_unload_2 : decode cL_unload 2 = .ok (.invokevirtual 83, 3) := by decide +kernel
theorem dL_unload_5 : decode cL_unload 5 = .ok (.ireturn, 1) := by decide +kernel
theorem dL_unload_6 : decode cL_unload 6 = .ok (.astore_n 2, 1) := by decide +kernel
theorem dL_unload_7 : decode cL_unload 7 = .ok (.ldc 49, 2) := by decide +kernel
theorem dL_unload_9 : decode cL_unload 9 = .ok (.ireturn, 1) := by decide +kernel
theorem dL_unload_10 : decode cL_unload 10 = .ok (.astore_n 2, 1) := by decide +kernel
theorem dL_unload_11 : decode cL_unload 11 = .ok (.ldc 88, 2) := by decide +kernel
theorem dL_unload_13 : decode cL_unload 13 = .ok (.ireturn, 1) := by decide +kernel
theorem dL_reload_0 : decode cL_reload 0 = .ok (.aload_n 0, 1) := by decide +kernel
theorem dL_reload_1 : decode cL_reload 1 = .ok (.iload_n 1, 1) := by decide +kernel
theorem dL_reload_2 : decode cL_reload 2 = .ok (.invokevirtual 89, 3) := by decide +kernel
theorem dL_reload_5 : decode cL_reload 5 = .ok (.ireturn, 1) := by decide +kernel
theorem dL_reload_6 : decode cL_reload 6 = .ok (.astore_n 2, 1) := by decide +kernel
theorem dL_reload_7 : decode cL_reload 7 = .ok (.ldc 49, 2) := by decide +kernel
theorem dL_reload_9 : decode cL_reload 9 = .ok (.ireturn, 1) := by decide +kernel
theorem dL_reload_10 : decode cL_reload 10 = .ok (.astore_n 2, 1) := by decide +kernel
theorem dL_reload_11 : decode cL_reload 11 = .ok (.ldc 88, 2) := by decide +kernel
theorem dL_reload_13 : decode cL_reload 13 = .ok (.ireturn, 1) := by decide +kernel
theorem dL_offerValue_0 : decode cL_offerValue 0 = .ok (.aload_n 0, 1) := by decide +kernel
theorem dL_offerValue_1 : decode cL_offerValue 1 = .ok (.iload_n 1, 1) := by decide +kernel
theorem dL_offerValue_2 : decode cL_offerValue 2 = .ok (.iload_n 2, 1) := by decide +kernel
theorem dL_offerValue_3 : decode cL_offerValue 3 = .ok (.iload_n 3, 1) := by decide +kernel
theorem dL_offerValue_4 : decode cL_offerValue 4 = .ok (.invokevirtual 92, 3) := by decide +kernel
theorem dL_offerValue_7 : decode cL_offerValue 7 = .ok (.ireturn, 1) := by decide +kernel
theorem dL_offerValue_8 : decode cL_offerValue 8 = .ok (.astore 4, 2) := by decide +kernel
theorem dL_offerValue_10 : decode cL_offerValue 10 = .ok (.ldc 49, 2) := by decide +kernel
theorem dL_offerValue_12 : decode cL_offerValue 12 = .ok (.ireturn, 1) := by decide +kernel
theorem dL_offerValue_13 : decode cL_offerValue 13 = .ok (.astore 4, 2) := by decide +kernel
theorem dL_offerValue_15 : decode cL_offerValue 15 = .ok (.ldc 42, 2) := by decide +kernel
theorem dL_offerValue_17 : decode cL_offerValue 17 = .ok (.ireturn, 1) := by decide +kernel
theorem dL_offerForward_0 : decode cL_offerForward 0 = .ok (.aload_n 0, 1) := by decide +kernel
theorem dL_offerForward_1 : decode cL_offerForward 1 = .ok (.iload_n 1, 1) := by decide +kernel
theorem dL_offerForward_2 : decode cL_offerForward 2 = .ok (.iload_n 2, 1) := by decide +kernel
theorem dL_offerForward_3 : decode cL_offerForward 3 = .ok (.iload_n 3, 1) := by decide +kernel
theorem dL_offerForward_4 : decode cL_offerForward 4 = .ok (.invokevirtual 96, 3) := by decide +kernel
theorem dL_offerForward_7 : decode cL_offerForward 7 = .ok (.ireturn, 1) := by decide +kernel
theorem dL_offerForward_8 : decode cL_offerForward 8 = .ok (.astore 4, 2) := by decide +kernel
theorem dL_offerForward_10 : decode cL_offerForward 10 = .ok (.ldc 49, 2) := by decide +kernel
theorem dL_offerForward_12 : decode cL_offerForward 12 = .ok (.ireturn, 1) := by decide +kernel
theorem dL_withdraw_0 : decode cL_withdraw 0 = .ok (.aload_n 0, 1) := by decide +kernel
theorem dL_withdraw_1 : decode cL_withdraw 1 = .ok (.iload_n 1, 1) := by decide +kernel
theorem dL_withdraw_2 : decode cL_withdraw 2 = .ok (.iload_n 2, 1) := by decide +kernel
theorem dL_withdraw_3 : decode cL_withdraw 3 = .ok (.invokevirtual 99, 3) := by decide +kernel
theorem dL_withdraw_6 : decode cL_withdraw 6 = .ok (.ireturn, 1) := by decide +kernel
theorem dL_withdraw_7 : decode cL_withdraw 7 = .ok (.astore_n 3, 1) := by decide +kernel
theorem dL_withdraw_8 : decode cL_withdraw 8 = .ok (.ldc 49, 2) := by decide +kernel
theorem dL_withdraw_10 : decode cL_withdraw 10 = .ok (.ireturn, 1) := by decide +kernel
theorem dL_withdraw_11 : decode cL_withdraw 11 = .ok (.astore_n 3, 1) := by decide +kernel
theorem dL_withdraw_12 : decode cL_withdraw 12 = .ok (.ldc 88, 2) := by decide +kernel
theorem dL_withdraw_14 : decode cL_withdraw 14 = .ok (.ireturn, 1) := by decide +kernel
theorem dL_setTrust_0 : decode cL_setTrust 0 = .ok (.aload_n 0, 1) := by decide +kernel
theorem dL_setTrust_1 : decode cL_setTrust 1 = .ok (.iload_n 1, 1) := by decide +kernel
theorem dL_setTrust_2 : decode cL_setTrust 2 = .ok (.iload_n 2, 1) := by decide +kernel
theorem dL_setTrust_3 : decode cL_setTrust 3 = .ok (.invokevirtual 102, 3) := by decide +kernel
theorem dL_setTrust_6 : decode cL_setTrust 6 = .ok (.ireturn, 1) := by decide +kernel
theorem dL_setTrust_7 : decode cL_setTrust 7 = .ok (.astore_n 3, 1) := by decide +kernel
theorem dL_setTrust_8 : decode cL_setTrust 8 = .ok (.ldc 49, 2) := by decide +kernel
theorem dL_setTrust_10 : decode cL_setTrust 10 = .ok (.ireturn, 1) := by decide +kernel
theorem dL_setTrust_11 : decode cL_setTrust 11 = .ok (.astore_n 3, 1) := by decide +kernel
theorem dL_setTrust_12 : decode cL_setTrust 12 = .ok (.ldc 42, 2) := by decide +kernel
theorem dL_setTrust_14 : decode cL_setTrust 14 = .ok (.ireturn, 1) := by decide +kernel
theorem dL_setKeeps_0 : decode cL_setKeeps 0 = .ok (.aload_n 0, 1) := by decide +kernel
theorem dL_setKeeps_1 : decode cL_setKeeps 1 = .ok (.iload_n 1, 1) := by decide +kernel
theorem dL_setKeeps_2 : decode cL_setKeeps 2 = .ok (.iload_n 2, 1) := by decide +kernel
theorem dL_setKeeps_3 : decode cL_setKeeps 3 = .ok (.invokevirtual 105, 3) := by decide +kernel
theorem dL_setKeeps_6 : decode cL_setKeeps 6 = .ok (.ireturn, 1) := by decide +kernel
theorem dL_setKeeps_7 : decode cL_setKeeps 7 = .ok (.astore_n 3, 1) := by decide +kernel
theorem dL_setKeeps_8 : decode cL_setKeeps 8 = .ok (.ldc 49, 2) := by decide +kernel
theorem dL_setKeeps_10 : decode cL_setKeeps 10 = .ok (.ireturn, 1) := by decide +kernel
theorem dL_setShare_0 : decode cL_setShare 0 = .ok (.aload_n 0, 1) := by decide +kernel
theorem dL_setShare_1 : decode cL_setShare 1 = .ok (.iload_n 1, 1) := by decide +kernel
theorem dL_setShare_2 : decode cL_setShare 2 = .ok (.invokevirtual 109, 3) := by decide +kernel
theorem dL_setShare_5 : decode cL_setShare 5 = .ok (.ireturn, 1) := by decide +kernel
theorem dL_setShare_6 : decode cL_setShare 6 = .ok (.astore_n 2, 1) := by decide +kernel
theorem dL_setShare_7 : decode cL_setShare 7 = .ok (.ldc 42, 2) := by decide +kernel
theorem dL_setShare_9 : decode cL_setShare 9 = .ok (.ireturn, 1) := by decide +kernel
theorem dL_with_0 : decode cL_with 0 = .ok (.aload_n 0, 1) := by decide +kernel
theorem dL_with_1 : decode cL_with 1 = .ok (.arraylength, 1) := by decide +kernel
theorem dL_with_2 : decode cL_with 2 = .ok (.iconst 1, 1) := by decide +kernel
theorem dL_with_3 : decode cL_with 3 = .ok (.iadd, 1) := by decide +kernel
theorem dL_with_4 : decode cL_with 4 = .ok (.newarray .int, 2) := by decide +kernel
theorem dL_with_6 : decode cL_with 6 = .ok (.astore_n 2, 1) := by decide +kernel
theorem dL_with_7 : decode cL_with 7 = .ok (.iconst 0, 1) := by decide +kernel
theorem dL_with_8 : decode cL_with 8 = .ok (.istore_n 3, 1) := by decide +kernel
theorem dL_with_9 : decode cL_with 9 = .ok (.iload_n 3, 1) := by decide +kernel
theorem dL_with_10 : decode cL_with 10 = .ok (.aload_n 0, 1) := by decide +kernel
theorem dL_with_11 : decode cL_with 11 = .ok (.arraylength, 1) := by decide +kernel
theorem dL_with_12 : decode cL_with 12 = .ok (.if_icmp .ge 15, 3) := by decide +kernel
theorem dL_with_15 : decode cL_with 15 = .ok (.aload_n 2, 1) := by decide +kernel
theorem dL_with_16 : decode cL_with 16 = .ok (.iload_n 3, 1) := by decide +kernel
theorem dL_with_17 : decode cL_with 17 = .ok (.aload_n 0, 1) := by decide +kernel
theorem dL_with_18 : decode cL_with 18 = .ok (.iload_n 3, 1) := by decide +kernel
theorem dL_with_19 : decode cL_with 19 = .ok (.iaload, 1) := by decide +kernel
theorem dL_with_20 : decode cL_with 20 = .ok (.iastore, 1) := by decide +kernel
theorem dL_with_21 : decode cL_with 21 = .ok (.iinc 3 1, 3) := by decide +kernel
theorem dL_with_24 : decode cL_with 24 = .ok (.goto (-15), 3) := by decide +kernel
theorem dL_with_27 : decode cL_with 27 = .ok (.aload_n 2, 1) := by decide +kernel
theorem dL_with_28 : decode cL_with 28 = .ok (.aload_n 0, 1) := by decide +kernel
theorem dL_with_29 : decode cL_with 29 = .ok (.arraylength, 1) := by decide +kernel
theorem dL_with_30 : decode cL_with 30 = .ok (.iload_n 1, 1) := by decide +kernel
theorem dL_with_31 : decode cL_with 31 = .ok (.iastore, 1) := by decide +kernel
theorem dL_with_32 : decode cL_with 32 = .ok (.aload_n 2, 1) := by decide +kernel
theorem dL_with_33 : decode cL_with 33 = .ok (.areturn, 1) := by decide +kernel
theorem dL_has_0 : decode cL_has 0 = .ok (.iconst 0, 1) := by decide +kernel
theorem dL_has_1 : decode cL_has 1 = .ok (.istore_n 2, 1) := by decide +kernel
theorem dL_has_2 : decode cL_has 2 = .ok (.aload_n 0, 1) := by decide +kernel
theorem dL_has_3 : decode cL_has 3 = .ok (.astore_n 3, 1) := by decide +kernel
theorem dL_has_4 : decode cL_has 4 = .ok (.aload_n 3, 1) := by decide +kernel
theorem dL_has_5 : decode cL_has 5 = .ok (.arraylength, 1) := by decide +kernel
theorem dL_has_6 : decode cL_has 6 = .ok (.istore 4, 2) := by decide +kernel
theorem dL_has_8 : decode cL_has 8 = .ok (.iconst 0, 1) := by decide +kernel
theorem dL_has_9 : decode cL_has 9 = .ok (.istore 5, 2) := by decide +kernel
theorem dL_has_11 : decode cL_has 11 = .ok (.iload 5, 2) := by decide +kernel
theorem dL_has_13 : decode cL_has 13 = .ok (.iload 4, 2) := by decide +kernel
theorem dL_has_15 : decode cL_has 15 = .ok (.if_icmp .ge 29, 3) := by decide +kernel
theorem dL_has_18 : decode cL_has 18 = .ok (.aload_n 3, 1) := by decide +kernel
theorem dL_has_19 : decode cL_has 19 = .ok (.iload 5, 2) := by decide +kernel
theorem dL_has_21 : decode cL_has 21 = .ok (.iaload, 1) := by decide +kernel
theorem dL_has_22 : decode cL_has 22 = .ok (.istore 6, 2) := by decide +kernel
theorem dL_has_24 : decode cL_has 24 = .ok (.iload_n 2, 1) := by decide +kernel
theorem dL_has_25 : decode cL_has 25 = .ok (.iload 6, 2) := by decide +kernel
theorem dL_has_27 : decode cL_has 27 = .ok (.iload_n 1, 1) := by decide +kernel
theorem dL_has_28 : decode cL_has 28 = .ok (.if_icmp .ne 7, 3) := by decide +kernel
theorem dL_has_31 : decode cL_has 31 = .ok (.iconst 1, 1) := by decide +kernel
theorem dL_has_32 : decode cL_has 32 = .ok (.goto 4, 3) := by decide +kernel
theorem dL_has_35 : decode cL_has 35 = .ok (.iconst 0, 1) := by decide +kernel
theorem dL_has_36 : decode cL_has 36 = .ok (.ior, 1) := by decide +kernel
theorem dL_has_37 : decode cL_has 37 = .ok (.istore_n 2, 1) := by decide +kernel
theorem dL_has_38 : decode cL_has 38 = .ok (.iinc 5 1, 3) := by decide +kernel
theorem dL_has_41 : decode cL_has 41 = .ok (.goto (-30), 3) := by decide +kernel
theorem dL_has_44 : decode cL_has 44 = .ok (.iload_n 2, 1) := by decide +kernel
theorem dL_has_45 : decode cL_has 45 = .ok (.ireturn, 1) := by decide +kernel
theorem dL_wordOf_0 : decode cL_wordOf 0 = .ok (.iload_n 1, 1) := by decide +kernel
theorem dL_wordOf_1 : decode cL_wordOf 1 = .ok (.ifCond .eq 38, 3) := by decide +kernel
theorem dL_wordOf_4 : decode cL_wordOf 4 = .ok (.iload_n 0, 1) := by decide +kernel
theorem dL_wordOf_5 : decode cL_wordOf 5 = .ok (.ifCond .ne 8, 3) := by decide +kernel
theorem dL_wordOf_8 : decode cL_wordOf 8 = .ok (.ldc 112, 2) := by decide +kernel
theorem dL_wordOf_10 : decode cL_wordOf 10 = .ok (.goto 62, 3) := by decide +kernel
theorem dL_wordOf_13 : decode cL_wordOf 13 = .ok (.new 114, 3) := by decide +kernel
theorem dL_wordOf_16 : decode cL_wordOf 16 = .ok (.dup, 1) := by decide +kernel
theorem dL_wordOf_17 : decode cL_wordOf 17 = .ok (.invokespecial 116, 3) := by decide +kernel
theorem dL_wordOf_20 : decode cL_wordOf 20 = .ok (.ldc 117, 2) := by decide +kernel
theorem dL_wordOf_22 : decode cL_wordOf 22 = .ok (.invokevirtual 119, 3) := by decide +kernel
theorem dL_wordOf_25 : decode cL_wordOf 25 = .ok (.bipush 97, 2) := by decide +kernel
theorem dL_wordOf_27 : decode cL_wordOf 27 = .ok (.iload_n 0, 1) := by decide +kernel
theorem dL_wordOf_28 : decode cL_wordOf 28 = .ok (.iadd, 1) := by decide +kernel
theorem dL_wordOf_29 : decode cL_wordOf 29 = .ok (.i2c, 1) := by decide +kernel
theorem dL_wordOf_30 : decode cL_wordOf 30 = .ok (.invokevirtual 122, 3) := by decide +kernel
theorem dL_wordOf_33 : decode cL_wordOf 33 = .ok (.invokevirtual 125, 3) := by decide +kernel
theorem dL_wordOf_36 : decode cL_wordOf 36 = .ok (.goto 36, 3) := by decide +kernel
theorem dL_wordOf_39 : decode cL_wordOf 39 = .ok (.iload_n 0, 1) := by decide +kernel
theorem dL_wordOf_40 : decode cL_wordOf 40 = .ok (.iconst 1, 1) := by decide +kernel
theorem dL_wordOf_41 : decode cL_wordOf 41 = .ok (.if_icmp .ne 8, 3) := by decide +kernel
theorem dL_wordOf_44 : decode cL_wordOf 44 = .ok (.ldc 129, 2) := by decide +kernel
theorem dL_wordOf_46 : decode cL_wordOf 46 = .ok (.goto 26, 3) := by decide +kernel
theorem dL_wordOf_49 : decode cL_wordOf 49 = .ok (.new 114, 3) := by decide +kernel
theorem dL_wordOf_52 : decode cL_wordOf 52 = .ok (.dup, 1) := by decide +kernel
theorem dL_wordOf_53 : decode cL_wordOf 53 = .ok (.invokespecial 116, 3) := by decide +kernel
theorem dL_wordOf_56 : decode cL_wordOf 56 = .ok (.ldc 131, 2) := by decide +kernel
theorem dL_wordOf_58 : decode cL_wordOf 58 = .ok (.invokevirtual 119, 3) := by decide +kernel
theorem dL_wordOf_61 : decode cL_wordOf 61 = .ok (.bipush 97, 2) := by decide +kernel
theorem dL_wordOf_63 : decode cL_wordOf 63 = .ok (.iload_n 0, 1) := by decide +kernel
theorem dL_wordOf_64 : decode cL_wordOf 64 = .ok (.iadd, 1) := by decide +kernel
theorem dL_wordOf_65 : decode cL_wordOf 65 = .ok (.i2c, 1) := by decide +kernel
theorem dL_wordOf_66 : decode cL_wordOf 66 = .ok (.invokevirtual 122, 3) := by decide +kernel
theorem dL_wordOf_69 : decode cL_wordOf 69 = .ok (.invokevirtual 125, 3) := by decide +kernel
theorem dL_wordOf_72 : decode cL_wordOf 72 = .ok (.areturn, 1) := by decide +kernel
theorem dL_randomLinker_0 : decode cL_randomLinker 0 = .ok (.new 133, 3) := by decide +kernel
theorem dL_randomLinker_3 : decode cL_randomLinker 3 = .ok (.dup, 1) := by decide +kernel
theorem dL_randomLinker_4 : decode cL_randomLinker 4 = .ok (.invokespecial 135, 3) := by decide +kernel
theorem dL_randomLinker_7 : decode cL_randomLinker 7 = .ok (.astore 5, 2) := by decide +kernel
theorem dL_randomLinker_9 : decode cL_randomLinker 9 = .ok (.aload 5, 2) := by decide +kernel
theorem dL_randomLinker_11 : decode cL_randomLinker 11 = .ok (.aload_n 2, 1) := by decide +kernel
theorem dL_randomLinker_12 : decode cL_randomLinker 12 = .ok (.iload_n 3, 1) := by decide +kernel
theorem dL_randomLinker_13 : decode cL_randomLinker 13 = .ok (.iconst 1, 1) := by decide +kernel
theorem dL_randomLinker_14 : decode cL_randomLinker 14 = .ok (.iadd, 1) := by decide +kernel
theorem dL_randomLinker_15 : decode cL_randomLinker 15 = .ok (.invokevirtual 136, 3) := by decide +kernel
theorem dL_randomLinker_18 : decode cL_randomLinker 18 = .ok (.putfield 141, 3) := by decide +kernel
theorem dL_randomLinker_21 : decode cL_randomLinker 21 = .ok (.aload_n 0, 1) := by decide +kernel
theorem dL_randomLinker_22 : decode cL_randomLinker 22 = .ok (.aload_n 1, 1) := by decide +kernel
theorem dL_randomLinker_23 : decode cL_randomLinker 23 = .ok (.ldc 145, 2) := by decide +kernel
theorem dL_randomLinker_25 : decode cL_randomLinker 25 = .ok (.invokestatic 147, 3) := by decide +kernel
theorem dL_randomLinker_28 : decode cL_randomLinker 28 = .ok (.iconst 0, 1) := by decide +kernel
theorem dL_randomLinker_29 : decode cL_randomLinker 29 = .ok (.istore 6, 2) := by decide +kernel
theorem dL_randomLinker_31 : decode cL_randomLinker 31 = .ok (.iload 6, 2) := by decide +kernel
theorem dL_randomLinker_33 : decode cL_randomLinker 33 = .ok (.aload 5, 2) := by decide +kernel
theorem dL_randomLinker_35 : decode cL_randomLinker 35 = .ok (.getfield 141, 3) := by decide +kernel
theorem dL_randomLinker_38 : decode cL_randomLinker 38 = .ok (.if_icmp .ge 34, 3) := by decide +kernel
theorem dL_randomLinker_41 : decode cL_randomLinker 41 = .ok (.aload_n 0, 1) := by decide +kernel
theorem dL_randomLinker_42 : decode cL_randomLinker 42 = .ok (.aload_n 1, 1) := by decide +kernel
theorem dL_randomLinker_43 : decode cL_randomLinker 43 = .ok (.ldc 151, 2) := by decide +kernel
theorem dL_randomLinker_45 : decode cL_randomLinker 45 = .ok (.invokestatic 147, 3) := by decide +kernel
theorem dL_randomLinker_48 : decode cL_randomLinker 48 = .ok (.aload_n 0, 1) := by decide +kernel
theorem dL_randomLinker_49 : decode cL_randomLinker 49 = .ok (.aload_n 1, 1) := by decide +kernel
theorem dL_randomLinker_50 : decode cL_randomLinker 50 = .ok (.iload 6, 2) := by decide +kernel
theorem dL_randomLinker_52 : decode cL_randomLinker 52 = .ok (.iconst 1, 1) := by decide +kernel
theorem dL_randomLinker_53 : decode cL_randomLinker 53 = .ok (.invokestatic 153, 3) := by decide +kernel
theorem dL_randomLinker_56 : decode cL_randomLinker 56 = .ok (.invokestatic 147, 3) := by decide +kernel
theorem dL_randomLinker_59 : decode cL_randomLinker 59 = .ok (.aload_n 0, 1) := by decide +kernel
theorem dL_randomLinker_60 : decode cL_randomLinker 60 = .ok (.aload_n 1, 1) := by decide +kernel
theorem dL_randomLinker_61 : decode cL_randomLinker 61 = .ok (.ldc 157, 2) := by decide +kernel
theorem dL_randomLinker_63 : decode cL_randomLinker 63 = .ok (.invokestatic 147, 3) := by decide +kernel
theorem dL_randomLinker_66 : decode cL_randomLinker 66 = .ok (.iinc 6 1, 3) := by decide +kernel
theorem dL_randomLinker_69 : decode cL_randomLinker 69 = .ok (.goto (-38), 3) := by decide +kernel
theorem dL_randomLinker_72 : decode cL_randomLinker 72 = .ok (.aload_n 2, 1) := by decide +kernel
theorem dL_randomLinker_73 : decode cL_randomLinker 73 = .ok (.iload 4, 2) := by decide +kernel
theorem dL_randomLinker_75 : decode cL_randomLinker 75 = .ok (.iconst 1, 1) := by decide +kernel
theorem dL_randomLinker_76 : decode cL_randomLinker 76 = .ok (.iadd, 1) := by decide +kernel
theorem dL_randomLinker_77 : decode cL_randomLinker 77 = .ok (.invokevirtual 136, 3) := by decide +kernel
theorem dL_randomLinker_80 : decode cL_randomLinker 80 = .ok (.istore 6, 2) := by decide +kernel
theorem dL_randomLinker_82 : decode cL_randomLinker 82 = .ok (.aload 5, 2) := by decide +kernel
theorem dL_randomLinker_84 : decode cL_randomLinker 84 = .ok (.iload 6, 2) := by decide +kernel
theorem dL_randomLinker_86 : decode cL_randomLinker 86 = .ok (.anewarray 159, 3) := by decide +kernel
theorem dL_randomLinker_89 : decode cL_randomLinker 89 = .ok (.putfield 161, 3) := by decide +kernel
theorem dL_randomLinker_92 : decode cL_randomLinker 92 = .ok (.iconst 0, 1) := by decide +kernel
theorem dL_randomLinker_93 : decode cL_randomLinker 93 = .ok (.istore 7, 2) := by decide +kernel
theorem dL_randomLinker_95 : decode cL_randomLinker 95 = .ok (.iload 7, 2) := by decide +kernel
theorem dL_randomLinker_97 : decode cL_randomLinker 97 = .ok (.iload 6, 2) := by decide +kernel
theorem dL_randomLinker_99 : decode cL_randomLinker 99 = .ok (.if_icmp .ge 194, 3) := by decide +kernel
theorem dL_randomLinker_102 : decode cL_randomLinker 102 = .ok (.new 159, 3) := by decide +kernel
theorem dL_randomLinker_105 : decode cL_randomLinker 105 = .ok (.dup, 1) := by decide +kernel
theorem dL_randomLinker_106 : decode cL_randomLinker 106 = .ok (.invokespecial 165, 3) := by decide +kernel
theorem dL_randomLinker_109 : decode cL_randomLinker 109 = .ok (.astore 8, 2) := by decide +kernel
theorem dL_randomLinker_111 : decode cL_randomLinker 111 = .ok (.aload 8, 2) := by decide +kernel
theorem dL_randomLinker_113 : decode cL_randomLinker 113 = .ok (.aload_n 2, 1) := by decide +kernel
theorem dL_randomLinker_114 : decode cL_randomLinker 114 = .ok (.aload_n 2, 1) := by decide +kernel
theorem dL_randomLinker_115 : decode cL_randomLinker 115 = .ok (.iconst 3, 1) := by decide +kernel
theorem dL_randomLinker_116 : decode cL_randomLinker 116 = .ok (.invokevirtual 136, 3) := by decide +kernel
theorem dL_randomLinker_119 : decode cL_randomLinker 119 = .ok (.ifCond .ne 9, 3) := by decide +kernel
theorem dL_randomLinker_122 : decode cL_randomLinker 122 = .ok (.sipush 1000, 3) := by decide +kernel
theorem dL_randomLinker_125 : decode cL_randomLinker 125 = .ok (.goto 5, 3) := by decide +kernel
theorem dL_randomLinker_128 : decode cL_randomLinker 128 = .ok (.bipush 6, 2) := by decide +kernel
theorem dL_randomLinker_130 : decode cL_randomLinker 130 = .ok (.invokevirtual 136, 3) := by decide +kernel
theorem dL_randomLinker_133 : decode cL_randomLinker 133 = .ok (.putfield 166, 3) := by decide +kernel
theorem dL_randomLinker_136 : decode cL_randomLinker 136 = .ok (.aload 8, 2) := by decide +kernel
theorem dL_randomLinker_138 : decode cL_randomLinker 138 = .ok (.aload_n 2, 1) := by decide +kernel
theorem dL_randomLinker_139 : decode cL_randomLinker 139 = .ok (.iconst 2, 1) := by decide +kernel
theorem dL_randomLinker_140 : decode cL_randomLinker 140 = .ok (.invokevirtual 136, 3) := by decide +kernel
theorem dL_randomLinker_143 : decode cL_randomLinker 143 = .ok (.ifCond .ne 7, 3) := by decide +kernel
theorem dL_randomLinker_146 : decode cL_randomLinker 146 = .ok (.iconst 1, 1) := by decide +kernel
theorem dL_randomLinker_147 : decode cL_randomLinker 147 = .ok (.goto 4, 3) := by decide +kernel
theorem dL_randomLinker_150 : decode cL_randomLinker 150 = .ok (.iconst 0, 1) := by decide +kernel
theorem dL_randomLinker_151 : decode cL_randomLinker 151 = .ok (.putfield 169, 3) := by decide +kernel
theorem dL_randomLinker_154 : decode cL_randomLinker 154 = .ok (.aload 8, 2) := by decide +kernel
theorem dL_randomLinker_156 : decode cL_randomLinker 156 = .ok (.aload 5, 2) := by decide +kernel
theorem dL_randomLinker_158 : decode cL_randomLinker 158 = .ok (.getfield 141, 3) := by decide +kernel
theorem dL_randomLinker_161 : decode cL_randomLinker 161 = .ok (.newarray .int, 2) := by decide +kernel
theorem dL_randomLinker_163 : decode cL_randomLinker 163 = .ok (.putfield 172, 3) := by decide +kernel
theorem dL_randomLinker_166 : decode cL_randomLinker 166 = .ok (.iconst 0, 1) := by decide +kernel
theorem dL_randomLinker_167 : decode cL_randomLinker 167 = .ok (.istore 9, 2) := by decide +kernel
theorem dL_randomLinker_169 : decode cL_randomLinker 169 = .ok (.iload 9, 2) := by decide +kernel
theorem dL_randomLinker_171 : decode cL_randomLinker 171 = .ok (.aload 5, 2) := by decide +kernel
theorem dL_randomLinker_173 : decode cL_randomLinker 173 = .ok (.getfield 141, 3) := by decide +kernel
theorem dL_randomLinker_176 : decode cL_randomLinker 176 = .ok (.if_icmp .ge 18, 3) := by decide +kernel
theorem dL_randomLinker_179 : decode cL_randomLinker 179 = .ok (.aload 8, 2) := by decide +kernel
theorem dL_randomLinker_181 : decode cL_randomLinker 181 = .ok (.getfield 172, 3) := by decide +kernel
theorem dL_randomLinker_184 : decode cL_randomLinker 184 = .ok (.iload 9, 2) := by decide +kernel
theorem dL_randomLinker_186 : decode cL_randomLinker 186 = .ok (.iconst (-1), 1) := by decide +kernel
theorem dL_randomLinker_187 : decode cL_randomLinker 187 = .ok (.iastore, 1) := by decide +kernel
theorem dL_randomLinker_188 : decode cL_randomLinker 188 = .ok (.iinc 9 1, 3) := by decide +kernel
theorem dL_randomLinker_191 : decode cL_randomLinker 191 = .ok (.goto (-22), 3) := by decide +kernel
theorem dL_randomLinker_194 : decode cL_randomLinker 194 = .ok (.aload_n 0, 1) := by decide +kernel
theorem dL_randomLinker_195 : decode cL_randomLinker 195 = .ok (.aload_n 1, 1) := by decide +kernel
theorem dL_randomLinker_196 : decode cL_randomLinker 196 = .ok (.ldc 176, 2) := by decide +kernel
theorem dL_randomLinker_198 : decode cL_randomLinker 198 = .ok (.invokestatic 147, 3) := by decide +kernel
theorem dL_randomLinker_201 : decode cL_randomLinker 201 = .ok (.aload_n 0, 1) := by decide +kernel
theorem dL_randomLinker_202 : decode cL_randomLinker 202 = .ok (.aload_n 1, 1) := by decide +kernel
theorem dL_randomLinker_203 : decode cL_randomLinker 203 = .ok (.iload 7, 2) := by decide +kernel
theorem dL_randomLinker_205 : decode cL_randomLinker 205 = .ok (.iconst 0, 1) := by decide +kernel
theorem dL_randomLinker_206 : decode cL_randomLinker 206 = .ok (.invokestatic 153, 3) := by decide +kernel
theorem dL_randomLinker_209 : decode cL_randomLinker 209 = .ok (.invokestatic 147, 3) := by decide +kernel
theorem dL_randomLinker_212 : decode cL_randomLinker 212 = .ok (.aload_n 0, 1) := by decide +kernel
theorem dL_randomLinker_213 : decode cL_randomLinker 213 = .ok (.aload_n 1, 1) := by decide +kernel
theorem dL_randomLinker_214 : decode cL_randomLinker 214 = .ok (.aload_n 2, 1) := by decide +kernel
theorem dL_randomLinker_215 : decode cL_randomLinker 215 = .ok (.iconst 2, 1) := by decide +kernel
theorem dL_randomLinker_216 : decode cL_randomLinker 216 = .ok (.invokevirtual 136, 3) := by decide +kernel
theorem dL_randomLinker_219 : decode cL_randomLinker 219 = .ok (.ifCond .ne 8, 3) := by decide +kernel
theorem dL_randomLinker_222 : decode cL_randomLinker 222 = .ok (.ldc 178, 2) := by decide +kernel
theorem dL_randomLinker_224 : decode cL_randomLinker 224 = .ok (.goto 5, 3) := by decide +kernel
theorem dL_randomLinker_227 : decode cL_randomLinker 227 = .ok (.ldc 180, 2) := by decide +kernel
theorem dL_randomLinker_229 : decode cL_randomLinker 229 = .ok (.invokestatic 147, 3) := by decide +kernel
theorem dL_randomLinker_232 : decode cL_randomLinker 232 = .ok (.aload_n 0, 1) := by decide +kernel
theorem dL_randomLinker_233 : decode cL_randomLinker 233 = .ok (.aload_n 1, 1) := by decide +kernel
theorem dL_randomLinker_234 : decode cL_randomLinker 234 = .ok (.aload 8, 2) := by decide +kernel
theorem dL_randomLinker_236 : decode cL_randomLinker 236 = .ok (.getfield 166, 3) := by decide +kernel
theorem dL_randomLinker_239 : decode cL_randomLinker 239 = .ok (.invokestatic 182, 3) := by decide +kernel
theorem dL_randomLinker_242 : decode cL_randomLinker 242 = .ok (.aload_n 0, 1) := by decide +kernel
theorem dL_randomLinker_243 : decode cL_randomLinker 243 = .ok (.aload_n 1, 1) := by decide +kernel
theorem dL_randomLinker_244 : decode cL_randomLinker 244 = .ok (.aload 8, 2) := by decide +kernel
theorem dL_randomLinker_246 : decode cL_randomLinker 246 = .ok (.getfield 169, 3) := by decide +kernel
theorem dL_randomLinker_249 : decode cL_randomLinker 249 = .ok (.ifCond .eq 8, 3) := by decide +kernel
theorem dL_randomLinker_252 : decode cL_randomLinker 252 = .ok (.ldc 185, 2) := by decide +kernel
theorem dL_randomLinker_254 : decode cL_randomLinker 254 = .ok (.goto 5, 3) := by decide +kernel
theorem dL_randomLinker_257 : decode cL_randomLinker 257 = .ok (.ldc 157, 2) := by decide +kernel
theorem dL_randomLinker_259 : decode cL_randomLinker 259 = .ok (.invokestatic 147, 3) := by decide +kernel
theorem dL_randomLinker_262 : decode cL_randomLinker 262 = .ok (.aload 5, 2) := by decide +kernel
theorem dL_randomLinker_264 : decode cL_randomLinker 264 = .ok (.getfield 161, 3) := by decide +kernel
theorem dL_randomLinker_267 : decode cL_randomLinker 267 = .ok (.iload 7, 2) := by decide +kernel
theorem dL_randomLinker_269 : decode cL_randomLinker 269 = .ok (.aload 8, 2) := by decide +kernel
theorem dL_randomLinker_271 : decode cL_randomLinker 271 = .ok (.aastore, 1) := by decide +kernel
theorem dL_randomLinker_272 : decode cL_randomLinker 272 = .ok (.aload 5, 2) := by decide +kernel
theorem dL_randomLinker_274 : decode cL_randomLinker 274 = .ok (.aload 5, 2) := by decide +kernel
theorem dL_randomLinker_276 : decode cL_randomLinker 276 = .ok (.getfield 187, 3) := by decide +kernel
theorem dL_randomLinker_279 : decode cL_randomLinker 279 = .ok (.iload 7, 2) := by decide +kernel
theorem dL_randomLinker_281 : decode cL_randomLinker 281 = .ok (.invokestatic 190, 3) := by decide +kernel
theorem dL_randomLinker_284 : decode cL_randomLinker 284 = .ok (.putfield 187, 3) := by decide +kernel
theorem dL_randomLinker_287 : decode cL_randomLinker 287 = .ok (.iinc 7 1, 3) := by decide +kernel
theorem dL_randomLinker_290 : decode cL_randomLinker 290 = .ok (.goto (-195), 3) := by decide +kernel
theorem dL_randomLinker_293 : decode cL_randomLinker 293 = .ok (.aload_n 2, 1) := by decide +kernel
theorem dL_randomLinker_294 : decode cL_randomLinker 294 = .ok (.bipush 9, 2) := by decide +kernel
theorem dL_randomLinker_296 : decode cL_randomLinker 296 = .ok (.invokevirtual 136, 3) := by decide +kernel
theorem dL_randomLinker_299 : decode cL_randomLinker 299 = .ok (.istore 7, 2) := by decide +kernel
theorem dL_randomLinker_301 : decode cL_randomLinker 301 = .ok (.iload 7, 2) := by decide +kernel
theorem dL_randomLinker_303 : decode cL_randomLinker 303 = .ok (.ifCond .le 196, 3) := by decide +kernel
theorem dL_randomLinker_306 : decode cL_randomLinker 306 = .ok (.iload 6, 2) := by decide +kernel
theorem dL_randomLinker_308 : decode cL_randomLinker 308 = .ok (.ifCond .le 191, 3) := by decide +kernel
theorem dL_randomLinker_311 : decode cL_randomLinker 311 = .ok (.aload 5, 2) := by decide +kernel
theorem dL_randomLinker_313 : decode cL_randomLinker 313 = .ok (.getfield 141, 3) := by decide +kernel
theorem dL_randomLinker_316 : decode cL_randomLinker 316 = .ok (.ifCond .le 183, 3) := by decide +kernel
theorem dL_randomLinker_319 : decode cL_randomLinker 319 = .ok (.aload_n 2, 1) := by decide +kernel
theorem dL_randomLinker_320 : decode cL_randomLinker 320 = .ok (.iload 6, 2) := by decide +kernel
theorem dL_randomLinker_322 : decode cL_randomLinker 322 = .ok (.invokevirtual 136, 3) := by decide +kernel
theorem dL_randomLinker_325 : decode cL_randomLinker 325 = .ok (.istore 8, 2) := by decide +kernel
theorem dL_randomLinker_327 : decode cL_randomLinker 327 = .ok (.aload_n 2, 1) := by decide +kernel
theorem dL_randomLinker_328 : decode cL_randomLinker 328 = .ok (.aload 5, 2) := by decide +kernel
theorem dL_randomLinker_330 : decode cL_randomLinker 330 = .ok (.getfield 141, 3) := by decide +kernel
theorem dL_randomLinker_333 : decode cL_randomLinker 333 = .ok (.invokevirtual 136, 3) := by decide +kernel
theorem dL_randomLinker_336 : decode cL_randomLinker 336 = .ok (.istore 9, 2) := by decide +kernel
theorem dL_randomLinker_338 : decode cL_randomLinker 338 = .ok (.aload 5, 2) := by decide +kernel
theorem dL_randomLinker_340 : decode cL_randomLinker 340 = .ok (.getfield 161, 3) := by decide +kernel
theorem dL_randomLinker_343 : decode cL_randomLinker 343 = .ok (.iload 8, 2) := by decide +kernel
theorem dL_randomLinker_345 : decode cL_randomLinker 345 = .ok (.aaload, 1) := by decide +kernel
theorem dL_randomLinker_346 : decode cL_randomLinker 346 = .ok (.getfield 172, 3) := by decide +kernel
theorem dL_randomLinker_349 : decode cL_randomLinker 349 = .ok (.iload 9, 2) := by decide +kernel
theorem dL_randomLinker_351 : decode cL_randomLinker 351 = .ok (.iaload, 1) := by decide +kernel
theorem dL_randomLinker_352 : decode cL_randomLinker 352 = .ok (.iconst (-1), 1) := by decide +kernel
theorem dL_randomLinker_353 : decode cL_randomLinker 353 = .ok (.if_icmp .eq 6, 3) := by decide +kernel
theorem dL_randomLinker_356 : decode cL_randomLinker 356 = .ok (.goto 137, 3) := by decide +kernel
theorem dL_randomLinker_359 : decode cL_randomLinker 359 = .ok (.aload_n 2, 1) := by decide +kernel
theorem dL_randomLinker_360 : decode cL_randomLinker 360 = .ok (.iconst 2, 1) := by decide +kernel
theorem dL_randomLinker_361 : decode cL_randomLinker 361 = .ok (.invokevirtual 136, 3) := by decide +kernel
theorem dL_randomLinker_364 : decode cL_randomLinker 364 = .ok (.ifCond .ne 13, 3) := by decide +kernel
theorem dL_randomLinker_367 : decode cL_randomLinker 367 = .ok (.aload_n 2, 1) := by decide +kernel
theorem dL_randomLinker_368 : decode cL_randomLinker 368 = .ok (.sipush 10000, 3) := by decide +kernel
theorem dL_randomLinker_371 : decode cL_randomLinker 371 = .ok (.invokevirtual 136, 3) := by decide +kernel
theorem dL_randomLinker_374 : decode cL_randomLinker 374 = .ok (.goto 15, 3) := by decide +kernel
theorem dL_randomLinker_377 : decode cL_randomLinker 377 = .ok (.bipush (-2), 2) := by decide +kernel
theorem dL_randomLinker_379 : decode cL_randomLinker 379 = .ok (.aload_n 2, 1) := by decide +kernel
theorem dL_randomLinker_380 : decode cL_randomLinker 380 = .ok (.aload 5, 2) := by decide +kernel
theorem dL_randomLinker_382 : decode cL_randomLinker 382 = .ok (.getfield 141, 3) := by decide +kernel
theorem dL_randomLinker_385 : decode cL_randomLinker 385 = .ok (.invokevirtual 136, 3) := by decide +kernel
theorem dL_randomLinker_388 : decode cL_randomLinker 388 = .ok (.isub, 1) := by decide +kernel
theorem dL_randomLinker_389 : decode cL_randomLinker 389 = .ok (.istore 10, 2) := by decide +kernel
theorem dL_randomLinker_391 : decode cL_randomLinker 391 = .ok (.aload 5, 2) := by decide +kernel
theorem dL_randomLinker_393 : decode cL_randomLinker 393 = .ok (.getfield 161, 3) := by decide +kernel
theorem dL_randomLinker_396 : decode cL_randomLinker 396 = .ok (.iload 8, 2) := by decide +kernel
theorem dL_randomLinker_398 : decode cL_randomLinker 398 = .ok (.aaload, 1) := by decide +kernel
theorem dL_randomLinker_399 : decode cL_randomLinker 399 = .ok (.getfield 172, 3) := by decide +kernel
theorem dL_randomLinker_402 : decode cL_randomLinker 402 = .ok (.iload 9, 2) := by decide +kernel
theorem dL_randomLinker_404 : decode cL_randomLinker 404 = .ok (.iload 10, 2) := by decide +kernel
theorem dL_randomLinker_406 : decode cL_randomLinker 406 = .ok (.iastore, 1) := by decide +kernel
theorem dL_randomLinker_407 : decode cL_randomLinker 407 = .ok (.aload_n 0, 1) := by decide +kernel
theorem dL_randomLinker_408 : decode cL_randomLinker 408 = .ok (.aload_n 1, 1) := by decide +kernel
theorem dL_randomLinker_409 : decode cL_randomLinker 409 = .ok (.ldc 194, 2) := by decide +kernel
theorem dL_randomLinker_411 : decode cL_randomLinker 411 = .ok (.invokestatic 147, 3) := by decide +kernel
theorem dL_randomLinker_414 : decode cL_randomLinker 414 = .ok (.aload_n 0, 1) := by decide +kernel
theorem dL_randomLinker_415 : decode cL_randomLinker 415 = .ok (.aload_n 1, 1) := by decide +kernel
theorem dL_randomLinker_416 : decode cL_randomLinker 416 = .ok (.iload 8, 2) := by decide +kernel
theorem dL_randomLinker_418 : decode cL_randomLinker 418 = .ok (.iconst 0, 1) := by decide +kernel
theorem dL_randomLinker_419 : decode cL_randomLinker 419 = .ok (.invokestatic 153, 3) := by decide +kernel
theorem dL_randomLinker_422 : decode cL_randomLinker 422 = .ok (.invokestatic 147, 3) := by decide +kernel
theorem dL_randomLinker_425 : decode cL_randomLinker 425 = .ok (.aload_n 0, 1) := by decide +kernel
theorem dL_randomLinker_426 : decode cL_randomLinker 426 = .ok (.aload_n 1, 1) := by decide +kernel
theorem dL_randomLinker_427 : decode cL_randomLinker 427 = .ok (.ldc 178, 2) := by decide +kernel
theorem dL_randomLinker_429 : decode cL_randomLinker 429 = .ok (.invokestatic 147, 3) := by decide +kernel
theorem dL_randomLinker_432 : decode cL_randomLinker 432 = .ok (.aload_n 0, 1) := by decide +kernel
theorem dL_randomLinker_433 : decode cL_randomLinker 433 = .ok (.aload_n 1, 1) := by decide +kernel
theorem dL_randomLinker_434 : decode cL_randomLinker 434 = .ok (.iload 9, 2) := by decide +kernel
theorem dL_randomLinker_436 : decode cL_randomLinker 436 = .ok (.iconst 1, 1) := by decide +kernel
theorem dL_randomLinker_437 : decode cL_randomLinker 437 = .ok (.invokestatic 153, 3) := by decide +kernel
theorem dL_randomLinker_440 : decode cL_randomLinker 440 = .ok (.invokestatic 147, 3) := by decide +kernel
theorem dL_randomLinker_443 : decode cL_randomLinker 443 = .ok (.aload_n 0, 1) := by decide +kernel
theorem dL_randomLinker_444 : decode cL_randomLinker 444 = .ok (.aload_n 1, 1) := by decide +kernel
theorem dL_randomLinker_445 : decode cL_randomLinker 445 = .ok (.ldc 178, 2) := by decide +kernel
theorem dL_randomLinker_447 : decode cL_randomLinker 447 = .ok (.invokestatic 147, 3) := by decide +kernel
theorem dL_randomLinker_450 : decode cL_randomLinker 450 = .ok (.iload 10, 2) := by decide +kernel
theorem dL_randomLinker_452 : decode cL_randomLinker 452 = .ok (.ifCond .ge 27, 3) := by decide +kernel
theorem dL_randomLinker_455 : decode cL_randomLinker 455 = .ok (.aload_n 0, 1) := by decide +kernel
theorem dL_randomLinker_456 : decode cL_randomLinker 456 = .ok (.aload_n 1, 1) := by decide +kernel
theorem dL_randomLinker_457 : decode cL_randomLinker 457 = .ok (.ldc 196, 2) := by decide +kernel
theorem dL_randomLinker_459 : decode cL_randomLinker 459 = .ok (.invokestatic 147, 3) := by decide +kernel
theorem dL_randomLinker_462 : decode cL_randomLinker 462 = .ok (.aload_n 0, 1) := by decide +kernel
theorem dL_randomLinker_463 : decode cL_randomLinker 463 = .ok (.aload_n 1, 1) := by decide +kernel
theorem dL_randomLinker_464 : decode cL_randomLinker 464 = .ok (.bipush (-2), 2) := by decide +kernel
theorem dL_randomLinker_466 : decode cL_randomLinker 466 = .ok (.iload 10, 2) := by decide +kernel
theorem dL_randomLinker_468 : decode cL_randomLinker 468 = .ok (.isub, 1) := by decide +kernel
theorem dL_randomLinker_469 : decode cL_randomLinker 469 = .ok (.iconst 1, 1) := by decide +kernel
theorem dL_randomLinker_470 : decode cL_randomLinker 470 = .ok (.invokestatic 153, 3) := by decide +kernel
theorem dL_randomLinker_473 : decode cL_randomLinker 473 = .ok (.invokestatic 147, 3) := by decide +kernel
theorem dL_randomLinker_476 : decode cL_randomLinker 476 = .ok (.goto 10, 3) := by decide +kernel
theorem dL_randomLinker_479 : decode cL_randomLinker 479 = .ok (.aload_n 0, 1) := by decide +kernel
theorem dL_randomLinker_480 : decode cL_randomLinker 480 = .ok (.aload_n 1, 1) := by decide +kernel
theorem dL_randomLinker_481 : decode cL_randomLinker 481 = .ok (.iload 10, 2) := by decide +kernel
theorem dL_randomLinker_483 : decode cL_randomLinker 483 = .ok (.invokestatic 182, 3) := by decide +kernel
theorem dL_randomLinker_486 : decode cL_randomLinker 486 = .ok (.aload_n 0, 1) := by decide +kernel
theorem dL_randomLinker_487 : decode cL_randomLinker 487 = .ok (.aload_n 1, 1) := by decide +kernel
theorem dL_randomLinker_488 : decode cL_randomLinker 488 = .ok (.ldc 157, 2) := by decide +kernel
theorem dL_randomLinker_490 : decode cL_randomLinker 490 = .ok (.invokestatic 147, 3) := by decide +kernel
theorem dL_randomLinker_493 : decode cL_randomLinker 493 = .ok (.iinc 7 (-1), 3) := by decide +kernel
theorem dL_randomLinker_496 : decode cL_randomLinker 496 = .ok (.goto (-195), 3) := by decide +kernel
theorem dL_randomLinker_499 : decode cL_randomLinker 499 = .ok (.aload_n 2, 1) := by decide +kernel
theorem dL_randomLinker_500 : decode cL_randomLinker 500 = .ok (.bipush 8, 2) := by decide +kernel
theorem dL_randomLinker_502 : decode cL_randomLinker 502 = .ok (.invokevirtual 136, 3) := by decide +kernel
theorem dL_randomLinker_505 : decode cL_randomLinker 505 = .ok (.istore 7, 2) := by decide +kernel
theorem dL_randomLinker_507 : decode cL_randomLinker 507 = .ok (.iload 7, 2) := by decide +kernel
theorem dL_randomLinker_509 : decode cL_randomLinker 509 = .ok (.ifCond .le 130, 3) := by decide +kernel
theorem dL_randomLinker_512 : decode cL_randomLinker 512 = .ok (.iload 6, 2) := by decide +kernel
theorem dL_randomLinker_514 : decode cL_randomLinker 514 = .ok (.iconst 1, 1) := by decide +kernel
theorem dL_randomLinker_515 : decode cL_randomLinker 515 = .ok (.if_icmp .le 124, 3) := by decide +kernel
theorem dL_randomLinker_518 : decode cL_randomLinker 518 = .ok (.aload_n 2, 1) := by decide +kernel
theorem dL_randomLinker_519 : decode cL_randomLinker 519 = .ok (.iload 6, 2) := by decide +kernel
theorem dL_randomLinker_521 : decode cL_randomLinker 521 = .ok (.invokevirtual 136, 3) := by decide +kernel
theorem dL_randomLinker_524 : decode cL_randomLinker 524 = .ok (.istore 8, 2) := by decide +kernel
theorem dL_randomLinker_526 : decode cL_randomLinker 526 = .ok (.aload_n 2, 1) := by decide +kernel
theorem dL_randomLinker_527 : decode cL_randomLinker 527 = .ok (.iload 6, 2) := by decide +kernel
theorem dL_randomLinker_529 : decode cL_randomLinker 529 = .ok (.invokevirtual 136, 3) := by decide +kernel
theorem dL_randomLinker_532 : decode cL_randomLinker 532 = .ok (.istore 9, 2) := by decide +kernel
theorem dL_randomLinker_534 : decode cL_randomLinker 534 = .ok (.iload 8, 2) := by decide +kernel
theorem dL_randomLinker_536 : decode cL_randomLinker 536 = .ok (.iload 9, 2) := by decide +kernel
theorem dL_randomLinker_538 : decode cL_randomLinker 538 = .ok (.if_icmp .eq 95, 3) := by decide +kernel
theorem dL_randomLinker_541 : decode cL_randomLinker 541 = .ok (.aload 5, 2) := by decide +kernel
theorem dL_randomLinker_543 : decode cL_randomLinker 543 = .ok (.getfield 161, 3) := by decide +kernel
theorem dL_randomLinker_546 : decode cL_randomLinker 546 = .ok (.iload 8, 2) := by decide +kernel
theorem dL_randomLinker_548 : decode cL_randomLinker 548 = .ok (.aaload, 1) := by decide +kernel
theorem dL_randomLinker_549 : decode cL_randomLinker 549 = .ok (.getfield 198, 3) := by decide +kernel
theorem dL_randomLinker_552 : decode cL_randomLinker 552 = .ok (.iload 9, 2) := by decide +kernel
theorem dL_randomLinker_554 : decode cL_randomLinker 554 = .ok (.invokestatic 201, 3) := by decide +kernel
theorem dL_randomLinker_557 : decode cL_randomLinker 557 = .ok (.ifCond .eq 6, 3) := by decide +kernel
theorem dL_randomLinker_560 : decode cL_randomLinker 560 = .ok (.goto 73, 3) := by decide +kernel
theorem dL_randomLinker_563 : decode cL_randomLinker 563 = .ok (.aload 5, 2) := by decide +kernel
theorem dL_randomLinker_565 : decode cL_randomLinker 565 = .ok (.getfield 161, 3) := by decide +kernel
theorem dL_randomLinker_568 : decode cL_randomLinker 568 = .ok (.iload 8, 2) := by decide +kernel
theorem dL_randomLinker_570 : decode cL_randomLinker 570 = .ok (.aaload, 1) := by decide +kernel
theorem dL_randomLinker_571 : decode cL_randomLinker 571 = .ok (.aload 5, 2) := by decide +kernel
theorem dL_randomLinker_573 : decode cL_randomLinker 573 = .ok (.getfield 161, 3) := by decide +kernel
theorem dL_randomLinker_576 : decode cL_randomLinker 576 = .ok (.iload 8, 2) := by decide +kernel
theorem dL_randomLinker_578 : decode cL_randomLinker 578 = .ok (.aaload, 1) := by decide +kernel
theorem dL_randomLinker_579 : decode cL_randomLinker 579 = .ok (.getfield 198, 3) := by decide +kernel
theorem dL_randomLinker_582 : decode cL_randomLinker 582 = .ok (.iload 9, 2) := by decide +kernel
theorem dL_randomLinker_584 : decode cL_randomLinker 584 = .ok (.invokestatic 190, 3) := by decide +kernel
theorem dL_randomLinker_587 : decode cL_randomLinker 587 = .ok (.putfield 198, 3) := by decide +kernel
theorem dL_randomLinker_590 : decode cL_randomLinker 590 = .ok (.aload_n 0, 1) := by decide +kernel
theorem dL_randomLinker_591 : decode cL_randomLinker 591 = .ok (.aload_n 1, 1) := by decide +kernel
theorem dL_randomLinker_592 : decode cL_randomLinker 592 = .ok (.ldc 205, 2) := by decide +kernel
theorem dL_randomLinker_594 : decode cL_randomLinker 594 = .ok (.invokestatic 147, 3) := by decide +kernel
theorem dL_randomLinker_597 : decode cL_randomLinker 597 = .ok (.aload_n 0, 1) := by decide +kernel
theorem dL_randomLinker_598 : decode cL_randomLinker 598 = .ok (.aload_n 1, 1) := by decide +kernel
theorem dL_randomLinker_599 : decode cL_randomLinker 599 = .ok (.iload 8, 2) := by decide +kernel
theorem dL_randomLinker_601 : decode cL_randomLinker 601 = .ok (.iconst 0, 1) := by decide +kernel
theorem dL_randomLinker_602 : decode cL_randomLinker 602 = .ok (.invokestatic 153, 3) := by decide +kernel
theorem dL_randomLinker_605 : decode cL_randomLinker 605 = .ok (.invokestatic 147, 3) := by decide +kernel
theorem dL_randomLinker_608 : decode cL_randomLinker 608 = .ok (.aload_n 0, 1) := by decide +kernel
theorem dL_randomLinker_609 : decode cL_randomLinker 609 = .ok (.aload_n 1, 1) := by decide +kernel
theorem dL_randomLinker_610 : decode cL_randomLinker 610 = .ok (.ldc 178, 2) := by decide +kernel
theorem dL_randomLinker_612 : decode cL_randomLinker 612 = .ok (.invokestatic 147, 3) := by decide +kernel
theorem dL_randomLinker_615 : decode cL_randomLinker 615 = .ok (.aload_n 0, 1) := by decide +kernel
theorem dL_randomLinker_616 : decode cL_randomLinker 616 = .ok (.aload_n 1, 1) := by decide +kernel
theorem dL_randomLinker_617 : decode cL_randomLinker 617 = .ok (.iload 9, 2) := by decide +kernel
theorem dL_randomLinker_619 : decode cL_randomLinker 619 = .ok (.iconst 0, 1) := by decide +kernel
theorem dL_randomLinker_620 : decode cL_randomLinker 620 = .ok (.invokestatic 153, 3) := by decide +kernel
theorem dL_randomLinker_623 : decode cL_randomLinker 623 = .ok (.invokestatic 147, 3) := by decide +kernel
theorem dL_randomLinker_626 : decode cL_randomLinker 626 = .ok (.aload_n 0, 1) := by decide +kernel
theorem dL_randomLinker_627 : decode cL_randomLinker 627 = .ok (.aload_n 1, 1) := by decide +kernel
theorem dL_randomLinker_628 : decode cL_randomLinker 628 = .ok (.ldc 207, 2) := by decide +kernel
theorem dL_randomLinker_630 : decode cL_randomLinker 630 = .ok (.invokestatic 147, 3) := by decide +kernel
theorem dL_randomLinker_633 : decode cL_randomLinker 633 = .ok (.iinc 7 (-1), 3) := by decide +kernel
theorem dL_randomLinker_636 : decode cL_randomLinker 636 = .ok (.goto (-129), 3) := by decide +kernel
theorem dL_randomLinker_639 : decode cL_randomLinker 639 = .ok (.aload_n 2, 1) := by decide +kernel
theorem dL_randomLinker_640 : decode cL_randomLinker 640 = .ok (.iconst 2, 1) := by decide +kernel
theorem dL_randomLinker_641 : decode cL_randomLinker 641 = .ok (.invokevirtual 136, 3) := by decide +kernel
theorem dL_randomLinker_644 : decode cL_randomLinker 644 = .ok (.ifCond .ne 38, 3) := by decide +kernel
theorem dL_randomLinker_647 : decode cL_randomLinker 647 = .ok (.aload 5, 2) := by decide +kernel
theorem dL_randomLinker_649 : decode cL_randomLinker 649 = .ok (.aload_n 2, 1) := by decide +kernel
theorem dL_randomLinker_650 : decode cL_randomLinker 650 = .ok (.bipush 101, 2) := by decide +kernel
theorem dL_randomLinker_652 : decode cL_randomLinker 652 = .ok (.invokevirtual 136, 3) := by decide +kernel
theorem dL_randomLinker_655 : decode cL_randomLinker 655 = .ok (.putfield 209, 3) := by decide +kernel
theorem dL_randomLinker_658 : decode cL_randomLinker 658 = .ok (.aload_n 0, 1) := by decide +kernel
theorem dL_randomLinker_659 : decode cL_randomLinker 659 = .ok (.aload_n 1, 1) := by decide +kernel
theorem dL_randomLinker_660 : decode cL_randomLinker 660 = .ok (.ldc 212, 2) := by decide +kernel
theorem dL_randomLinker_662 : decode cL_randomLinker 662 = .ok (.invokestatic 147, 3) := by decide +kernel
theorem dL_randomLinker_665 : decode cL_randomLinker 665 = .ok (.aload_n 0, 1) := by decide +kernel
theorem dL_randomLinker_666 : decode cL_randomLinker 666 = .ok (.aload_n 1, 1) := by decide +kernel
theorem dL_randomLinker_667 : decode cL_randomLinker 667 = .ok (.aload 5, 2) := by decide +kernel
theorem dL_randomLinker_669 : decode cL_randomLinker 669 = .ok (.getfield 209, 3) := by decide +kernel
theorem dL_randomLinker_672 : decode cL_randomLinker 672 = .ok (.invokestatic 182, 3) := by decide +kernel
theorem dL_randomLinker_675 : decode cL_randomLinker 675 = .ok (.aload_n 0, 1) := by decide +kernel
theorem dL_randomLinker_676 : decode cL_randomLinker 676 = .ok (.aload_n 1, 1) := by decide +kernel
theorem dL_randomLinker_677 : decode cL_randomLinker 677 = .ok (.ldc 157, 2) := by decide +kernel
theorem dL_randomLinker_679 : decode cL_randomLinker 679 = .ok (.invokestatic 147, 3) := by decide +kernel
theorem dL_randomLinker_682 : decode cL_randomLinker 682 = .ok (.aload_n 2, 1) := by decide +kernel
theorem dL_randomLinker_683 : decode cL_randomLinker 683 = .ok (.iconst 2, 1) := by decide +kernel
theorem dL_randomLinker_684 : decode cL_randomLinker 684 = .ok (.invokevirtual 136, 3) := by decide +kernel
theorem dL_randomLinker_687 : decode cL_randomLinker 687 = .ok (.ifCond .ne 45, 3) := by decide +kernel
theorem dL_randomLinker_690 : decode cL_randomLinker 690 = .ok (.aload 5, 2) := by decide +kernel
theorem dL_randomLinker_692 : decode cL_randomLinker 692 = .ok (.aload_n 2, 1) := by decide +kernel
theorem dL_randomLinker_693 : decode cL_randomLinker 693 = .ok (.aload_n 2, 1) := by decide +kernel
theorem dL_randomLinker_694 : decode cL_randomLinker 694 = .ok (.iconst 3, 1) := by decide +kernel
theorem dL_randomLinker_695 : decode cL_randomLinker 695 = .ok (.invokevirtual 136, 3) := by decide +kernel
theorem dL_randomLinker_698 : decode cL_randomLinker 698 = .ok (.invokestatic 214, 3) := by decide +kernel
theorem dL_randomLinker_701 : decode cL_randomLinker 701 = .ok (.putfield 220, 3) := by decide +kernel
theorem dL_randomLinker_704 : decode cL_randomLinker 704 = .ok (.aload_n 0, 1) := by decide +kernel
theorem dL_randomLinker_705 : decode cL_randomLinker 705 = .ok (.aload_n 1, 1) := by decide +kernel
theorem dL_randomLinker_706 : decode cL_randomLinker 706 = .ok (.ldc 224, 2) := by decide +kernel
theorem dL_randomLinker_708 : decode cL_randomLinker 708 = .ok (.invokestatic 147, 3) := by decide +kernel
theorem dL_randomLinker_711 : decode cL_randomLinker 711 = .ok (.aload_n 0, 1) := by decide +kernel
theorem dL_randomLinker_712 : decode cL_randomLinker 712 = .ok (.aload_n 1, 1) := by decide +kernel
theorem dL_randomLinker_713 : decode cL_randomLinker 713 = .ok (.aload 5, 2) := by decide +kernel
theorem dL_randomLinker_715 : decode cL_randomLinker 715 = .ok (.getfield 220, 3) := by decide +kernel
theorem dL_randomLinker_718 : decode cL_randomLinker 718 = .ok (.iconst 0, 1) := by decide +kernel
theorem dL_randomLinker_719 : decode cL_randomLinker 719 = .ok (.invokevirtual 226, 3) := by decide +kernel
theorem dL_randomLinker_722 : decode cL_randomLinker 722 = .ok (.invokestatic 147, 3) := by decide +kernel
theorem dL_randomLinker_725 : decode cL_randomLinker 725 = .ok (.aload_n 0, 1) := by decide +kernel
theorem dL_randomLinker_726 : decode cL_randomLinker 726 = .ok (.aload_n 1, 1) := by decide +kernel
theorem dL_randomLinker_727 : decode cL_randomLinker 727 = .ok (.ldc 157, 2) := by decide +kernel
theorem dL_randomLinker_729 : decode cL_randomLinker 729 = .ok (.invokestatic 147, 3) := by decide +kernel
theorem dL_randomLinker_732 : decode cL_randomLinker 732 = .ok (.aload_n 0, 1) := by decide +kernel
theorem dL_randomLinker_733 : decode cL_randomLinker 733 = .ok (.aload_n 1, 1) := by decide +kernel
theorem dL_randomLinker_734 : decode cL_randomLinker 734 = .ok (.invokestatic 230, 3) := by decide +kernel
theorem dL_randomLinker_737 : decode cL_randomLinker 737 = .ok (.iload 6, 2) := by decide +kernel
theorem dL_randomLinker_739 : decode cL_randomLinker 739 = .ok (.if_icmp .ne 8, 3) := by decide +kernel
theorem dL_randomLinker_742 : decode cL_randomLinker 742 = .ok (.aload 5, 2) := by decide +kernel
theorem dL_randomLinker_744 : decode cL_randomLinker 744 = .ok (.goto 4, 3) := by decide +kernel
theorem dL_randomLinker_747 : decode cL_randomLinker 747 = .ok (.aconst_null, 1) := by decide +kernel
theorem dL_randomLinker_748 : decode cL_randomLinker 748 = .ok (.areturn, 1) := by decide +kernel
theorem dL_agrees_0 : decode cL_agrees 0 = .ok (.aload_n 0, 1) := by decide +kernel
theorem dL_agrees_1 : decode cL_agrees 1 = .ok (.invokevirtual 234, 3) := by decide +kernel
theorem dL_agrees_4 : decode cL_agrees 4 = .ok (.aload_n 1, 1) := by decide +kernel
theorem dL_agrees_5 : decode cL_agrees 5 = .ok (.getfield 161, 3) := by decide +kernel
theorem dL_agrees_8 : decode cL_agrees 8 = .ok (.arraylength, 1) := by decide +kernel
theorem dL_agrees_9 : decode cL_agrees 9 = .ok (.if_icmp .ne 41, 3) := by decide +kernel
theorem dL_agrees_12 : decode cL_agrees 12 = .ok (.aload_n 0, 1) := by decide +kernel
theorem dL_agrees_13 : decode cL_agrees 13 = .ok (.invokevirtual 237, 3) := by decide +kernel
theorem dL_agrees_16 : decode cL_agrees 16 = .ok (.aload_n 1, 1) := by decide +kernel
theorem dL_agrees_17 : decode cL_agrees 17 = .ok (.getfield 141, 3) := by decide +kernel
theorem dL_agrees_20 : decode cL_agrees 20 = .ok (.if_icmp .ne 30, 3) := by decide +kernel
theorem dL_agrees_23 : decode cL_agrees 23 = .ok (.aload_n 0, 1) := by decide +kernel
theorem dL_agrees_24 : decode cL_agrees 24 = .ok (.invokevirtual 239, 3) := by decide +kernel
theorem dL_agrees_27 : decode cL_agrees 27 = .ok (.aload_n 1, 1) := by decide +kernel
theorem dL_agrees_28 : decode cL_agrees 28 = .ok (.getfield 209, 3) := by decide +kernel
theorem dL_agrees_31 : decode cL_agrees 31 = .ok (.if_icmp .ne 19, 3) := by decide +kernel
theorem dL_agrees_34 : decode cL_agrees 34 = .ok (.aload_n 0, 1) := by decide +kernel
theorem dL_agrees_35 : decode cL_agrees 35 = .ok (.invokevirtual 241, 3) := by decide +kernel
theorem dL_agrees_38 : decode cL_agrees 38 = .ok (.aload_n 1, 1) := by decide +kernel
theorem dL_agrees_39 : decode cL_agrees 39 = .ok (.invokevirtual 245, 3) := by decide +kernel
theorem dL_agrees_42 : decode cL_agrees 42 = .ok (.lcmp, 1) := by decide +kernel
theorem dL_agrees_43 : decode cL_agrees 43 = .ok (.ifCond .ne 7, 3) := by decide +kernel
theorem dL_agrees_46 : decode cL_agrees 46 = .ok (.iconst 1, 1) := by decide +kernel
theorem dL_agrees_47 : decode cL_agrees 47 = .ok (.goto 4, 3) := by decide +kernel
theorem dL_agrees_50 : decode cL_agrees 50 = .ok (.iconst 0, 1) := by decide +kernel
theorem dL_agrees_51 : decode cL_agrees 51 = .ok (.istore_n 2, 1) := by decide +kernel
theorem dL_agrees_52 : decode cL_agrees 52 = .ok (.aload_n 1, 1) := by decide +kernel
theorem dL_agrees_53 : decode cL_agrees 53 = .ok (.invokevirtual 248, 3) := by decide +kernel
theorem dL_agrees_56 : decode cL_agrees 56 = .ok (.astore_n 3, 1) := by decide +kernel
theorem dL_agrees_57 : decode cL_agrees 57 = .ok (.iconst 0, 1) := by decide +kernel
theorem dL_agrees_58 : decode cL_agrees 58 = .ok (.istore 4, 2) := by decide +kernel
theorem dL_agrees_60 : decode cL_agrees 60 = .ok (.iload 4, 2) := by decide +kernel
theorem dL_agrees_62 : decode cL_agrees 62 = .ok (.aload_n 1, 1) := by decide +kernel
theorem dL_agrees_63 : decode cL_agrees 63 = .ok (.getfield 161, 3) := by decide +kernel
theorem dL_agrees_66 : decode cL_agrees 66 = .ok (.arraylength, 1) := by decide +kernel
theorem dL_agrees_67 : decode cL_agrees 67 = .ok (.if_icmp .ge 128, 3) := by decide +kernel
theorem dL_agrees_70 : decode cL_agrees 70 = .ok (.iload_n 2, 1) := by decide +kernel
theorem dL_agrees_71 : decode cL_agrees 71 = .ok (.ifCond .eq 124, 3) := by decide +kernel
theorem dL_agrees_74 : decode cL_agrees 74 = .ok (.iconst 0, 1) := by decide +kernel
theorem dL_agrees_75 : decode cL_agrees 75 = .ok (.istore 5, 2) := by decide +kernel
theorem dL_agrees_77 : decode cL_agrees 77 = .ok (.iload 5, 2) := by decide +kernel
theorem dL_agrees_79 : decode cL_agrees 79 = .ok (.bipush 6, 2) := by decide +kernel
theorem dL_agrees_81 : decode cL_agrees 81 = .ok (.if_icmp .ge 38, 3) := by decide +kernel
theorem dL_agrees_84 : decode cL_agrees 84 = .ok (.iload_n 2, 1) := by decide +kernel
theorem dL_agrees_85 : decode cL_agrees 85 = .ok (.ifCond .eq 34, 3) := by decide +kernel
theorem dL_agrees_88 : decode cL_agrees 88 = .ok (.aload_n 0, 1) := by decide +kernel
theorem dL_agrees_89 : decode cL_agrees 89 = .ok (.iload 4, 2) := by decide +kernel
theorem dL_agrees_91 : decode cL_agrees 91 = .ok (.iload 5, 2) := by decide +kernel
theorem dL_agrees_93 : decode cL_agrees 93 = .ok (.invokestatic 252, 3) := by decide +kernel
theorem dL_agrees_96 : decode cL_agrees 96 = .ok (.aload_n 1, 1) := by decide +kernel
theorem dL_agrees_97 : decode cL_agrees 97 = .ok (.iload 4, 2) := by decide +kernel
theorem dL_agrees_99 : decode cL_agrees 99 = .ok (.iload 5, 2) := by decide +kernel
theorem dL_agrees_101 : decode cL_agrees 101 = .ok (.invokevirtual 255, 3) := by decide +kernel
theorem dL_agrees_104 : decode cL_agrees 104 = .ok (.if_icmp .ne 7, 3) := by decide +kernel
theorem dL_agrees_107 : decode cL_agrees 107 = .ok (.iconst 1, 1) := by decide +kernel
theorem dL_agrees_108 : decode cL_agrees 108 = .ok (.goto 4, 3) := by decide +kernel
theorem dL_agrees_111 : decode cL_agrees 111 = .ok (.iconst 0, 1) := by decide +kernel
theorem dL_agrees_112 : decode cL_agrees 112 = .ok (.istore_n 2, 1) := by decide +kernel
theorem dL_agrees_113 : decode cL_agrees 113 = .ok (.iinc 5 1, 3) := by decide +kernel
theorem dL_agrees_116 : decode cL_agrees 116 = .ok (.goto (-39), 3) := by decide +kernel
theorem dL_agrees_119 : decode cL_agrees 119 = .ok (.iconst 0, 1) := by decide +kernel
theorem dL_agrees_120 : decode cL_agrees 120 = .ok (.istore 5, 2) := by decide +kernel
theorem dL_agrees_122 : decode cL_agrees 122 = .ok (.iload 5, 2) := by decide +kernel
theorem dL_agrees_124 : decode cL_agrees 124 = .ok (.aload_n 1, 1) := by decide +kernel
theorem dL_agrees_125 : decode cL_agrees 125 = .ok (.getfield 141, 3) := by decide +kernel
theorem dL_agrees_128 : decode cL_agrees 128 = .ok (.if_icmp .ge 61, 3) := by decide +kernel
theorem dL_agrees_131 : decode cL_agrees 131 = .ok (.iload_n 2, 1) := by decide +kernel
theorem dL_agrees_132 : decode cL_agrees 132 = .ok (.ifCond .eq 57, 3) := by decide +kernel
theorem dL_agrees_135 : decode cL_agrees 135 = .ok (.aload_n 0, 1) := by decide +kernel
theorem dL_agrees_136 : decode cL_agrees 136 = .ok (.iload 4, 2) := by decide +kernel
theorem dL_agrees_138 : decode cL_agrees 138 = .ok (.iload 5, 2) := by decide +kernel
theorem dL_agrees_140 : decode cL_agrees 140 = .ok (.invokestatic 258, 3) := by decide +kernel
theorem dL_agrees_143 : decode cL_agrees 143 = .ok (.aload_n 1, 1) := by decide +kernel
theorem dL_agrees_144 : decode cL_agrees 144 = .ok (.getfield 161, 3) := by decide +kernel
theorem dL_agrees_147 : decode cL_agrees 147 = .ok (.iload 4, 2) := by decide +kernel
theorem dL_agrees_149 : decode cL_agrees 149 = .ok (.aaload, 1) := by decide +kernel
theorem dL_agrees_150 : decode cL_agrees 150 = .ok (.getfield 172, 3) := by decide +kernel
theorem dL_agrees_153 : decode cL_agrees 153 = .ok (.iload 5, 2) := by decide +kernel
theorem dL_agrees_155 : decode cL_agrees 155 = .ok (.iaload, 1) := by decide +kernel
theorem dL_agrees_156 : decode cL_agrees 156 = .ok (.if_icmp .ne 25, 3) := by decide +kernel
theorem dL_agrees_159 : decode cL_agrees 159 = .ok (.aload_n 0, 1) := by decide +kernel
theorem dL_agrees_160 : decode cL_agrees 160 = .ok (.iload 4, 2) := by decide +kernel
theorem dL_agrees_162 : decode cL_agrees 162 = .ok (.iload 5, 2) := by decide +kernel
theorem dL_agrees_164 : decode cL_agrees 164 = .ok (.invokestatic 260, 3) := by decide +kernel
theorem dL_agrees_167 : decode cL_agrees 167 = .ok (.aload_n 3, 1) := by decide +kernel
theorem dL_agrees_168 : decode cL_agrees 168 = .ok (.iload 4, 2) := by decide +kernel
theorem dL_agrees_170 : decode cL_agrees 170 = .ok (.aaload, 1) := by decide +kernel
theorem dL_agrees_171 : decode cL_agrees 171 = .ok (.iload 5, 2) := by decide +kernel
theorem dL_agrees_173 : decode cL_agrees 173 = .ok (.iaload, 1) := by decide +kernel
theorem dL_agrees_174 : decode cL_agrees 174 = .ok (.if_icmp .ne 7, 3) := by decide +kernel
theorem dL_agrees_177 : decode cL_agrees 177 = .ok (.iconst 1, 1) := by decide +kernel
theorem dL_agrees_178 : decode cL_agrees 178 = .ok (.goto 4, 3) := by decide +kernel
theorem dL_agrees_181 : decode cL_agrees 181 = .ok (.iconst 0, 1) := by decide +kernel
theorem dL_agrees_182 : decode cL_agrees 182 = .ok (.istore_n 2, 1) := by decide +kernel
theorem dL_agrees_183 : decode cL_agrees 183 = .ok (.iinc 5 1, 3) := by decide +kernel
theorem dL_agrees_186 : decode cL_agrees 186 = .ok (.goto (-64), 3) := by decide +kernel
theorem dL_agrees_189 : decode cL_agrees 189 = .ok (.iinc 4 1, 3) := by decide +kernel
theorem dL_agrees_192 : decode cL_agrees 192 = .ok (.goto (-132), 3) := by decide +kernel
theorem dL_agrees_195 : decode cL_agrees 195 = .ok (.iload_n 2, 1) := by decide +kernel
theorem dL_agrees_196 : decode cL_agrees 196 = .ok (.ifCond .eq 35, 3) := by decide +kernel
theorem dL_agrees_199 : decode cL_agrees 199 = .ok (.aload_n 0, 1) := by decide +kernel
theorem dL_agrees_200 : decode cL_agrees 200 = .ok (.aload_n 1, 1) := by decide +kernel
theorem dL_agrees_201 : decode cL_agrees 201 = .ok (.getfield 161, 3) := by decide +kernel
theorem dL_agrees_204 : decode cL_agrees 204 = .ok (.arraylength, 1) := by decide +kernel
theorem dL_agrees_205 : decode cL_agrees 205 = .ok (.iconst 0, 1) := by decide +kernel
theorem dL_agrees_206 : decode cL_agrees 206 = .ok (.invokestatic 252, 3) := by decide +kernel
theorem dL_agrees_209 : decode cL_agrees 209 = .ok (.ldc 49, 2) := by decide +kernel
theorem dL_agrees_211 : decode cL_agrees 211 = .ok (.if_icmp .ne 20, 3) := by decide +kernel
theorem dL_agrees_214 : decode cL_agrees 214 = .ok (.aload_n 0, 1) := by decide +kernel
theorem dL_agrees_215 : decode cL_agrees 215 = .ok (.aload_n 1, 1) := by decide +kernel
theorem dL_agrees_216 : decode cL_agrees 216 = .ok (.getfield 141, 3) := by decide +kernel
theorem dL_agrees_219 : decode cL_agrees 219 = .ok (.invokestatic 262, 3) := by decide +kernel
theorem dL_agrees_222 : decode cL_agrees 222 = .ok (.ldc 49, 2) := by decide +kernel
theorem dL_agrees_224 : decode cL_agrees 224 = .ok (.if_icmp .ne 7, 3) := by decide +kernel
theorem dL_agrees_227 : decode cL_agrees 227 = .ok (.iconst 1, 1) := by decide +kernel
theorem dL_agrees_228 : decode cL_agrees 228 = .ok (.goto 4, 3) := by decide +kernel
theorem dL_agrees_231 : decode cL_agrees 231 = .ok (.iconst 0, 1) := by decide +kernel
theorem dL_agrees_232 : decode cL_agrees 232 = .ok (.ireturn, 1) := by decide +kernel
theorem dL_law_0 : decode cL_law 0 = .ok (.iconst 1, 1) := by decide +kernel
theorem dL_law_1 : decode cL_law 1 = .ok (.istore_n 1, 1) := by decide +kernel
theorem dL_law_2 : decode cL_law 2 = .ok (.iconst 0, 1) := by decide +kernel
theorem dL_law_3 : decode cL_law 3 = .ok (.istore_n 2, 1) := by decide +kernel
theorem dL_law_4 : decode cL_law 4 = .ok (.iload_n 2, 1) := by decide +kernel
theorem dL_law_5 : decode cL_law 5 = .ok (.aload_n 0, 1) := by decide +kernel
theorem dL_law_6 : decode cL_law 6 = .ok (.arraylength, 1) := by decide +kernel
theorem dL_law_7 : decode cL_law 7 = .ok (.if_icmp .ge 1310, 3) := by decide +kernel
theorem dL_law_10 : decode cL_law 10 = .ok (.iload_n 2, 1) := by decide +kernel
theorem dL_law_11 : decode cL_law 11 = .ok (.iconst 2, 1) := by decide +kernel
theorem dL_law_12 : decode cL_law 12 = .ok (.if_icmp .ge 1305, 3) := by decide +kernel
theorem dL_law_15 : decode cL_law 15 = .ok (.iload_n 1, 1) := by decide +kernel
theorem dL_law_16 : decode cL_law 16 = .ok (.ifCond .eq 1301, 3) := by decide +kernel
theorem dL_law_19 : decode cL_law 19 = .ok (.new 14, 3) := by decide +kernel
theorem dL_law_22 : decode cL_law 22 = .ok (.dup, 1) := by decide +kernel
theorem dL_law_23 : decode cL_law 23 = .ok (.invokespecial 264, 3) := by decide +kernel
theorem dL_law_26 : decode cL_law 26 = .ok (.astore_n 3, 1) := by decide +kernel
theorem dL_law_27 : decode cL_law 27 = .ok (.bipush 8, 2) := by decide +kernel
theorem dL_law_29 : decode cL_law 29 = .ok (.newarray .int, 2) := by decide +kernel
theorem dL_law_31 : decode cL_law 31 = .ok (.astore 4, 2) := by decide +kernel
theorem dL_law_33 : decode cL_law 33 = .ok (.new 137, 3) := by decide +kernel
theorem dL_law_36 : decode cL_law 36 = .ok (.dup, 1) := by decide +kernel
theorem dL_law_37 : decode cL_law 37 = .ok (.aload_n 0, 1) := by decide +kernel
theorem dL_law_38 : decode cL_law 38 = .ok (.iload_n 2, 1) := by decide +kernel
theorem dL_law_39 : decode cL_law 39 = .ok (.iaload, 1) := by decide +kernel
theorem dL_law_40 : decode cL_law 40 = .ok (.invokespecial 265, 3) := by decide +kernel
theorem dL_law_43 : decode cL_law 43 = .ok (.astore 5, 2) := by decide +kernel
theorem dL_law_45 : decode cL_law 45 = .ok (.aload_n 3, 1) := by decide +kernel
theorem dL_law_46 : decode cL_law 46 = .ok (.new 133, 3) := by decide +kernel
theorem dL_law_49 : decode cL_law 49 = .ok (.dup, 1) := by decide +kernel
theorem dL_law_50 : decode cL_law 50 = .ok (.invokespecial 135, 3) := by decide +kernel
theorem dL_law_53 : decode cL_law 53 = .ok (.invokestatic 268, 3) := by decide +kernel
theorem dL_law_56 : decode cL_law 56 = .ok (.ifCond .eq 83, 3) := by decide +kernel
theorem dL_law_59 : decode cL_law 59 = .ok (.aload_n 3, 1) := by decide +kernel
theorem dL_law_60 : decode cL_law 60 = .ok (.invokevirtual 272, 3) := by decide +kernel
theorem dL_law_63 : decode cL_law 63 = .ok (.iconst (-1), 1) := by decide +kernel
theorem dL_law_64 : decode cL_law 64 = .ok (.if_icmp .ne 75, 3) := by decide +kernel
theorem dL_law_67 : decode cL_law 67 = .ok (.aload_n 3, 1) := by decide +kernel
theorem dL_law_68 : decode cL_law 68 = .ok (.invokevirtual 275, 3) := by decide +kernel
theorem dL_law_71 : decode cL_law 71 = .ok (.iconst (-1), 1) := by decide +kernel
theorem dL_law_72 : decode cL_law 72 = .ok (.if_icmp .ne 67, 3) := by decide +kernel
theorem dL_law_75 : decode cL_law 75 = .ok (.aload_n 3, 1) := by decide +kernel
theorem dL_law_76 : decode cL_law 76 = .ok (.iconst 0, 1) := by decide +kernel
theorem dL_law_77 : decode cL_law 77 = .ok (.invokestatic 278, 3) := by decide +kernel
theorem dL_law_80 : decode cL_law 80 = .ok (.ldc 49, 2) := by decide +kernel
theorem dL_law_82 : decode cL_law 82 = .ok (.if_icmp .ne 57, 3) := by decide +kernel
theorem dL_law_85 : decode cL_law 85 = .ok (.aload_n 3, 1) := by decide +kernel
theorem dL_law_86 : decode cL_law 86 = .ok (.iconst 0, 1) := by decide +kernel
theorem dL_law_87 : decode cL_law 87 = .ok (.iconst 0, 1) := by decide +kernel
theorem dL_law_88 : decode cL_law 88 = .ok (.sipush 10000, 3) := by decide +kernel
theorem dL_law_91 : decode cL_law 91 = .ok (.invokestatic 280, 3) := by decide +kernel
theorem dL_law_94 : decode cL_law 94 = .ok (.ldc 49, 2) := by decide +kernel
theorem dL_law_96 : decode cL_law 96 = .ok (.if_icmp .ne 43, 3) := by decide +kernel
theorem dL_law_99 : decode cL_law 99 = .ok (.aload_n 3, 1) := by decide +kernel
theorem dL_law_100 : decode cL_law 100 = .ok (.bipush 101, 2) := by decide +kernel
theorem dL_law_102 : decode cL_law 102 = .ok (.invokestatic 283, 3) := by decide +kernel
theorem dL_law_105 : decode cL_law 105 = .ok (.ldc 42, 2) := by decide +kernel
theorem dL_law_107 : decode cL_law 107 = .ok (.if_icmp .ne 32, 3) := by decide +kernel
theorem dL_law_110 : decode cL_law 110 = .ok (.aload_n 3, 1) := by decide +kernel
theorem dL_law_111 : decode cL_law 111 = .ok (.bipush 100, 2) := by decide +kernel
theorem dL_law_113 : decode cL_law 113 = .ok (.invokestatic 283, 3) := by decide +kernel
theorem dL_law_116 : decode cL_law 116 = .ok (.ifCond .ne 23, 3) := by decide +kernel
theorem dL_law_119 : decode cL_law 119 = .ok (.aload_n 3, 1) := by decide +kernel
theorem dL_law_120 : decode cL_law 120 = .ok (.invokevirtual 239, 3) := by decide +kernel
theorem dL_law_123 : decode cL_law 123 = .ok (.bipush 100, 2) := by decide +kernel
theorem dL_law_125 : decode cL_law 125 = .ok (.if_icmp .ne 14, 3) := by decide +kernel
theorem dL_law_128 : decode cL_law 128 = .ok (.aload_n 3, 1) := by decide +kernel
theorem dL_law_129 : decode cL_law 129 = .ok (.invokevirtual 275, 3) := by decide +kernel
theorem dL_law_132 : decode cL_law 132 = .ok (.ifCond .ne 7, 3) := by decide +kernel
theorem dL_law_135 : decode cL_law 135 = .ok (.iconst 1, 1) := by decide +kernel
theorem dL_law_136 : decode cL_law 136 = .ok (.goto 4, 3) := by decide +kernel
theorem dL_law_139 : decode cL_law 139 = .ok (.iconst 0, 1) := by decide +kernel
theorem dL_law_140 : decode cL_law 140 = .ok (.istore_n 1, 1) := by decide +kernel
theorem dL_law_141 : decode cL_law 141 = .ok (.aload_n 3, 1) := by decide +kernel
theorem dL_law_142 : decode cL_law 142 = .ok (.aload 4, 2) := by decide +kernel
theorem dL_law_144 : decode cL_law 144 = .ok (.aload 5, 2) := by decide +kernel
theorem dL_law_146 : decode cL_law 146 = .ok (.iconst 4, 1) := by decide +kernel
theorem dL_law_147 : decode cL_law 147 = .ok (.iconst 5, 1) := by decide +kernel
theorem dL_law_148 : decode cL_law 148 = .ok (.invokestatic 285, 3) := by decide +kernel
theorem dL_law_151 : decode cL_law 151 = .ok (.astore 6, 2) := by decide +kernel
theorem dL_law_153 : decode cL_law 153 = .ok (.aload 6, 2) := by decide +kernel
theorem dL_law_155 : decode cL_law 155 = .ok (.ifnonnull 5, 3) := by decide +kernel
theorem dL_law_158 : decode cL_law 158 = .ok (.iconst 0, 1) := by decide +kernel
theorem dL_law_159 : decode cL_law 159 = .ok (.ireturn, 1) := by decide +kernel
theorem dL_law_160 : decode cL_law 160 = .ok (.iload_n 1, 1) := by decide +kernel
theorem dL_law_161 : decode cL_law 161 = .ok (.ifCond .eq 16, 3) := by decide +kernel
theorem dL_law_164 : decode cL_law 164 = .ok (.aload_n 3, 1) := by decide +kernel
theorem dL_law_165 : decode cL_law 165 = .ok (.aload 6, 2) := by decide +kernel
theorem dL_law_167 : decode cL_law 167 = .ok (.invokestatic 268, 3) := by decide +kernel
theorem dL_law_170 : decode cL_law 170 = .ok (.ifCond .eq 7, 3) := by decide +kernel
theorem dL_law_173 : decode cL_law 173 = .ok (.iconst 1, 1) := by decide +kernel
theorem dL_law_174 : decode cL_law 174 = .ok (.goto 4, 3) := by decide +kernel
theorem dL_law_177 : decode cL_law 177 = .ok (.iconst 0, 1) := by decide +kernel
theorem dL_law_178 : decode cL_law 178 = .ok (.istore_n 1, 1) := by decide +kernel
theorem dL_law_179 : decode cL_law 179 = .ok (.bipush 9, 2) := by decide +kernel
theorem dL_law_181 : decode cL_law 181 = .ok (.anewarray 133, 3) := by decide +kernel
theorem dL_law_184 : decode cL_law 184 = .ok (.astore 7, 2) := by decide +kernel
theorem dL_law_186 : decode cL_law 186 = .ok (.iconst 0, 1) := by decide +kernel
theorem dL_law_187 : decode cL_law 187 = .ok (.istore 8, 2) := by decide +kernel
theorem dL_law_189 : decode cL_law 189 = .ok (.iconst 0, 1) := by decide +kernel
theorem dL_law_190 : decode cL_law 190 = .ok (.istore 9, 2) := by decide +kernel
theorem dL_law_192 : decode cL_law 192 = .ok (.iload 9, 2) := by decide +kernel
theorem dL_law_194 : decode cL_law 194 = .ok (.bipush 35, 2) := by decide +kernel
theorem dL_law_196 : decode cL_law 196 = .ok (.if_icmp .ge 999, 3) := by decide +kernel
theorem dL_law_199 : decode cL_law 199 = .ok (.iload_n 1, 1) := by decide +kernel
theorem dL_law_200 : decode cL_law 200 = .ok (.ifCond .eq 995, 3) := by decide +kernel
theorem dL_law_203 : decode cL_law 203 = .ok (.aload 6, 2) := by decide +kernel
theorem dL_law_205 : decode cL_law 205 = .ok (.invokevirtual 289, 3) := by decide +kernel
theorem dL_law_208 : decode cL_law 208 = .ok (.astore 10, 2) := by decide +kernel
theorem dL_law_210 : decode cL_law 210 = .ok (.aload 6, 2) := by decide +kernel
theorem dL_law_212 : decode cL_law 212 = .ok (.invokevirtual 248, 3) := by decide +kernel
theorem dL_law_215 : decode cL_law 215 = .ok (.astore 11, 2) := by decide +kernel
theorem dL_law_217 : decode cL_law 217 = .ok (.iconst 1, 1) := by decide +kernel
theorem dL_law_218 : decode cL_law 218 = .ok (.istore 12, 2) := by decide +kernel
theorem dL_law_220 : decode cL_law 220 = .ok (.ldc 49, 2) := by decide +kernel
theorem dL_law_222 : decode cL_law 222 = .ok (.istore 13, 2) := by decide +kernel
theorem dL_law_224 : decode cL_law 224 = .ok (.aload 6, 2) := by decide +kernel
theorem dL_law_226 : decode cL_law 226 = .ok (.getfield 161, 3) := by decide +kernel
theorem dL_law_229 : decode cL_law 229 = .ok (.arraylength, 1) := by decide +kernel
theorem dL_law_230 : decode cL_law 230 = .ok (.istore 14, 2) := by decide +kernel
theorem dL_law_232 : decode cL_law 232 = .ok (.aload 5, 2) := by decide +kernel
theorem dL_law_234 : decode cL_law 234 = .ok (.iload 14, 2) := by decide +kernel
theorem dL_law_236 : decode cL_law 236 = .ok (.aload 5, 2) := by decide +kernel
theorem dL_law_238 : decode cL_law 238 = .ok (.bipush 12, 2) := by decide +kernel
theorem dL_law_240 : decode cL_law 240 = .ok (.invokevirtual 136, 3) := by decide +kernel
theorem dL_law_243 : decode cL_law 243 = .ok (.ifCond .eq 8, 3) := by decide +kernel
theorem dL_law_246 : decode cL_law 246 = .ok (.iload 14, 2) := by decide +kernel
theorem dL_law_248 : decode cL_law 248 = .ok (.ifCond .ne 7, 3) := by decide +kernel
theorem dL_law_251 : decode cL_law 251 = .ok (.iconst 1, 1) := by decide +kernel
theorem dL_law_252 : decode cL_law 252 = .ok (.goto 4, 3) := by decide +kernel
theorem dL_law_255 : decode cL_law 255 = .ok (.iconst 0, 1) := by decide +kernel
theorem dL_law_256 : decode cL_law 256 = .ok (.iadd, 1) := by decide +kernel
theorem dL_law_257 : decode cL_law 257 = .ok (.invokevirtual 136, 3) := by decide +kernel
theorem dL_law_260 : decode cL_law 260 = .ok (.istore 15, 2) := by decide +kernel
theorem dL_law_262 : decode cL_law 262 = .ok (.aload 5, 2) := by decide +kernel
theorem dL_law_264 : decode cL_law 264 = .ok (.aload 6, 2) := by decide +kernel
theorem dL_law_266 : decode cL_law 266 = .ok (.getfield 141, 3) := by decide +kernel
theorem dL_law_269 : decode cL_law 269 = .ok (.aload 5, 2) := by decide +kernel
theorem dL_law_271 : decode cL_law 271 = .ok (.bipush 12, 2) := by decide +kernel
theorem dL_law_273 : decode cL_law 273 = .ok (.invokevirtual 136, 3) := by decide +kernel
theorem dL_law_276 : decode cL_law 276 = .ok (.ifCond .eq 11, 3) := by decide +kernel
theorem dL_law_279 : decode cL_law 279 = .ok (.aload 6, 2) := by decide +kernel
theorem dL_law_281 : decode cL_law 281 = .ok (.getfield 141, 3) := by decide +kernel
theorem dL_law_284 : decode cL_law 284 = .ok (.ifCond .ne 7, 3) := by decide +kernel
theorem dL_law_287 : decode cL_law 287 = .ok (.iconst 1, 1) := by decide +kernel
theorem dL_law_288 : decode cL_law 288 = .ok (.goto 4, 3) := by decide +kernel
theorem dL_law_291 : decode cL_law 291 = .ok (.iconst 0, 1) := by decide +kernel
theorem dL_law_292 : decode cL_law 292 = .ok (.iadd, 1) := by decide +kernel
theorem dL_law_293 : decode cL_law 293 = .ok (.invokevirtual 136, 3) := by decide +kernel
theorem dL_law_296 : decode cL_law 296 = .ok (.istore 16, 2) := by decide +kernel
theorem dL_law_298 : decode cL_law 298 = .ok (.iload 15, 2) := by decide +kernel
theorem dL_law_300 : decode cL_law 300 = .ok (.iload 14, 2) := by decide +kernel
theorem dL_law_302 : decode cL_law 302 = .ok (.if_icmp .ge 7, 3) := by decide +kernel
theorem dL_law_305 : decode cL_law 305 = .ok (.iconst 1, 1) := by decide +kernel
theorem dL_law_306 : decode cL_law 306 = .ok (.goto 4, 3) := by decide +kernel
theorem dL_law_309 : decode cL_law 309 = .ok (.iconst 0, 1) := by decide +kernel
theorem dL_law_310 : decode cL_law 310 = .ok (.istore 17, 2) := by decide +kernel
theorem dL_law_312 : decode cL_law 312 = .ok (.iload 17, 2) := by decide +kernel
theorem dL_law_314 : decode cL_law 314 = .ok (.ifCond .eq 17, 3) := by decide +kernel
theorem dL_law_317 : decode cL_law 317 = .ok (.iload 16, 2) := by decide +kernel
theorem dL_law_319 : decode cL_law 319 = .ok (.aload 6, 2) := by decide +kernel
theorem dL_law_321 : decode cL_law 321 = .ok (.getfield 141, 3) := by decide +kernel
theorem dL_law_324 : decode cL_law 324 = .ok (.if_icmp .ge 7, 3) := by decide +kernel
theorem dL_law_327 : decode cL_law 327 = .ok (.iconst 1, 1) := by decide +kernel
theorem dL_law_328 : decode cL_law 328 = .ok (.goto 4, 3) := by decide +kernel
theorem dL_law_331 : decode cL_law 331 = .ok (.iconst 0, 1) := by decide +kernel
theorem dL_law_332 : decode cL_law 332 = .ok (.istore 18, 2) := by decide +kernel
theorem dL_law_334 : decode cL_law 334 = .ok (.iload 17, 2) := by decide +kernel
theorem dL_law_336 : decode cL_law 336 = .ok (.ifCond .eq 14, 3) := by decide +kernel
theorem dL_law_339 : decode cL_law 339 = .ok (.aload 6, 2) := by decide +kernel
theorem dL_law_341 : decode cL_law 341 = .ok (.getfield 161, 3) := by decide +kernel
theorem dL_law_344 : decode cL_law 344 = .ok (.iload 15, 2) := by decide +kernel
theorem dL_law_346 : decode cL_law 346 = .ok (.aaload, 1) := by decide +kernel
theorem dL_law_347 : decode cL_law 347 = .ok (.goto 4, 3) := by decide +kernel
theorem dL_law_350 : decode cL_law 350 = .ok (.aconst_null, 1) := by decide +kernel
theorem dL_law_351 : decode cL_law 351 = .ok (.astore 19, 2) := by decide +kernel
theorem dL_law_353 : decode cL_law 353 = .ok (.aload 5, 2) := by decide +kernel
theorem dL_law_355 : decode cL_law 355 = .ok (.bipush 9, 2) := by decide +kernel
theorem dL_law_357 : decode cL_law 357 = .ok (.invokevirtual 136, 3) := by decide +kernel
theorem dL_law_360 : decode cL_law 360 = .ok (.tableswitch 690 0 6 #[44, 131, 195, 296, 374, 374, 561], 44) := by decide +kernel
theorem dL_law_404 : decode cL_law 404 = .ok (.aload 5, 2) := by decide +kernel
theorem dL_law_406 : decode cL_law 406 = .ok (.aload 5, 2) := by decide +kernel
theorem dL_law_408 : decode cL_law 408 = .ok (.bipush 9, 2) := by decide +kernel
theorem dL_law_410 : decode cL_law 410 = .ok (.invokevirtual 136, 3) := by decide +kernel
theorem dL_law_413 : decode cL_law 413 = .ok (.ifCond .ne 9, 3) := by decide +kernel
theorem dL_law_416 : decode cL_law 416 = .ok (.sipush 200, 3) := by decide +kernel
theorem dL_law_419 : decode cL_law 419 = .ok (.goto 5, 3) := by decide +kernel
theorem dL_law_422 : decode cL_law 422 = .ok (.bipush 101, 2) := by decide +kernel
theorem dL_law_424 : decode cL_law 424 = .ok (.invokevirtual 136, 3) := by decide +kernel
theorem dL_law_427 : decode cL_law 427 = .ok (.istore 20, 2) := by decide +kernel
theorem dL_law_429 : decode cL_law 429 = .ok (.iload 20, 2) := by decide +kernel
theorem dL_law_431 : decode cL_law 431 = .ok (.bipush 101, 2) := by decide +kernel
theorem dL_law_433 : decode cL_law 433 = .ok (.if_icmp .ge 7, 3) := by decide +kernel
theorem dL_law_436 : decode cL_law 436 = .ok (.iconst 1, 1) := by decide +kernel
theorem dL_law_437 : decode cL_law 437 = .ok (.goto 4, 3) := by decide +kernel
theorem dL_law_440 : decode cL_law 440 = .ok (.iconst 0, 1) := by decide +kernel
theorem dL_law_441 : decode cL_law 441 = .ok (.istore 12, 2) := by decide +kernel
theorem dL_law_443 : decode cL_law 443 = .ok (.iload 12, 2) := by decide +kernel
theorem dL_law_445 : decode cL_law 445 = .ok (.ifCond .eq 10, 3) := by decide +kernel
theorem dL_law_448 : decode cL_law 448 = .ok (.aload 6, 2) := by decide +kernel
theorem dL_law_450 : decode cL_law 450 = .ok (.iload 20, 2) := by decide +kernel
theorem dL_law_452 : decode cL_law 452 = .ok (.putfield 209, 3) := by decide +kernel
theorem dL_law_455 : decode cL_law 455 = .ok (.aload_n 3, 1) := by decide +kernel
theorem dL_law_456 : decode cL_law 456 = .ok (.iload 20, 2) := by decide +kernel
theorem dL_law_458 : decode cL_law 458 = .ok (.invokestatic 283, 3) := by decide +kernel
theorem dL_law_461 : decode cL_law 461 = .ok (.iload 12, 2) := by decide +kernel
theorem dL_law_463 : decode cL_law 463 = .ok (.ifCond .eq 14, 3) := by decide +kernel
theorem dL_law_466 : decode cL_law 466 = .ok (.aload 6, 2) := by decide +kernel
theorem dL_law_468 : decode cL_law 468 = .ok (.aload 11, 2) := by decide +kernel
theorem dL_law_470 : decode cL_law 470 = .ok (.iconst (-1), 1) := by decide +kernel
theorem dL_law_471 : decode cL_law 471 = .ok (.invokevirtual 293, 3) := by decide +kernel
theorem dL_law_474 : decode cL_law 474 = .ok (.goto 5, 3) := by decide +kernel
theorem dL_law_477 : decode cL_law 477 = .ok (.ldc 42, 2) := by decide +kernel
theorem dL_law_479 : decode cL_law 479 = .ok (.if_icmp .ne 7, 3) := by decide +kernel
theorem dL_law_482 : decode cL_law 482 = .ok (.iconst 1, 1) := by decide +kernel
theorem dL_law_483 : decode cL_law 483 = .ok (.goto 4, 3) := by decide +kernel
theorem dL_law_486 : decode cL_law 486 = .ok (.iconst 0, 1) := by decide +kernel
theorem dL_law_487 : decode cL_law 487 = .ok (.istore_n 1, 1) := by decide +kernel
theorem dL_law_488 : decode cL_law 488 = .ok (.goto 641, 3) := by decide +kernel
theorem dL_law_491 : decode cL_law 491 = .ok (.aload 5, 2) := by decide +kernel
theorem dL_law_493 : decode cL_law 493 = .ok (.iconst 2, 1) := by decide +kernel
theorem dL_law_494 : decode cL_law 494 = .ok (.invokevirtual 136, 3) := by decide +kernel
theorem dL_law_497 : decode cL_law 497 = .ok (.ifCond .ne 7, 3) := by decide +kernel
theorem dL_law_500 : decode cL_law 500 = .ok (.iconst 1, 1) := by decide +kernel
theorem dL_law_501 : decode cL_law 501 = .ok (.goto 4, 3) := by decide +kernel
theorem dL_law_504 : decode cL_law 504 = .ok (.iconst 0, 1) := by decide +kernel
theorem dL_law_505 : decode cL_law 505 = .ok (.istore 21, 2) := by decide +kernel
theorem dL_law_507 : decode cL_law 507 = .ok (.iload 17, 2) := by decide +kernel
theorem dL_law_509 : decode cL_law 509 = .ok (.istore 12, 2) := by decide +kernel
theorem dL_law_511 : decode cL_law 511 = .ok (.iload 17, 2) := by decide +kernel
theorem dL_law_513 : decode cL_law 513 = .ok (.ifCond .eq 20, 3) := by decide +kernel
theorem dL_law_516 : decode cL_law 516 = .ok (.aload 19, 2) := by decide +kernel
theorem dL_law_518 : decode cL_law 518 = .ok (.iload 21, 2) := by decide +kernel
theorem dL_law_520 : decode cL_law 520 = .ok (.putfield 169, 3) := by decide +kernel
theorem dL_law_523 : decode cL_law 523 = .ok (.aload 6, 2) := by decide +kernel
theorem dL_law_525 : decode cL_law 525 = .ok (.aload 11, 2) := by decide +kernel
theorem dL_law_527 : decode cL_law 527 = .ok (.iconst (-1), 1) := by decide +kernel
theorem dL_law_528 : decode cL_law 528 = .ok (.invokevirtual 293, 3) := by decide +kernel
theorem dL_law_531 : decode cL_law 531 = .ok (.istore 13, 2) := by decide +kernel
theorem dL_law_533 : decode cL_law 533 = .ok (.aload_n 3, 1) := by decide +kernel
theorem dL_law_534 : decode cL_law 534 = .ok (.iload 15, 2) := by decide +kernel
theorem dL_law_536 : decode cL_law 536 = .ok (.iload 21, 2) := by decide +kernel
theorem dL_law_538 : decode cL_law 538 = .ok (.invokestatic 297, 3) := by decide +kernel
theorem dL_law_541 : decode cL_law 541 = .ok (.iload 13, 2) := by decide +kernel
theorem dL_law_543 : decode cL_law 543 = .ok (.if_icmp .ne 7, 3) := by decide +kernel
theorem dL_law_546 : decode cL_law 546 = .ok (.iconst 1, 1) := by decide +kernel
theorem dL_law_547 : decode cL_law 547 = .ok (.goto 4, 3) := by decide +kernel
theorem dL_law_550 : decode cL_law 550 = .ok (.iconst 0, 1) := by decide +kernel
theorem dL_law_551 : decode cL_law 551 = .ok (.istore_n 1, 1) := by decide +kernel
theorem dL_law_552 : decode cL_law 552 = .ok (.goto 577, 3) := by decide +kernel
theorem dL_law_555 : decode cL_law 555 = .ok (.aload 5, 2) := by decide +kernel
theorem dL_law_557 : decode cL_law 557 = .ok (.aload 5, 2) := by decide +kernel
theorem dL_law_559 : decode cL_law 559 = .ok (.bipush 9, 2) := by decide +kernel
theorem dL_law_561 : decode cL_law 561 = .ok (.invokevirtual 136, 3) := by decide +kernel
theorem dL_law_564 : decode cL_law 564 = .ok (.ifCond .ne 9, 3) := by decide +kernel
theorem dL_law_567 : decode cL_law 567 = .ok (.sipush 1003, 3) := by decide +kernel
theorem dL_law_570 : decode cL_law 570 = .ok (.goto 5, 3) := by decide +kernel
theorem dL_law_573 : decode cL_law 573 = .ok (.bipush 12, 2) := by decide +kernel
theorem dL_law_575 : decode cL_law 575 = .ok (.invokevirtual 136, 3) := by decide +kernel
theorem dL_law_578 : decode cL_law 578 = .ok (.istore 22, 2) := by decide +kernel
theorem dL_law_580 : decode cL_law 580 = .ok (.iload 17, 2) := by decide +kernel
theorem dL_law_582 : decode cL_law 582 = .ok (.ifCond .eq 15, 3) := by decide +kernel
theorem dL_law_585 : decode cL_law 585 = .ok (.iload 22, 2) := by decide +kernel
theorem dL_law_587 : decode cL_law 587 = .ok (.sipush 1000, 3) := by decide +kernel
theorem dL_law_590 : decode cL_law 590 = .ok (.if_icmp .ge 7, 3) := by decide +kernel
theorem dL_law_593 : decode cL_law 593 = .ok (.iconst 1, 1) := by decide +kernel
theorem dL_law_594 : decode cL_law 594 = .ok (.goto 4, 3) := by decide +kernel
theorem dL_law_597 : decode cL_law 597 = .ok (.iconst 0, 1) := by decide +kernel
theorem dL_law_598 : decode cL_law 598 = .ok (.istore 12, 2) := by decide +kernel
theorem dL_law_600 : decode cL_law 600 = .ok (.iload 17, 2) := by decide +kernel
theorem dL_law_602 : decode cL_law 602 = .ok (.ifCond .eq 20, 3) := by decide +kernel
theorem dL_law_605 : decode cL_law 605 = .ok (.iload 12, 2) := by decide +kernel
theorem dL_law_607 : decode cL_law 607 = .ok (.ifCond .eq 11, 3) := by decide +kernel
theorem dL_law_610 : decode cL_law 610 = .ok (.aload 19, 2) := by decide +kernel
theorem dL_law_612 : decode cL_law 612 = .ok (.getfield 166, 3) := by decide +kernel
theorem dL_law_615 : decode cL_law 615 = .ok (.goto 5, 3) := by decide +kernel
theorem dL_law_618 : decode cL_law 618 = .ok (.ldc 42, 2) := by decide +kernel
theorem dL_law_620 : decode cL_law 620 = .ok (.istore 13, 2) := by decide +kernel
theorem dL_law_622 : decode cL_law 622 = .ok (.iload 12, 2) := by decide +kernel
theorem dL_law_624 : decode cL_law 624 = .ok (.ifCond .eq 10, 3) := by decide +kernel
theorem dL_law_627 : decode cL_law 627 = .ok (.aload 19, 2) := by decide +kernel
theorem dL_law_629 : decode cL_law 629 = .ok (.iload 22, 2) := by decide +kernel
theorem dL_law_631 : decode cL_law 631 = .ok (.putfield 166, 3) := by decide +kernel
theorem dL_law_634 : decode cL_law 634 = .ok (.aload_n 3, 1) := by decide +kernel
theorem dL_law_635 : decode cL_law 635 = .ok (.iload 15, 2) := by decide +kernel
theorem dL_law_637 : decode cL_law 637 = .ok (.iload 22, 2) := by decide +kernel
theorem dL_law_639 : decode cL_law 639 = .ok (.invokestatic 300, 3) := by decide +kernel
theorem dL_law_642 : decode cL_law 642 = .ok (.iload 13, 2) := by decide +kernel
theorem dL_law_644 : decode cL_law 644 = .ok (.if_icmp .ne 7, 3) := by decide +kernel
theorem dL_law_647 : decode cL_law 647 = .ok (.iconst 1, 1) := by decide +kernel
theorem dL_law_648 : decode cL_law 648 = .ok (.goto 4, 3) := by decide +kernel
theorem dL_law_651 : decode cL_law 651 = .ok (.iconst 0, 1) := by decide +kernel
theorem dL_law_652 : decode cL_law 652 = .ok (.istore_n 1, 1) := by decide +kernel
theorem dL_law_653 : decode cL_law 653 = .ok (.goto 476, 3) := by decide +kernel
theorem dL_law_656 : decode cL_law 656 = .ok (.iload 18, 2) := by decide +kernel
theorem dL_law_658 : decode cL_law 658 = .ok (.ifCond .eq 19, 3) := by decide +kernel
theorem dL_law_661 : decode cL_law 661 = .ok (.aload 19, 2) := by decide +kernel
theorem dL_law_663 : decode cL_law 663 = .ok (.getfield 172, 3) := by decide +kernel
theorem dL_law_666 : decode cL_law 666 = .ok (.iload 16, 2) := by decide +kernel
theorem dL_law_668 : decode cL_law 668 = .ok (.iaload, 1) := by decide +kernel
theorem dL_law_669 : decode cL_law 669 = .ok (.iconst (-1), 1) := by decide +kernel
theorem dL_law_670 : decode cL_law 670 = .ok (.if_icmp .eq 7, 3) := by decide +kernel
theorem dL_law_673 : decode cL_law 673 = .ok (.iconst 1, 1) := by decide +kernel
theorem dL_law_674 : decode cL_law 674 = .ok (.goto 4, 3) := by decide +kernel
theorem dL_law_677 : decode cL_law 677 = .ok (.iconst 0, 1) := by decide +kernel
theorem dL_law_678 : decode cL_law 678 = .ok (.istore 12, 2) := by decide +kernel
theorem dL_law_680 : decode cL_law 680 = .ok (.iload 18, 2) := by decide +kernel
theorem dL_law_682 : decode cL_law 682 = .ok (.ifCond .eq 7, 3) := by decide +kernel
theorem dL_law_685 : decode cL_law 685 = .ok (.ldc 88, 2) := by decide +kernel
theorem dL_law_687 : decode cL_law 687 = .ok (.istore 13, 2) := by decide +kernel
theorem dL_law_689 : decode cL_law 689 = .ok (.iload 12, 2) := by decide +kernel
theorem dL_law_691 : decode cL_law 691 = .ok (.ifCond .eq 21, 3) := by decide +kernel
theorem dL_law_694 : decode cL_law 694 = .ok (.aload 19, 2) := by decide +kernel
theorem dL_law_696 : decode cL_law 696 = .ok (.getfield 172, 3) := by decide +kernel
theorem dL_law_699 : decode cL_law 699 = .ok (.iload 16, 2) := by decide +kernel
theorem dL_law_701 : decode cL_law 701 = .ok (.iconst (-1), 1) := by decide +kernel
theorem dL_law_702 : decode cL_law 702 = .ok (.iastore, 1) := by decide +kernel
theorem dL_law_703 : decode cL_law 703 = .ok (.aload 6, 2) := by decide +kernel
theorem dL_law_705 : decode cL_law 705 = .ok (.iload 16, 2) := by decide +kernel
theorem dL_law_707 : decode cL_law 707 = .ok (.invokevirtual 302, 3) := by decide +kernel
theorem dL_law_710 : decode cL_law 710 = .ok (.istore 13, 2) := by decide +kernel
theorem dL_law_712 : decode cL_law 712 = .ok (.aload_n 3, 1) := by decide +kernel
theorem dL_law_713 : decode cL_law 713 = .ok (.iload 15, 2) := by decide +kernel
theorem dL_law_715 : decode cL_law 715 = .ok (.iload 16, 2) := by decide +kernel
theorem dL_law_717 : decode cL_law 717 = .ok (.invokestatic 303, 3) := by decide +kernel
theorem dL_law_720 : decode cL_law 720 = .ok (.iload 13, 2) := by decide +kernel
theorem dL_law_722 : decode cL_law 722 = .ok (.if_icmp .ne 7, 3) := by decide +kernel
theorem dL_law_725 : decode cL_law 725 = .ok (.iconst 1, 1) := by decide +kernel
theorem dL_law_726 : decode cL_law 726 = .ok (.goto 4, 3) := by decide +kernel
theorem dL_law_729 : decode cL_law 729 = .ok (.iconst 0, 1) := by decide +kernel
theorem dL_law_730 : decode cL_law 730 = .ok (.istore_n 1, 1) := by decide +kernel
theorem dL_law_731 : decode cL_law 731 = .ok (.goto 398, 3) := by decide +kernel
theorem dL_law_734 : decode cL_law 734 = .ok (.aload 5, 2) := by decide +kernel
theorem dL_law_736 : decode cL_law 736 = .ok (.aload 6, 2) := by decide +kernel
theorem dL_law_738 : decode cL_law 738 = .ok (.getfield 141, 3) := by decide +kernel
theorem dL_law_741 : decode cL_law 741 = .ok (.iconst 1, 1) := by decide +kernel
theorem dL_law_742 : decode cL_law 742 = .ok (.iadd, 1) := by decide +kernel
theorem dL_law_743 : decode cL_law 743 = .ok (.invokevirtual 136, 3) := by decide +kernel
theorem dL_law_746 : decode cL_law 746 = .ok (.istore 23, 2) := by decide +kernel
theorem dL_law_748 : decode cL_law 748 = .ok (.aload 5, 2) := by decide +kernel
theorem dL_law_750 : decode cL_law 750 = .ok (.iconst 2, 1) := by decide +kernel
theorem dL_law_751 : decode cL_law 751 = .ok (.invokevirtual 136, 3) := by decide +kernel
theorem dL_law_754 : decode cL_law 754 = .ok (.ifCond .ne 7, 3) := by decide +kernel
theorem dL_law_757 : decode cL_law 757 = .ok (.iconst 1, 1) := by decide +kernel
theorem dL_law_758 : decode cL_law 758 = .ok (.goto 4, 3) := by decide +kernel
theorem dL_law_761 : decode cL_law 761 = .ok (.iconst 0, 1) := by decide +kernel
theorem dL_law_762 : decode cL_law 762 = .ok (.istore 24, 2) := by decide +kernel
theorem dL_law_764 : decode cL_law 764 = .ok (.aload 5, 2) := by decide +kernel
theorem dL_law_766 : decode cL_law 766 = .ok (.aload 5, 2) := by decide +kernel
theorem dL_law_768 : decode cL_law 768 = .ok (.bipush 9, 2) := by decide +kernel
theorem dL_law_770 : decode cL_law 770 = .ok (.invokevirtual 136, 3) := by decide +kernel
theorem dL_law_773 : decode cL_law 773 = .ok (.ifCond .ne 9, 3) := by decide +kernel
theorem dL_law_776 : decode cL_law 776 = .ok (.sipush 12000, 3) := by decide +kernel
theorem dL_law_779 : decode cL_law 779 = .ok (.goto 6, 3) := by decide +kernel
theorem dL_law_782 : decode cL_law 782 = .ok (.sipush 10000, 3) := by decide +kernel
theorem dL_law_785 : decode cL_law 785 = .ok (.invokevirtual 136, 3) := by decide +kernel
theorem dL_law_788 : decode cL_law 788 = .ok (.istore 25, 2) := by decide +kernel
theorem dL_law_790 : decode cL_law 790 = .ok (.iload 18, 2) := by decide +kernel
theorem dL_law_792 : decode cL_law 792 = .ok (.ifCond .eq 33, 3) := by decide +kernel
theorem dL_law_795 : decode cL_law 795 = .ok (.iload 24, 2) := by decide +kernel
theorem dL_law_797 : decode cL_law 797 = .ok (.ifCond .eq 16, 3) := by decide +kernel
theorem dL_law_800 : decode cL_law 800 = .ok (.iload 23, 2) := by decide +kernel
theorem dL_law_802 : decode cL_law 802 = .ok (.aload 6, 2) := by decide +kernel
theorem dL_law_804 : decode cL_law 804 = .ok (.getfield 141, 3) := by decide +kernel
theorem dL_law_807 : decode cL_law 807 = .ok (.if_icmp .ge 18, 3) := by decide +kernel
theorem dL_law_810 : decode cL_law 810 = .ok (.goto 11, 3) := by decide +kernel
theorem dL_law_813 : decode cL_law 813 = .ok (.iload 25, 2) := by decide +kernel
theorem dL_law_815 : decode cL_law 815 = .ok (.sipush 10000, 3) := by decide +kernel
theorem dL_law_818 : decode cL_law 818 = .ok (.if_icmp .ge 7, 3) := by decide +kernel
theorem dL_law_821 : decode cL_law 821 = .ok (.iconst 1, 1) := by decide +kernel
theorem dL_law_822 : decode cL_law 822 = .ok (.goto 4, 3) := by decide +kernel
theorem dL_law_825 : decode cL_law 825 = .ok (.iconst 0, 1) := by decide +kernel
theorem dL_law_826 : decode cL_law 826 = .ok (.istore 12, 2) := by decide +kernel
theorem dL_law_828 : decode cL_law 828 = .ok (.iload 18, 2) := by decide +kernel
theorem dL_law_830 : decode cL_law 830 = .ok (.ifCond .eq 12, 3) := by decide +kernel
theorem dL_law_833 : decode cL_law 833 = .ok (.iload 24, 2) := by decide +kernel
theorem dL_law_835 : decode cL_law 835 = .ok (.ifCond .ne 7, 3) := by decide +kernel
theorem dL_law_838 : decode cL_law 838 = .ok (.ldc 42, 2) := by decide +kernel
theorem dL_law_840 : decode cL_law 840 = .ok (.istore 13, 2) := by decide +kernel
theorem dL_law_842 : decode cL_law 842 = .ok (.iload 12, 2) := by decide +kernel
theorem dL_law_844 : decode cL_law 844 = .ok (.ifCond .eq 35, 3) := by decide +kernel
theorem dL_law_847 : decode cL_law 847 = .ok (.aload 19, 2) := by decide +kernel
theorem dL_law_849 : decode cL_law 849 = .ok (.getfield 172, 3) := by decide +kernel
theorem dL_law_852 : decode cL_law 852 = .ok (.iload 16, 2) := by decide +kernel
theorem dL_law_854 : decode cL_law 854 = .ok (.iload 24, 2) := by decide +kernel
theorem dL_law_856 : decode cL_law 856 = .ok (.ifCond .eq 11, 3) := by decide +kernel
theorem dL_law_859 : decode cL_law 859 = .ok (.bipush (-2), 2) := by decide +kernel
theorem dL_law_861 : decode cL_law 861 = .ok (.iload 23, 2) := by decide +kernel
theorem dL_law_863 : decode cL_law 863 = .ok (.isub, 1) := by decide +kernel
theorem dL_law_864 : decode cL_law 864 = .ok (.goto 5, 3) := by decide +kernel
theorem dL_law_867 : decode cL_law 867 = .ok (.iload 25, 2) := by decide +kernel
theorem dL_law_869 : decode cL_law 869 = .ok (.iastore, 1) := by decide +kernel
theorem dL_law_870 : decode cL_law 870 = .ok (.aload 6, 2) := by decide +kernel
theorem dL_law_872 : decode cL_law 872 = .ok (.iload 16, 2) := by decide +kernel
theorem dL_law_874 : decode cL_law 874 = .ok (.invokevirtual 302, 3) := by decide +kernel
theorem dL_law_877 : decode cL_law 877 = .ok (.istore 13, 2) := by decide +kernel
theorem dL_law_879 : decode cL_law 879 = .ok (.iload 24, 2) := by decide +kernel
theorem dL_law_881 : decode cL_law 881 = .ok (.ifCond .eq 16, 3) := by decide +kernel
theorem dL_law_884 : decode cL_law 884 = .ok (.aload_n 3, 1) := by decide +kernel
theorem dL_law_885 : decode cL_law 885 = .ok (.iload 15, 2) := by decide +kernel
theorem dL_law_887 : decode cL_law 887 = .ok (.iload 16, 2) := by decide +kernel
theorem dL_law_889 : decode cL_law 889 = .ok (.iload 23, 2) := by decide +kernel
theorem dL_law_891 : decode cL_law 891 = .ok (.invokestatic 305, 3) := by decide +kernel
theorem dL_law_894 : decode cL_law 894 = .ok (.goto 13, 3) := by decide +kernel
theorem dL_law_897 : decode cL_law 897 = .ok (.aload_n 3, 1) := by decide +kernel
theorem dL_law_898 : decode cL_law 898 = .ok (.iload 15, 2) := by decide +kernel
theorem dL_law_900 : decode cL_law 900 = .ok (.iload 16, 2) := by decide +kernel
theorem dL_law_902 : decode cL_law 902 = .ok (.iload 25, 2) := by decide +kernel
theorem dL_law_904 : decode cL_law 904 = .ok (.invokestatic 280, 3) := by decide +kernel
theorem dL_law_907 : decode cL_law 907 = .ok (.iload 13, 2) := by decide +kernel
theorem dL_law_909 : decode cL_law 909 = .ok (.if_icmp .ne 7, 3) := by decide +kernel
theorem dL_law_912 : decode cL_law 912 = .ok (.iconst 1, 1) := by decide +kernel
theorem dL_law_913 : decode cL_law 913 = .ok (.goto 4, 3) := by decide +kernel
theorem dL_law_916 : decode cL_law 916 = .ok (.iconst 0, 1) := by decide +kernel
theorem dL_law_917 : decode cL_law 917 = .ok (.istore_n 1, 1) := by decide +kernel
theorem dL_law_918 : decode cL_law 918 = .ok (.goto 211, 3) := by decide +kernel
theorem dL_law_921 : decode cL_law 921 = .ok (.iload 17, 2) := by decide +kernel
theorem dL_law_923 : decode cL_law 923 = .ok (.ifCond .eq 17, 3) := by decide +kernel
theorem dL_law_926 : decode cL_law 926 = .ok (.aload 6, 2) := by decide +kernel
theorem dL_law_928 : decode cL_law 928 = .ok (.iload 15, 2) := by decide +kernel
theorem dL_law_930 : decode cL_law 930 = .ok (.invokevirtual 307, 3) := by decide +kernel
theorem dL_law_933 : decode cL_law 933 = .ok (.ifCond .lt 7, 3) := by decide +kernel
theorem dL_law_936 : decode cL_law 936 = .ok (.iconst 1, 1) := by decide +kernel
theorem dL_law_937 : decode cL_law 937 = .ok (.goto 4, 3) := by decide +kernel
theorem dL_law_940 : decode cL_law 940 = .ok (.iconst 0, 1) := by decide +kernel
theorem dL_law_941 : decode cL_law 941 = .ok (.istore 12, 2) := by decide +kernel
theorem dL_law_943 : decode cL_law 943 = .ok (.iload 17, 2) := by decide +kernel
theorem dL_law_945 : decode cL_law 945 = .ok (.ifCond .eq 7, 3) := by decide +kernel
theorem dL_law_948 : decode cL_law 948 = .ok (.ldc 88, 2) := by decide +kernel
theorem dL_law_950 : decode cL_law 950 = .ok (.istore 13, 2) := by decide +kernel
theorem dL_law_952 : decode cL_law 952 = .ok (.iload 12, 2) := by decide +kernel
theorem dL_law_954 : decode cL_law 954 = .ok (.ifCond .eq 76, 3) := by decide +kernel
theorem dL_law_957 : decode cL_law 957 = .ok (.iconst 0, 1) := by decide +kernel
theorem dL_law_958 : decode cL_law 958 = .ok (.newarray .int, 2) := by decide +kernel
theorem dL_law_960 : decode cL_law 960 = .ok (.astore 26, 2) := by decide +kernel
theorem dL_law_962 : decode cL_law 962 = .ok (.aload 6, 2) := by decide +kernel
theorem dL_law_964 : decode cL_law 964 = .ok (.getfield 187, 3) := by decide +kernel
theorem dL_law_967 : decode cL_law 967 = .ok (.astore 27, 2) := by decide +kernel
theorem dL_law_969 : decode cL_law 969 = .ok (.aload 27, 2) := by decide +kernel
theorem dL_law_971 : decode cL_law 971 = .ok (.arraylength, 1) := by decide +kernel
theorem dL_law_972 : decode cL_law 972 = .ok (.istore 28, 2) := by decide +kernel
theorem dL_law_974 : decode cL_law 974 = .ok (.iconst 0, 1) := by decide +kernel
theorem dL_law_975 : decode cL_law 975 = .ok (.istore 29, 2) := by decide +kernel
theorem dL_law_977 : decode cL_law 977 = .ok (.iload 29, 2) := by decide +kernel
theorem dL_law_979 : decode cL_law 979 = .ok (.iload 28, 2) := by decide +kernel
theorem dL_law_981 : decode cL_law 981 = .ok (.if_icmp .ge 32, 3) := by decide +kernel
theorem dL_law_984 : decode cL_law 984 = .ok (.aload 27, 2) := by decide +kernel
theorem dL_law_986 : decode cL_law 986 = .ok (.iload 29, 2) := by decide +kernel
theorem dL_law_988 : decode cL_law 988 = .ok (.iaload, 1) := by decide +kernel
theorem dL_law_989 : decode cL_law 989 = .ok (.istore 30, 2) := by decide +kernel
theorem dL_law_991 : decode cL_law 991 = .ok (.iload 30, 2) := by decide +kernel
theorem dL_law_993 : decode cL_law 993 = .ok (.iload 15, 2) := by decide +kernel
theorem dL_law_995 : decode cL_law 995 = .ok (.if_icmp .eq 12, 3) := by decide +kernel
theorem dL_law_998 : decode cL_law 998 = .ok (.aload 26, 2) := by decide +kernel
theorem dL_law_1000 : decode cL_law 1000 = .ok (.iload 30, 2) := by decide +kernel
theorem dL_law_1002 : decode cL_law 1002 = .ok (.invokestatic 190, 3) := by decide +kernel
theorem dL_law_1005 : decode cL_law 1005 = .ok (.astore 26, 2) := by decide +kernel
theorem dL_law_1007 : decode cL_law 1007 = .ok (.iinc 29 1, 3) := by decide +kernel
theorem dL_law_1010 : decode cL_law 1010 = .ok (.goto (-33), 3) := by decide +kernel
theorem dL_law_1013 : decode cL_law 1013 = .ok (.aload 6, 2) := by decide +kernel
theorem dL_law_1015 : decode cL_law 1015 = .ok (.aload 26, 2) := by decide +kernel
theorem dL_law_1017 : decode cL_law 1017 = .ok (.putfield 187, 3) := by decide +kernel
theorem dL_law_1020 : decode cL_law 1020 = .ok (.aload 6, 2) := by decide +kernel
theorem dL_law_1022 : decode cL_law 1022 = .ok (.aload 11, 2) := by decide +kernel
theorem dL_law_1024 : decode cL_law 1024 = .ok (.iconst (-1), 1) := by decide +kernel
theorem dL_law_1025 : decode cL_law 1025 = .ok (.invokevirtual 293, 3) := by decide +kernel
theorem dL_law_1028 : decode cL_law 1028 = .ok (.istore 13, 2) := by decide +kernel
theorem dL_law_1030 : decode cL_law 1030 = .ok (.aload_n 3, 1) := by decide +kernel
theorem dL_law_1031 : decode cL_law 1031 = .ok (.iload 15, 2) := by decide +kernel
theorem dL_law_1033 : decode cL_law 1033 = .ok (.invokestatic 278, 3) := by decide +kernel
theorem dL_law_1036 : decode cL_law 1036 = .ok (.iload 13, 2) := by decide +kernel
theorem dL_law_1038 : decode cL_law 1038 = .ok (.if_icmp .ne 7, 3) := by decide +kernel
theorem dL_law_1041 : decode cL_law 1041 = .ok (.iconst 1, 1) := by decide +kernel
theorem dL_law_1042 : decode cL_law 1042 = .ok (.goto 4, 3) := by decide +kernel
theorem dL_law_1045 : decode cL_law 1045 = .ok (.iconst 0, 1) := by decide +kernel
theorem dL_law_1046 : decode cL_law 1046 = .ok (.istore_n 1, 1) := by decide +kernel
theorem dL_law_1047 : decode cL_law 1047 = .ok (.goto 82, 3) := by decide +kernel
theorem dL_law_1050 : decode cL_law 1050 = .ok (.iload 17, 2) := by decide +kernel
theorem dL_law_1052 : decode cL_law 1052 = .ok (.ifCond .eq 17, 3) := by decide +kernel
theorem dL_law_1055 : decode cL_law 1055 = .ok (.aload 6, 2) := by decide +kernel
theorem dL_law_1057 : decode cL_law 1057 = .ok (.iload 15, 2) := by decide +kernel
theorem dL_law_1059 : decode cL_law 1059 = .ok (.invokevirtual 307, 3) := by decide +kernel
theorem dL_law_1062 : decode cL_law 1062 = .ok (.ifCond .ge 7, 3) := by decide +kernel
theorem dL_law_1065 : decode cL_law 1065 = .ok (.iconst 1, 1) := by decide +kernel
theorem dL_law_1066 : decode cL_law 1066 = .ok (.goto 4, 3) := by decide +kernel
theorem dL_law_1069 : decode cL_law 1069 = .ok (.iconst 0, 1) := by decide +kernel
theorem dL_law_1070 : decode cL_law 1070 = .ok (.istore 12, 2) := by decide +kernel
theorem dL_law_1072 : decode cL_law 1072 = .ok (.iload 17, 2) := by decide +kernel
theorem dL_law_1074 : decode cL_law 1074 = .ok (.ifCond .eq 7, 3) := by decide +kernel
theorem dL_law_1077 : decode cL_law 1077 = .ok (.ldc 88, 2) := by decide +kernel
theorem dL_law_1079 : decode cL_law 1079 = .ok (.istore 13, 2) := by decide +kernel
theorem dL_law_1081 : decode cL_law 1081 = .ok (.iload 12, 2) := by decide +kernel
theorem dL_law_1083 : decode cL_law 1083 = .ok (.ifCond .eq 29, 3) := by decide +kernel
theorem dL_law_1086 : decode cL_law 1086 = .ok (.aload 6, 2) := by decide +kernel
theorem dL_law_1088 : decode cL_law 1088 = .ok (.aload 6, 2) := by decide +kernel
theorem dL_law_1090 : decode cL_law 1090 = .ok (.getfield 187, 3) := by decide +kernel
theorem dL_law_1093 : decode cL_law 1093 = .ok (.iload 15, 2) := by decide +kernel
theorem dL_law_1095 : decode cL_law 1095 = .ok (.invokestatic 190, 3) := by decide +kernel
theorem dL_law_1098 : decode cL_law 1098 = .ok (.putfield 187, 3) := by decide +kernel
theorem dL_law_1101 : decode cL_law 1101 = .ok (.aload 6, 2) := by decide +kernel
theorem dL_law_1103 : decode cL_law 1103 = .ok (.aload 11, 2) := by decide +kernel
theorem dL_law_1105 : decode cL_law 1105 = .ok (.iload 15, 2) := by decide +kernel
theorem dL_law_1107 : decode cL_law 1107 = .ok (.invokevirtual 293, 3) := by decide +kernel
theorem dL_law_1110 : decode cL_law 1110 = .ok (.istore 13, 2) := by decide +kernel
theorem dL_law_1112 : decode cL_law 1112 = .ok (.aload_n 3, 1) := by decide +kernel
theorem dL_law_1113 : decode cL_law 1113 = .ok (.iload 15, 2) := by decide +kernel
theorem dL_law_1115 : decode cL_law 1115 = .ok (.invokestatic 310, 3) := by decide +kernel
theorem dL_law_1118 : decode cL_law 1118 = .ok (.iload 13, 2) := by decide +kernel
theorem dL_law_1120 : decode cL_law 1120 = .ok (.if_icmp .ne 7, 3) := by decide +kernel
theorem dL_law_1123 : decode cL_law 1123 = .ok (.iconst 1, 1) := by decide +kernel
theorem dL_law_1124 : decode cL_law 1124 = .ok (.goto 4, 3) := by decide +kernel
theorem dL_law_1127 : decode cL_law 1127 = .ok (.iconst 0, 1) := by decide +kernel
theorem dL_law_1128 : decode cL_law 1128 = .ok (.istore_n 1, 1) := by decide +kernel
theorem dL_law_1129 : decode cL_law 1129 = .ok (.iload 12, 2) := by decide +kernel
theorem dL_law_1131 : decode cL_law 1131 = .ok (.ifCond .eq 39, 3) := by decide +kernel
theorem dL_law_1134 : decode cL_law 1134 = .ok (.bipush 8, 2) := by decide +kernel
theorem dL_law_1136 : decode cL_law 1136 = .ok (.istore 20, 2) := by decide +kernel
theorem dL_law_1138 : decode cL_law 1138 = .ok (.iload 20, 2) := by decide +kernel
theorem dL_law_1140 : decode cL_law 1140 = .ok (.ifCond .le 21, 3) := by decide +kernel
theorem dL_law_1143 : decode cL_law 1143 = .ok (.aload 7, 2) := by decide +kernel
theorem dL_law_1145 : decode cL_law 1145 = .ok (.iload 20, 2) := by decide +kernel
theorem dL_law_1147 : decode cL_law 1147 = .ok (.aload 7, 2) := by decide +kernel
theorem dL_law_1149 : decode cL_law 1149 = .ok (.iload 20, 2) := by decide +kernel
theorem dL_law_1151 : decode cL_law 1151 = .ok (.iconst 1, 1) := by decide +kernel
theorem dL_law_1152 : decode cL_law 1152 = .ok (.isub, 1) := by decide +kernel
theorem dL_law_1153 : decode cL_law 1153 = .ok (.aaload, 1) := by decide +kernel
theorem dL_law_1154 : decode cL_law 1154 = .ok (.aastore, 1) := by decide +kernel
theorem dL_law_1155 : decode cL_law 1155 = .ok (.iinc 20 (-1), 3) := by decide +kernel
theorem dL_law_1158 : decode cL_law 1158 = .ok (.goto (-20), 3) := by decide +kernel
theorem dL_law_1161 : decode cL_law 1161 = .ok (.aload 7, 2) := by decide +kernel
theorem dL_law_1163 : decode cL_law 1163 = .ok (.iconst 0, 1) := by decide +kernel
theorem dL_law_1164 : decode cL_law 1164 = .ok (.aload 10, 2) := by decide +kernel
theorem dL_law_1166 : decode cL_law 1166 = .ok (.aastore, 1) := by decide +kernel
theorem dL_law_1167 : decode cL_law 1167 = .ok (.iinc 8 1, 3) := by decide +kernel
theorem dL_law_1170 : decode cL_law 1170 = .ok (.iload_n 1, 1) := by decide +kernel
theorem dL_law_1171 : decode cL_law 1171 = .ok (.ifCond .eq 16, 3) := by decide +kernel
theorem dL_law_1174 : decode cL_law 1174 = .ok (.aload_n 3, 1) := by decide +kernel
theorem dL_law_1175 : decode cL_law 1175 = .ok (.aload 6, 2) := by decide +kernel
theorem dL_law_1177 : decode cL_law 1177 = .ok (.invokestatic 268, 3) := by decide +kernel
theorem dL_law_1180 : decode cL_law 1180 = .ok (.ifCond .eq 7, 3) := by decide +kernel
theorem dL_law_1183 : decode cL_law 1183 = .ok (.iconst 1, 1) := by decide +kernel
theorem dL_law_1184 : decode cL_law 1184 = .ok (.goto 4, 3) := by decide +kernel
theorem dL_law_1187 : decode cL_law 1187 = .ok (.iconst 0, 1) := by decide +kernel
theorem dL_law_1188 : decode cL_law 1188 = .ok (.istore_n 1, 1) := by decide +kernel
theorem dL_law_1189 : decode cL_law 1189 = .ok (.iinc 9 1, 3) := by decide +kernel
theorem dL_law_1192 : decode cL_law 1192 = .ok (.goto (-1000), 3) := by decide +kernel
theorem dL_law_1195 : decode cL_law 1195 = .ok (.iconst 0, 1) := by decide +kernel
theorem dL_law_1196 : decode cL_law 1196 = .ok (.istore 9, 2) := by decide +kernel
theorem dL_law_1198 : decode cL_law 1198 = .ok (.iload 9, 2) := by decide +kernel
theorem dL_law_1200 : decode cL_law 1200 = .ok (.bipush 8, 2) := by decide +kernel
theorem dL_law_1202 : decode cL_law 1202 = .ok (.if_icmp .ge 45, 3) := by decide +kernel
theorem dL_law_1205 : decode cL_law 1205 = .ok (.iload 9, 2) := by decide +kernel
theorem dL_law_1207 : decode cL_law 1207 = .ok (.iload 8, 2) := by decide +kernel
theorem dL_law_1209 : decode cL_law 1209 = .ok (.if_icmp .ge 38, 3) := by decide +kernel
theorem dL_law_1212 : decode cL_law 1212 = .ok (.iload_n 1, 1) := by decide +kernel
theorem dL_law_1213 : decode cL_law 1213 = .ok (.ifCond .eq 34, 3) := by decide +kernel
theorem dL_law_1216 : decode cL_law 1216 = .ok (.aload_n 3, 1) := by decide +kernel
theorem dL_law_1217 : decode cL_law 1217 = .ok (.invokevirtual 275, 3) := by decide +kernel
theorem dL_law_1220 : decode cL_law 1220 = .ok (.ifCond .lt 19, 3) := by decide +kernel
theorem dL_law_1223 : decode cL_law 1223 = .ok (.aload_n 3, 1) := by decide +kernel
theorem dL_law_1224 : decode cL_law 1224 = .ok (.aload 7, 2) := by decide +kernel
theorem dL_law_1226 : decode cL_law 1226 = .ok (.iload 9, 2) := by decide +kernel
theorem dL_law_1228 : decode cL_law 1228 = .ok (.aaload, 1) := by decide +kernel
theorem dL_law_1229 : decode cL_law 1229 = .ok (.invokestatic 268, 3) := by decide +kernel
theorem dL_law_1232 : decode cL_law 1232 = .ok (.ifCond .eq 7, 3) := by decide +kernel
theorem dL_law_1235 : decode cL_law 1235 = .ok (.iconst 1, 1) := by decide +kernel
theorem dL_law_1236 : decode cL_law 1236 = .ok (.goto 4, 3) := by decide +kernel
theorem dL_law_1239 : decode cL_law 1239 = .ok (.iconst 0, 1) := by decide +kernel
theorem dL_law_1240 : decode cL_law 1240 = .ok (.istore_n 1, 1) := by decide +kernel
theorem dL_law_1241 : decode cL_law 1241 = .ok (.iinc 9 1, 3) := by decide +kernel
theorem dL_law_1244 : decode cL_law 1244 = .ok (.goto (-46), 3) := by decide +kernel
theorem dL_law_1247 : decode cL_law 1247 = .ok (.iload_n 1, 1) := by decide +kernel
theorem dL_law_1248 : decode cL_law 1248 = .ok (.ifCond .eq 61, 3) := by decide +kernel
theorem dL_law_1251 : decode cL_law 1251 = .ok (.aload_n 3, 1) := by decide +kernel
theorem dL_law_1252 : decode cL_law 1252 = .ok (.iconst 1, 1) := by decide +kernel
theorem dL_law_1253 : decode cL_law 1253 = .ok (.invokestatic 19, 3) := by decide +kernel
theorem dL_law_1256 : decode cL_law 1256 = .ok (.ldc 42, 2) := by decide +kernel
theorem dL_law_1258 : decode cL_law 1258 = .ok (.if_icmp .ne 51, 3) := by decide +kernel
theorem dL_law_1261 : decode cL_law 1261 = .ok (.aload_n 3, 1) := by decide +kernel
theorem dL_law_1262 : decode cL_law 1262 = .ok (.iconst (-1), 1) := by decide +kernel
theorem dL_law_1263 : decode cL_law 1263 = .ok (.iconst (-1), 1) := by decide +kernel
theorem dL_law_1264 : decode cL_law 1264 = .ok (.invokestatic 300, 3) := by decide +kernel
theorem dL_law_1267 : decode cL_law 1267 = .ok (.ldc 49, 2) := by decide +kernel
theorem dL_law_1269 : decode cL_law 1269 = .ok (.if_icmp .ne 40, 3) := by decide +kernel
theorem dL_law_1272 : decode cL_law 1272 = .ok (.aload_n 3, 1) := by decide +kernel
theorem dL_law_1273 : decode cL_law 1273 = .ok (.iconst 0, 1) := by decide +kernel
theorem dL_law_1274 : decode cL_law 1274 = .ok (.bipush 12, 2) := by decide +kernel
theorem dL_law_1276 : decode cL_law 1276 = .ok (.invokestatic 312, 3) := by decide +kernel
theorem dL_law_1279 : decode cL_law 1279 = .ok (.ldc 49, 2) := by decide +kernel
theorem dL_law_1281 : decode cL_law 1281 = .ok (.if_icmp .ne 28, 3) := by decide +kernel
theorem dL_law_1284 : decode cL_law 1284 = .ok (.aload_n 3, 1) := by decide +kernel
theorem dL_law_1285 : decode cL_law 1285 = .ok (.iconst (-1), 1) := by decide +kernel
theorem dL_law_1286 : decode cL_law 1286 = .ok (.invokestatic 314, 3) := by decide +kernel
theorem dL_law_1289 : decode cL_law 1289 = .ok (.ldc 49, 2) := by decide +kernel
theorem dL_law_1291 : decode cL_law 1291 = .ok (.if_icmp .ne 18, 3) := by decide +kernel
theorem dL_law_1294 : decode cL_law 1294 = .ok (.aload_n 3, 1) := by decide +kernel
theorem dL_law_1295 : decode cL_law 1295 = .ok (.bipush 12, 2) := by decide +kernel
theorem dL_law_1297 : decode cL_law 1297 = .ok (.invokestatic 316, 3) := by decide +kernel
theorem dL_law_1300 : decode cL_law 1300 = .ok (.ldc 49, 2) := by decide +kernel
theorem dL_law_1302 : decode cL_law 1302 = .ok (.if_icmp .ne 7, 3) := by decide +kernel
theorem dL_law_1305 : decode cL_law 1305 = .ok (.iconst 1, 1) := by decide +kernel
theorem dL_law_1306 : decode cL_law 1306 = .ok (.goto 4, 3) := by decide +kernel
theorem dL_law_1309 : decode cL_law 1309 = .ok (.iconst 0, 1) := by decide +kernel
theorem dL_law_1310 : decode cL_law 1310 = .ok (.istore_n 1, 1) := by decide +kernel
theorem dL_law_1311 : decode cL_law 1311 = .ok (.iinc 2 1, 3) := by decide +kernel
theorem dL_law_1314 : decode cL_law 1314 = .ok (.goto (-1310), 3) := by decide +kernel
theorem dL_law_1317 : decode cL_law 1317 = .ok (.iload_n 1, 1) := by decide +kernel
theorem dL_law_1318 : decode cL_law 1318 = .ok (.ireturn, 1) := by decide +kernel
