theorem dX0_init_0 : decode cX0_init 0 = .ok (.aload_n 0, 1) := by decide +kernel
theorem dX0_init_1 : decode cX0_init 1 = .ok (.invokespecial 3, 3) := by decide +kernel
theorem dX0_init_4 : decode cX0_init 4 = .ok (.aload_n 0, 1) := by decide +kernel
theorem dX0_init_5 : decode cX0_init 5 = .ok (.iconst 5, 1) := by decide +kernel
theorem dX0_init_6 : decode cX0_init 6 = .ok (.newarray .int, 2) := by decide +kernel
theorem dX0_init_8 : decode cX0_init 8 = .ok (.putfield 9, 3) := by decide +kernel
theorem dX0_init_11 : decode cX0_init 11 = .ok (.aload_n 0, 1) := by decide +kernel
theorem dX0_init_12 : decode cX0_init 12 = .ok (.iconst 5, 1) := by decide +kernel
theorem dX0_init_13 : decode cX0_init 13 = .ok (.newarray .int, 2) := by decide +kernel
theorem dX0_init_15 : decode cX0_init 15 = .ok (.putfield 15, 3) := by decide +kernel
theorem dX0_init_18 : decode cX0_init 18 = .ok (.aload_n 0, 1) := by decide +kernel
theorem dX0_init_19 : decode cX0_init 19 = .ok (.iconst 0, 1) := by decide +kernel
theorem dX0_init_20 : decode cX0_init 20 = .ok (.putfield 18, 3) := by decide +kernel
theorem dX0_init_23 : decode cX0_init 23 = .ok (.aload_n 0, 1) := by decide +kernel
theorem dX0_init_24 : decode cX0_init 24 = .ok (.ldc 22, 2) := by decide +kernel
theorem dX0_init_26 : decode cX0_init 26 = .ok (.putfield 23, 3) := by decide +kernel
theorem dX0_init_29 : decode cX0_init 29 = .ok (.aload_n 0, 1) := by decide +kernel
theorem dX0_init_30 : decode cX0_init 30 = .ok (.iconst 0, 1) := by decide +kernel
theorem dX0_init_31 : decode cX0_init 31 = .ok (.putfield 26, 3) := by decide +kernel
theorem dX0_init_34 : decode cX0_init 34 = .ok (.return_, 1) := by decide +kernel
theorem dX0_becomes_0 : decode cX0_becomes 0 = .ok (.aload_n 1, 1) := by decide +kernel
theorem dX0_becomes_1 : decode cX0_becomes 1 = .ok (.getfield 9, 3) := by decide +kernel
theorem dX0_becomes_4 : decode cX0_becomes 4 = .ok (.iconst 0, 1) := by decide +kernel
theorem dX0_becomes_5 : decode cX0_becomes 5 = .ok (.aload_n 0, 1) := by decide +kernel
theorem dX0_becomes_6 : decode cX0_becomes 6 = .ok (.getfield 9, 3) := by decide +kernel
theorem dX0_becomes_9 : decode cX0_becomes 9 = .ok (.iconst 0, 1) := by decide +kernel
theorem dX0_becomes_10 : decode cX0_becomes 10 = .ok (.iconst 5, 1) := by decide +kernel
theorem dX0_becomes_11 : decode cX0_becomes 11 = .ok (.invokestatic 29, 3) := by decide +kernel
theorem dX0_becomes_14 : decode cX0_becomes 14 = .ok (.aload_n 1, 1) := by decide +kernel
theorem dX0_becomes_15 : decode cX0_becomes 15 = .ok (.getfield 15, 3) := by decide +kernel
theorem dX0_becomes_18 : decode cX0_becomes 18 = .ok (.iconst 0, 1) := by decide +kernel
theorem dX0_becomes_19 : decode cX0_becomes 19 = .ok (.aload_n 0, 1) := by decide +kernel
theorem dX0_becomes_20 : decode cX0_becomes 20 = .ok (.getfield 15, 3) := by decide +kernel
theorem dX0_becomes_23 : decode cX0_becomes 23 = .ok (.iconst 0, 1) := by decide +kernel
theorem dX0_becomes_24 : decode cX0_becomes 24 = .ok (.iconst 5, 1) := by decide +kernel
theorem dX0_becomes_25 : decode cX0_becomes 25 = .ok (.invokestatic 29, 3) := by decide +kernel
theorem dX0_becomes_28 : decode cX0_becomes 28 = .ok (.aload_n 0, 1) := by decide +kernel
theorem dX0_becomes_29 : decode cX0_becomes 29 = .ok (.aload_n 1, 1) := by decide +kernel
theorem dX0_becomes_30 : decode cX0_becomes 30 = .ok (.getfield 18, 3) := by decide +kernel
theorem dX0_becomes_33 : decode cX0_becomes 33 = .ok (.putfield 18, 3) := by decide +kernel
theorem dX0_becomes_36 : decode cX0_becomes 36 = .ok (.aload_n 0, 1) := by decide +kernel
theorem dX0_becomes_37 : decode cX0_becomes 37 = .ok (.aload_n 1, 1) := by decide +kernel
theorem dX0_becomes_38 : decode cX0_becomes 38 = .ok (.getfield 23, 3) := by decide +kernel
theorem dX0_becomes_41 : decode cX0_becomes 41 = .ok (.putfield 23, 3) := by decide +kernel
theorem dX0_becomes_44 : decode cX0_becomes 44 = .ok (.aload_n 0, 1) := by decide +kernel
theorem dX0_becomes_45 : decode cX0_becomes 45 = .ok (.aload_n 1, 1) := by decide +kernel
theorem dX0_becomes_46 : decode cX0_becomes 46 = .ok (.getfield 26, 3) := by decide +kernel
theorem dX0_becomes_49 : decode cX0_becomes 49 = .ok (.putfield 26, 3) := by decide +kernel
theorem dX0_becomes_52 : decode cX0_becomes 52 = .ok (.return_, 1) := by decide +kernel
theorem dX0_takesHeir_0 : decode cX0_takesHeir 0 = .ok (.aload_n 0, 1) := by decide +kernel
theorem dX0_takesHeir_1 : decode cX0_takesHeir 1 = .ok (.getfield 18, 3) := by decide +kernel
theorem dX0_takesHeir_4 : decode cX0_takesHeir 4 = .ok (.iconst 5, 1) := by decide +kernel
theorem dX0_takesHeir_5 : decode cX0_takesHeir 5 = .ok (.if_icmp .lt 5, 3) := by decide +kernel
theorem dX0_takesHeir_8 : decode cX0_takesHeir 8 = .ok (.iconst 0, 1) := by decide +kernel
theorem dX0_takesHeir_9 : decode cX0_takesHeir 9 = .ok (.ireturn, 1) := by decide +kernel
theorem dX0_takesHeir_10 : decode cX0_takesHeir 10 = .ok (.aload_n 0, 1) := by decide +kernel
theorem dX0_takesHeir_11 : decode cX0_takesHeir 11 = .ok (.getfield 9, 3) := by decide +kernel
theorem dX0_takesHeir_14 : decode cX0_takesHeir 14 = .ok (.aload_n 0, 1) := by decide +kernel
theorem dX0_takesHeir_15 : decode cX0_takesHeir 15 = .ok (.getfield 18, 3) := by decide +kernel
theorem dX0_takesHeir_18 : decode cX0_takesHeir 18 = .ok (.iload_n 1, 1) := by decide +kernel
theorem dX0_takesHeir_19 : decode cX0_takesHeir 19 = .ok (.iastore, 1) := by decide +kernel
theorem dX0_takesHeir_20 : decode cX0_takesHeir 20 = .ok (.aload_n 0, 1) := by decide +kernel
theorem dX0_takesHeir_21 : decode cX0_takesHeir 21 = .ok (.getfield 15, 3) := by decide +kernel
theorem dX0_takesHeir_24 : decode cX0_takesHeir 24 = .ok (.aload_n 0, 1) := by decide +kernel
theorem dX0_takesHeir_25 : decode cX0_takesHeir 25 = .ok (.getfield 18, 3) := by decide +kernel
theorem dX0_takesHeir_28 : decode cX0_takesHeir 28 = .ok (.iload_n 2, 1) := by decide +kernel
theorem dX0_takesHeir_29 : decode cX0_takesHeir 29 = .ok (.iastore, 1) := by decide +kernel
theorem dX0_takesHeir_30 : decode cX0_takesHeir 30 = .ok (.aload_n 0, 1) := by decide +kernel
theorem dX0_takesHeir_31 : decode cX0_takesHeir 31 = .ok (.dup, 1) := by decide +kernel
theorem dX0_takesHeir_32 : decode cX0_takesHeir 32 = .ok (.getfield 18, 3) := by decide +kernel
theorem dX0_takesHeir_35 : decode cX0_takesHeir 35 = .ok (.iconst 1, 1) := by decide +kernel
theorem dX0_takesHeir_36 : decode cX0_takesHeir 36 = .ok (.iadd, 1) := by decide +kernel
theorem dX0_takesHeir_37 : decode cX0_takesHeir 37 = .ok (.putfield 18, 3) := by decide +kernel
theorem dX0_takesHeir_40 : decode cX0_takesHeir 40 = .ok (.iconst 1, 1) := by decide +kernel
theorem dX0_takesHeir_41 : decode cX0_takesHeir 41 = .ok (.ireturn, 1) := by decide +kernel
theorem dX0_takesBite_0 : decode cX0_takesBite 0 = .ok (.iload_n 1, 1) := by decide +kernel
theorem dX0_takesBite_1 : decode cX0_takesBite 1 = .ok (.iload_n 2, 1) := by decide +kernel
theorem dX0_takesBite_2 : decode cX0_takesBite 2 = .ok (.invokestatic 35, 3) := by decide +kernel
theorem dX0_takesBite_5 : decode cX0_takesBite 5 = .ok (.istore_n 3, 1) := by decide +kernel
theorem dX0_takesBite_6 : decode cX0_takesBite 6 = .ok (.iload_n 3, 1) := by decide +kernel
theorem dX0_takesBite_7 : decode cX0_takesBite 7 = .ok (.ifCond .eq 13, 3) := by decide +kernel
theorem dX0_takesBite_10 : decode cX0_takesBite 10 = .ok (.aload_n 0, 1) := by decide +kernel
theorem dX0_takesBite_11 : decode cX0_takesBite 11 = .ok (.getfield 23, 3) := by decide +kernel
theorem dX0_takesBite_14 : decode cX0_takesBite 14 = .ok (.iload_n 3, 1) := by decide +kernel
theorem dX0_takesBite_15 : decode cX0_takesBite 15 = .ok (.iand, 1) := by decide +kernel
theorem dX0_takesBite_16 : decode cX0_takesBite 16 = .ok (.iload_n 3, 1) := by decide +kernel
theorem dX0_takesBite_17 : decode cX0_takesBite 17 = .ok (.if_icmp .eq 5, 3) := by decide +kernel
theorem dX0_takesBite_20 : decode cX0_takesBite 20 = .ok (.iconst 0, 1) := by decide +kernel
theorem dX0_takesBite_21 : decode cX0_takesBite 21 = .ok (.ireturn, 1) := by decide +kernel
theorem dX0_takesBite_22 : decode cX0_takesBite 22 = .ok (.aload_n 0, 1) := by decide +kernel
theorem dX0_takesBite_23 : decode cX0_takesBite 23 = .ok (.dup, 1) := by decide +kernel
theorem dX0_takesBite_24 : decode cX0_takesBite 24 = .ok (.getfield 23, 3) := by decide +kernel
theorem dX0_takesBite_27 : decode cX0_takesBite 27 = .ok (.iload_n 3, 1) := by decide +kernel
theorem dX0_takesBite_28 : decode cX0_takesBite 28 = .ok (.iconst (-1), 1) := by decide +kernel
theorem dX0_takesBite_29 : decode cX0_takesBite 29 = .ok (.ixor, 1) := by decide +kernel
theorem dX0_takesBite_30 : decode cX0_takesBite 30 = .ok (.iand, 1) := by decide +kernel
theorem dX0_takesBite_31 : decode cX0_takesBite 31 = .ok (.putfield 23, 3) := by decide +kernel
theorem dX0_takesBite_34 : decode cX0_takesBite 34 = .ok (.aload_n 0, 1) := by decide +kernel
theorem dX0_takesBite_35 : decode cX0_takesBite 35 = .ok (.sipush 999, 3) := by decide +kernel
theorem dX0_takesBite_38 : decode cX0_takesBite 38 = .ok (.aload_n 0, 1) := by decide +kernel
theorem dX0_takesBite_39 : decode cX0_takesBite 39 = .ok (.getfield 26, 3) := by decide +kernel
theorem dX0_takesBite_42 : decode cX0_takesBite 42 = .ok (.iconst 1, 1) := by decide +kernel
theorem dX0_takesBite_43 : decode cX0_takesBite 43 = .ok (.iadd, 1) := by decide +kernel
theorem dX0_takesBite_44 : decode cX0_takesBite 44 = .ok (.invokestatic 41, 3) := by decide +kernel
theorem dX0_takesBite_47 : decode cX0_takesBite 47 = .ok (.putfield 26, 3) := by decide +kernel
theorem dX0_takesBite_50 : decode cX0_takesBite 50 = .ok (.iconst 1, 1) := by decide +kernel
theorem dX0_takesBite_51 : decode cX0_takesBite 51 = .ok (.ireturn, 1) := by decide +kernel
theorem dX0_mends_0 : decode cX0_mends 0 = .ok (.iload_n 1, 1) := by decide +kernel
theorem dX0_mends_1 : decode cX0_mends 1 = .ok (.invokestatic 46, 3) := by decide +kernel
theorem dX0_mends_4 : decode cX0_mends 4 = .ok (.ifCond .ne 5, 3) := by decide +kernel
theorem dX0_mends_7 : decode cX0_mends 7 = .ok (.iconst 0, 1) := by decide +kernel
theorem dX0_mends_8 : decode cX0_mends 8 = .ok (.ireturn, 1) := by decide +kernel
theorem dX0_mends_9 : decode cX0_mends 9 = .ok (.aload_n 0, 1) := by decide +kernel
theorem dX0_mends_10 : decode cX0_mends 10 = .ok (.dup, 1) := by decide +kernel
theorem dX0_mends_11 : decode cX0_mends 11 = .ok (.getfield 23, 3) := by decide +kernel
theorem dX0_mends_14 : decode cX0_mends 14 = .ok (.iconst 1, 1) := by decide +kernel
theorem dX0_mends_15 : decode cX0_mends 15 = .ok (.iload_n 1, 1) := by decide +kernel
theorem dX0_mends_16 : decode cX0_mends 16 = .ok (.ishl, 1) := by decide +kernel
theorem dX0_mends_17 : decode cX0_mends 17 = .ok (.ior, 1) := by decide +kernel
theorem dX0_mends_18 : decode cX0_mends 18 = .ok (.putfield 23, 3) := by decide +kernel
theorem dX0_mends_21 : decode cX0_mends 21 = .ok (.iconst 1, 1) := by decide +kernel
theorem dX0_mends_22 : decode cX0_mends 22 = .ok (.ireturn, 1) := by decide +kernel
theorem dX0_turnsBy_0 : decode cX0_turnsBy 0 = .ok (.iload_n 1, 1) := by decide +kernel
theorem dX0_turnsBy_1 : decode cX0_turnsBy 1 = .ok (.iconst 1, 1) := by decide +kernel
theorem dX0_turnsBy_2 : decode cX0_turnsBy 2 = .ok (.if_icmp .lt 8, 3) := by decide +kernel
theorem dX0_turnsBy_5 : decode cX0_turnsBy 5 = .ok (.iload_n 1, 1) := by decide +kernel
theorem dX0_turnsBy_6 : decode cX0_turnsBy 6 = .ok (.iconst 3, 1) := by decide +kernel
theorem dX0_turnsBy_7 : decode cX0_turnsBy 7 = .ok (.if_icmp .le 5, 3) := by decide +kernel
theorem dX0_turnsBy_10 : decode cX0_turnsBy 10 = .ok (.iconst 0, 1) := by decide +kernel
theorem dX0_turnsBy_11 : decode cX0_turnsBy 11 = .ok (.ireturn, 1) := by decide +kernel
theorem dX0_turnsBy_12 : decode cX0_turnsBy 12 = .ok (.iconst 0, 1) := by decide +kernel
theorem dX0_turnsBy_13 : decode cX0_turnsBy 13 = .ok (.istore_n 2, 1) := by decide +kernel
theorem dX0_turnsBy_14 : decode cX0_turnsBy 14 = .ok (.iload_n 2, 1) := by decide +kernel
theorem dX0_turnsBy_15 : decode cX0_turnsBy 15 = .ok (.iload_n 1, 1) := by decide +kernel
theorem dX0_turnsBy_16 : decode cX0_turnsBy 16 = .ok (.if_icmp .ge 20, 3) := by decide +kernel
theorem dX0_turnsBy_19 : decode cX0_turnsBy 19 = .ok (.aload_n 0, 1) := by decide +kernel
theorem dX0_turnsBy_20 : decode cX0_turnsBy 20 = .ok (.aload_n 0, 1) := by decide +kernel
theorem dX0_turnsBy_21 : decode cX0_turnsBy 21 = .ok (.getfield 23, 3) := by decide +kernel
theorem dX0_turnsBy_24 : decode cX0_turnsBy 24 = .ok (.invokestatic 50, 3) := by decide +kernel
theorem dX0_turnsBy_27 : decode cX0_turnsBy 27 = .ok (.putfield 23, 3) := by decide +kernel
theorem dX0_turnsBy_30 : decode cX0_turnsBy 30 = .ok (.iinc 2 1, 3) := by decide +kernel
theorem dX0_turnsBy_33 : decode cX0_turnsBy 33 = .ok (.goto (-19), 3) := by decide +kernel
theorem dX0_turnsBy_36 : decode cX0_turnsBy 36 = .ok (.iconst 1, 1) := by decide +kernel
theorem dX0_turnsBy_37 : decode cX0_turnsBy 37 = .ok (.ireturn, 1) := by decide +kernel
theorem dX0_renews_0 : decode cX0_renews 0 = .ok (.aload_n 0, 1) := by decide +kernel
theorem dX0_renews_1 : decode cX0_renews 1 = .ok (.ldc 22, 2) := by decide +kernel
theorem dX0_renews_3 : decode cX0_renews 3 = .ok (.putfield 23, 3) := by decide +kernel
theorem dX0_renews_6 : decode cX0_renews 6 = .ok (.aload_n 0, 1) := by decide +kernel
theorem dX0_renews_7 : decode cX0_renews 7 = .ok (.iconst 0, 1) := by decide +kernel
theorem dX0_renews_8 : decode cX0_renews 8 = .ok (.putfield 26, 3) := by decide +kernel
theorem dX0_renews_11 : decode cX0_renews 11 = .ok (.iconst 1, 1) := by decide +kernel
theorem dX0_renews_12 : decode cX0_renews 12 = .ok (.ireturn, 1) := by decide +kernel
theorem dX1_init_0 : decode cX1_init 0 = .ok (.aload_n 0, 1) := by decide +kernel
theorem dX1_init_1 : decode cX1_init 1 = .ok (.invokespecial 3, 3) := by decide +kernel
theorem dX1_init_4 : decode cX1_init 4 = .ok (.aload_n 0, 1) := by decide +kernel
theorem dX1_init_5 : decode cX1_init 5 = .ok (.bipush 64, 2) := by decide +kernel
theorem dX1_init_7 : decode cX1_init 7 = .ok (.newarray .int, 2) := by decide +kernel
theorem dX1_init_9 : decode cX1_init 9 = .ok (.putfield 11, 3) := by decide +kernel
theorem dX1_init_12 : decode cX1_init 12 = .ok (.aload_n 0, 1) := by decide +kernel
theorem dX1_init_13 : decode cX1_init 13 = .ok (.bipush 64, 2) := by decide +kernel
theorem dX1_init_15 : decode cX1_init 15 = .ok (.newarray .int, 2) := by decide +kernel
theorem dX1_init_17 : decode cX1_init 17 = .ok (.putfield 15, 3) := by decide +kernel
theorem dX1_init_20 : decode cX1_init 20 = .ok (.aload_n 0, 1) := by decide +kernel
theorem dX1_init_21 : decode cX1_init 21 = .ok (.bipush 64, 2) := by decide +kernel
theorem dX1_init_23 : decode cX1_init 23 = .ok (.newarray .int, 2) := by decide +kernel
theorem dX1_init_25 : decode cX1_init 25 = .ok (.putfield 18, 3) := by decide +kernel
theorem dX1_init_28 : decode cX1_init 28 = .ok (.aload_n 0, 1) := by decide +kernel
theorem dX1_init_29 : decode cX1_init 29 = .ok (.bipush 64, 2) := by decide +kernel
theorem dX1_init_31 : decode cX1_init 31 = .ok (.newarray .int, 2) := by decide +kernel
theorem dX1_init_33 : decode cX1_init 33 = .ok (.putfield 21, 3) := by decide +kernel
theorem dX1_init_36 : decode cX1_init 36 = .ok (.return_, 1) := by decide +kernel
theorem dX1_waysDone_0 : decode cX1_waysDone 0 = .ok (.aload_n 0, 1) := by decide +kernel
theorem dX1_waysDone_1 : decode cX1_waysDone 1 = .ok (.getfield 11, 3) := by decide +kernel
theorem dX1_waysDone_4 : decode cX1_waysDone 4 = .ok (.iconst 0, 1) := by decide +kernel
theorem dX1_waysDone_5 : decode cX1_waysDone 5 = .ok (.iaload, 1) := by decide +kernel
theorem dX1_waysDone_6 : decode cX1_waysDone 6 = .ok (.ireturn, 1) := by decide +kernel
theorem dX1_fewDone_0 : decode cX1_fewDone 0 = .ok (.aload_n 0, 1) := by decide +kernel
theorem dX1_fewDone_1 : decode cX1_fewDone 1 = .ok (.getfield 15, 3) := by decide +kernel
theorem dX1_fewDone_4 : decode cX1_fewDone 4 = .ok (.iconst 0, 1) := by decide +kernel
theorem dX1_fewDone_5 : decode cX1_fewDone 5 = .ok (.iaload, 1) := by decide +kernel
theorem dX1_fewDone_6 : decode cX1_fewDone 6 = .ok (.ireturn, 1) := by decide +kernel
theorem dX1_covers_0 : decode cX1_covers 0 = .ok (.aload_n 0, 1) := by decide +kernel
theorem dX1_covers_1 : decode cX1_covers 1 = .ok (.invokevirtual 24, 3) := by decide +kernel
theorem dX1_covers_4 : decode cX1_covers 4 = .ok (.aload_n 0, 1) := by decide +kernel
theorem dX1_covers_5 : decode cX1_covers 5 = .ok (.iconst 0, 1) := by decide +kernel
theorem dX1_covers_6 : decode cX1_covers 6 = .ok (.iconst 1, 1) := by decide +kernel
theorem dX1_covers_7 : decode cX1_covers 7 = .ok (.iconst 0, 1) := by decide +kernel
theorem dX1_covers_8 : decode cX1_covers 8 = .ok (.invokevirtual 27, 3) := by decide +kernel
theorem dX1_covers_11 : decode cX1_covers 11 = .ok (.iconst 0, 1) := by decide +kernel
theorem dX1_covers_12 : decode cX1_covers 12 = .ok (.istore_n 2, 1) := by decide +kernel
theorem dX1_covers_13 : decode cX1_covers 13 = .ok (.iload_n 2, 1) := by decide +kernel
theorem dX1_covers_14 : decode cX1_covers 14 = .ok (.bipush 25, 2) := by decide +kernel
theorem dX1_covers_16 : decode cX1_covers 16 = .ok (.if_icmp .ge 46, 3) := by decide +kernel
theorem dX1_covers_19 : decode cX1_covers 19 = .ok (.aload_n 0, 1) := by decide +kernel
theorem dX1_covers_20 : decode cX1_covers 20 = .ok (.invokevirtual 31, 3) := by decide +kernel
theorem dX1_covers_23 : decode cX1_covers 23 = .ok (.iconst 0, 1) := by decide +kernel
theorem dX1_covers_24 : decode cX1_covers 24 = .ok (.istore_n 3, 1) := by decide +kernel
theorem dX1_covers_25 : decode cX1_covers 25 = .ok (.iload_n 3, 1) := by decide +kernel
theorem dX1_covers_26 : decode cX1_covers 26 = .ok (.bipush 64, 2) := by decide +kernel
theorem dX1_covers_28 : decode cX1_covers 28 = .ok (.if_icmp .ge 28, 3) := by decide +kernel
theorem dX1_covers_31 : decode cX1_covers 31 = .ok (.aload_n 0, 1) := by decide +kernel
theorem dX1_covers_32 : decode cX1_covers 32 = .ok (.getfield 15, 3) := by decide +kernel
theorem dX1_covers_35 : decode cX1_covers 35 = .ok (.iload_n 3, 1) := by decide +kernel
theorem dX1_covers_36 : decode cX1_covers 36 = .ok (.iaload, 1) := by decide +kernel
theorem dX1_covers_37 : decode cX1_covers 37 = .ok (.sipush 1000, 3) := by decide +kernel
theorem dX1_covers_40 : decode cX1_covers 40 = .ok (.if_icmp .ge 10, 3) := by decide +kernel
theorem dX1_covers_43 : decode cX1_covers 43 = .ok (.aload_n 0, 1) := by decide +kernel
theorem dX1_covers_44 : decode cX1_covers 44 = .ok (.iload_n 3, 1) := by decide +kernel
theorem dX1_covers_45 : decode cX1_covers 45 = .ok (.iload_n 2, 1) := by decide +kernel
theorem dX1_covers_46 : decode cX1_covers 46 = .ok (.iload_n 1, 1) := by decide +kernel
theorem dX1_covers_47 : decode cX1_covers 47 = .ok (.invokevirtual 34, 3) := by decide +kernel
theorem dX1_covers_50 : decode cX1_covers 50 = .ok (.iinc 3 1, 3) := by decide +kernel
theorem dX1_covers_53 : decode cX1_covers 53 = .ok (.goto (-28), 3) := by decide +kernel
theorem dX1_covers_56 : decode cX1_covers 56 = .ok (.iinc 2 1, 3) := by decide +kernel
theorem dX1_covers_59 : decode cX1_covers 59 = .ok (.goto (-46), 3) := by decide +kernel
theorem dX1_covers_62 : decode cX1_covers 62 = .ok (.aload_n 0, 1) := by decide +kernel
theorem dX1_covers_63 : decode cX1_covers 63 = .ok (.invokevirtual 31, 3) := by decide +kernel
theorem dX1_covers_66 : decode cX1_covers 66 = .ok (.return_, 1) := by decide +kernel
theorem dX1_goesOn_0 : decode cX1_goesOn 0 = .ok (.iload_n 1, 1) := by decide +kernel
theorem dX1_goesOn_1 : decode cX1_goesOn 1 = .ok (.iconst 1, 1) := by decide +kernel
theorem dX1_goesOn_2 : decode cX1_goesOn 2 = .ok (.iand, 1) := by decide +kernel
theorem dX1_goesOn_3 : decode cX1_goesOn 3 = .ok (.ifCond .ne 11, 3) := by decide +kernel
theorem dX1_goesOn_6 : decode cX1_goesOn 6 = .ok (.iload_n 3, 1) := by decide +kernel
theorem dX1_goesOn_7 : decode cX1_goesOn 7 = .ok (.iload_n 2, 1) := by decide +kernel
theorem dX1_goesOn_8 : decode cX1_goesOn 8 = .ok (.ishr, 1) := by decide +kernel
theorem dX1_goesOn_9 : decode cX1_goesOn 9 = .ok (.iconst 1, 1) := by decide +kernel
theorem dX1_goesOn_10 : decode cX1_goesOn 10 = .ok (.iand, 1) := by decide +kernel
theorem dX1_goesOn_11 : decode cX1_goesOn 11 = .ok (.ifCond .eq 23, 3) := by decide +kernel
theorem dX1_goesOn_14 : decode cX1_goesOn 14 = .ok (.aload_n 0, 1) := by decide +kernel
theorem dX1_goesOn_15 : decode cX1_goesOn 15 = .ok (.iload_n 1, 1) := by decide +kernel
theorem dX1_goesOn_16 : decode cX1_goesOn 16 = .ok (.iconst 1, 1) := by decide +kernel
theorem dX1_goesOn_17 : decode cX1_goesOn 17 = .ok (.ishr, 1) := by decide +kernel
theorem dX1_goesOn_18 : decode cX1_goesOn 18 = .ok (.aload_n 0, 1) := by decide +kernel
theorem dX1_goesOn_19 : decode cX1_goesOn 19 = .ok (.getfield 11, 3) := by decide +kernel
theorem dX1_goesOn_22 : decode cX1_goesOn 22 = .ok (.iload_n 1, 1) := by decide +kernel
theorem dX1_goesOn_23 : decode cX1_goesOn 23 = .ok (.iaload, 1) := by decide +kernel
theorem dX1_goesOn_24 : decode cX1_goesOn 24 = .ok (.aload_n 0, 1) := by decide +kernel
theorem dX1_goesOn_25 : decode cX1_goesOn 25 = .ok (.getfield 15, 3) := by decide +kernel
theorem dX1_goesOn_28 : decode cX1_goesOn 28 = .ok (.iload_n 1, 1) := by decide +kernel
theorem dX1_goesOn_29 : decode cX1_goesOn 29 = .ok (.iaload, 1) := by decide +kernel
theorem dX1_goesOn_30 : decode cX1_goesOn 30 = .ok (.invokevirtual 27, 3) := by decide +kernel
theorem dX1_goesOn_33 : decode cX1_goesOn 33 = .ok (.return_, 1) := by decide +kernel
theorem dX1_goesOn_34 : decode cX1_goesOn 34 = .ok (.iconst 0, 1) := by decide +kernel
theorem dX1_goesOn_35 : decode cX1_goesOn 35 = .ok (.istore 4, 2) := by decide +kernel
theorem dX1_goesOn_37 : decode cX1_goesOn 37 = .ok (.iload 4, 2) := by decide +kernel
theorem dX1_goesOn_39 : decode cX1_goesOn 39 = .ok (.iconst 4, 1) := by decide +kernel
theorem dX1_goesOn_40 : decode cX1_goesOn 40 = .ok (.if_icmp .ge 69, 3) := by decide +kernel
theorem dX1_goesOn_43 : decode cX1_goesOn 43 = .ok (.iload 4, 2) := by decide +kernel
theorem dX1_goesOn_45 : decode cX1_goesOn 45 = .ok (.iload_n 2, 1) := by decide +kernel
theorem dX1_goesOn_46 : decode cX1_goesOn 46 = .ok (.invokestatic 37, 3) := by decide +kernel
theorem dX1_goesOn_49 : decode cX1_goesOn 49 = .ok (.istore 5, 2) := by decide +kernel
theorem dX1_goesOn_51 : decode cX1_goesOn 51 = .ok (.iload 5, 2) := by decide +kernel
theorem dX1_goesOn_53 : decode cX1_goesOn 53 = .ok (.iload_n 2, 1) := by decide +kernel
theorem dX1_goesOn_54 : decode cX1_goesOn 54 = .ok (.ishr, 1) := by decide +kernel
theorem dX1_goesOn_55 : decode cX1_goesOn 55 = .ok (.istore 6, 2) := by decide +kernel
theorem dX1_goesOn_57 : decode cX1_goesOn 57 = .ok (.iload 5, 2) := by decide +kernel
theorem dX1_goesOn_59 : decode cX1_goesOn 59 = .ok (.ifCond .eq 44, 3) := by decide +kernel
theorem dX1_goesOn_62 : decode cX1_goesOn 62 = .ok (.iload 5, 2) := by decide +kernel
theorem dX1_goesOn_64 : decode cX1_goesOn 64 = .ok (.iload_n 3, 1) := by decide +kernel
theorem dX1_goesOn_65 : decode cX1_goesOn 65 = .ok (.iand, 1) := by decide +kernel
theorem dX1_goesOn_66 : decode cX1_goesOn 66 = .ok (.ifCond .ne 37, 3) := by decide +kernel
theorem dX1_goesOn_69 : decode cX1_goesOn 69 = .ok (.iload 6, 2) := by decide +kernel
theorem dX1_goesOn_71 : decode cX1_goesOn 71 = .ok (.iload_n 1, 1) := by decide +kernel
theorem dX1_goesOn_72 : decode cX1_goesOn 72 = .ok (.iand, 1) := by decide +kernel
theorem dX1_goesOn_73 : decode cX1_goesOn 73 = .ok (.ifCond .eq 6, 3) := by decide +kernel
theorem dX1_goesOn_76 : decode cX1_goesOn 76 = .ok (.goto 27, 3) := by decide +kernel
theorem dX1_goesOn_79 : decode cX1_goesOn 79 = .ok (.aload_n 0, 1) := by decide +kernel
theorem dX1_goesOn_80 : decode cX1_goesOn 80 = .ok (.iload_n 1, 1) := by decide +kernel
theorem dX1_goesOn_81 : decode cX1_goesOn 81 = .ok (.iload 6, 2) := by decide +kernel
theorem dX1_goesOn_83 : decode cX1_goesOn 83 = .ok (.ior, 1) := by decide +kernel
theorem dX1_goesOn_84 : decode cX1_goesOn 84 = .ok (.iconst 1, 1) := by decide +kernel
theorem dX1_goesOn_85 : decode cX1_goesOn 85 = .ok (.ishr, 1) := by decide +kernel
theorem dX1_goesOn_86 : decode cX1_goesOn 86 = .ok (.aload_n 0, 1) := by decide +kernel
theorem dX1_goesOn_87 : decode cX1_goesOn 87 = .ok (.getfield 11, 3) := by decide +kernel
theorem dX1_goesOn_90 : decode cX1_goesOn 90 = .ok (.iload_n 1, 1) := by decide +kernel
theorem dX1_goesOn_91 : decode cX1_goesOn 91 = .ok (.iaload, 1) := by decide +kernel
theorem dX1_goesOn_92 : decode cX1_goesOn 92 = .ok (.aload_n 0, 1) := by decide +kernel
theorem dX1_goesOn_93 : decode cX1_goesOn 93 = .ok (.getfield 15, 3) := by decide +kernel
theorem dX1_goesOn_96 : decode cX1_goesOn 96 = .ok (.iload_n 1, 1) := by decide +kernel
theorem dX1_goesOn_97 : decode cX1_goesOn 97 = .ok (.iaload, 1) := by decide +kernel
theorem dX1_goesOn_98 : decode cX1_goesOn 98 = .ok (.iconst 1, 1) := by decide +kernel
theorem dX1_goesOn_99 : decode cX1_goesOn 99 = .ok (.iadd, 1) := by decide +kernel
theorem dX1_goesOn_100 : decode cX1_goesOn 100 = .ok (.invokevirtual 27, 3) := by decide +kernel
theorem dX1_goesOn_103 : decode cX1_goesOn 103 = .ok (.iinc 4 1, 3) := by decide +kernel
theorem dX1_goesOn_106 : decode cX1_goesOn 106 = .ok (.goto (-69), 3) := by decide +kernel
theorem dX1_goesOn_109 : decode cX1_goesOn 109 = .ok (.return_, 1) := by decide +kernel
theorem dX1_comesTo_0 : decode cX1_comesTo 0 = .ok (.iload_n 1, 1) := by decide +kernel
theorem dX1_comesTo_1 : decode cX1_comesTo 1 = .ok (.ifCond .lt 9, 3) := by decide +kernel
theorem dX1_comesTo_4 : decode cX1_comesTo 4 = .ok (.iload_n 1, 1) := by decide +kernel
theorem dX1_comesTo_5 : decode cX1_comesTo 5 = .ok (.bipush 64, 2) := by decide +kernel
theorem dX1_comesTo_7 : decode cX1_comesTo 7 = .ok (.if_icmp .lt 4, 3) := by decide +kernel
theorem dX1_comesTo_10 : decode cX1_comesTo 10 = .ok (.return_, 1) := by decide +kernel
theorem dX1_comesTo_11 : decode cX1_comesTo 11 = .ok (.aload_n 0, 1) := by decide +kernel
theorem dX1_comesTo_12 : decode cX1_comesTo 12 = .ok (.getfield 18, 3) := by decide +kernel
theorem dX1_comesTo_15 : decode cX1_comesTo 15 = .ok (.iload_n 1, 1) := by decide +kernel
theorem dX1_comesTo_16 : decode cX1_comesTo 16 = .ok (.aload_n 0, 1) := by decide +kernel
theorem dX1_comesTo_17 : decode cX1_comesTo 17 = .ok (.getfield 18, 3) := by decide +kernel
theorem dX1_comesTo_20 : decode cX1_comesTo 20 = .ok (.iload_n 1, 1) := by decide +kernel
theorem dX1_comesTo_21 : decode cX1_comesTo 21 = .ok (.iaload, 1) := by decide +kernel
theorem dX1_comesTo_22 : decode cX1_comesTo 22 = .ok (.iload_n 2, 1) := by decide +kernel
theorem dX1_comesTo_23 : decode cX1_comesTo 23 = .ok (.iadd, 1) := by decide +kernel
theorem dX1_comesTo_24 : decode cX1_comesTo 24 = .ok (.ldc 43, 2) := by decide +kernel
theorem dX1_comesTo_26 : decode cX1_comesTo 26 = .ok (.irem, 1) := by decide +kernel
theorem dX1_comesTo_27 : decode cX1_comesTo 27 = .ok (.iastore, 1) := by decide +kernel
theorem dX1_comesTo_28 : decode cX1_comesTo 28 = .ok (.aload_n 0, 1) := by decide +kernel
theorem dX1_comesTo_29 : decode cX1_comesTo 29 = .ok (.getfield 21, 3) := by decide +kernel
theorem dX1_comesTo_32 : decode cX1_comesTo 32 = .ok (.iload_n 1, 1) := by decide +kernel
theorem dX1_comesTo_33 : decode cX1_comesTo 33 = .ok (.aload_n 0, 1) := by decide +kernel
theorem dX1_comesTo_34 : decode cX1_comesTo 34 = .ok (.getfield 21, 3) := by decide +kernel
theorem dX1_comesTo_37 : decode cX1_comesTo 37 = .ok (.iload_n 1, 1) := by decide +kernel
theorem dX1_comesTo_38 : decode cX1_comesTo 38 = .ok (.iaload, 1) := by decide +kernel
theorem dX1_comesTo_39 : decode cX1_comesTo 39 = .ok (.iload_n 3, 1) := by decide +kernel
theorem dX1_comesTo_40 : decode cX1_comesTo 40 = .ok (.invokestatic 44, 3) := by decide +kernel
theorem dX1_comesTo_43 : decode cX1_comesTo 43 = .ok (.iastore, 1) := by decide +kernel
theorem dX1_comesTo_44 : decode cX1_comesTo 44 = .ok (.return_, 1) := by decide +kernel
theorem dX1_steps_0 : decode cX1_steps 0 = .ok (.aload_n 0, 1) := by decide +kernel
theorem dX1_steps_1 : decode cX1_steps 1 = .ok (.getfield 11, 3) := by decide +kernel
theorem dX1_steps_4 : decode cX1_steps 4 = .ok (.astore_n 1, 1) := by decide +kernel
theorem dX1_steps_5 : decode cX1_steps 5 = .ok (.aload_n 0, 1) := by decide +kernel
theorem dX1_steps_6 : decode cX1_steps 6 = .ok (.getfield 15, 3) := by decide +kernel
theorem dX1_steps_9 : decode cX1_steps 9 = .ok (.astore_n 2, 1) := by decide +kernel
theorem dX1_steps_10 : decode cX1_steps 10 = .ok (.aload_n 0, 1) := by decide +kernel
theorem dX1_steps_11 : decode cX1_steps 11 = .ok (.aload_n 0, 1) := by decide +kernel
theorem dX1_steps_12 : decode cX1_steps 12 = .ok (.getfield 18, 3) := by decide +kernel
theorem dX1_steps_15 : decode cX1_steps 15 = .ok (.putfield 11, 3) := by decide +kernel
theorem dX1_steps_18 : decode cX1_steps 18 = .ok (.aload_n 0, 1) := by decide +kernel
theorem dX1_steps_19 : decode cX1_steps 19 = .ok (.aload_n 0, 1) := by decide +kernel
theorem dX1_steps_20 : decode cX1_steps 20 = .ok (.getfield 21, 3) := by decide +kernel
theorem dX1_steps_23 : decode cX1_steps 23 = .ok (.putfield 15, 3) := by decide +kernel
theorem dX1_steps_26 : decode cX1_steps 26 = .ok (.aload_n 0, 1) := by decide +kernel
theorem dX1_steps_27 : decode cX1_steps 27 = .ok (.aload_n 1, 1) := by decide +kernel
theorem dX1_steps_28 : decode cX1_steps 28 = .ok (.putfield 18, 3) := by decide +kernel
theorem dX1_steps_31 : decode cX1_steps 31 = .ok (.aload_n 0, 1) := by decide +kernel
theorem dX1_steps_32 : decode cX1_steps 32 = .ok (.aload_n 2, 1) := by decide +kernel
theorem dX1_steps_33 : decode cX1_steps 33 = .ok (.putfield 21, 3) := by decide +kernel
theorem dX1_steps_36 : decode cX1_steps 36 = .ok (.aload_n 0, 1) := by decide +kernel
theorem dX1_steps_37 : decode cX1_steps 37 = .ok (.invokevirtual 24, 3) := by decide +kernel
theorem dX1_steps_40 : decode cX1_steps 40 = .ok (.return_, 1) := by decide +kernel
theorem dX1_empties_0 : decode cX1_empties 0 = .ok (.iconst 0, 1) := by decide +kernel
theorem dX1_empties_1 : decode cX1_empties 1 = .ok (.istore_n 1, 1) := by decide +kernel
theorem dX1_empties_2 : decode cX1_empties 2 = .ok (.iload_n 1, 1) := by decide +kernel
theorem dX1_empties_3 : decode cX1_empties 3 = .ok (.bipush 64, 2) := by decide +kernel
theorem dX1_empties_5 : decode cX1_empties 5 = .ok (.if_icmp .ge 25, 3) := by decide +kernel
theorem dX1_empties_8 : decode cX1_empties 8 = .ok (.aload_n 0, 1) := by decide +kernel
theorem dX1_empties_9 : decode cX1_empties 9 = .ok (.getfield 18, 3) := by decide +kernel
theorem dX1_empties_12 : decode cX1_empties 12 = .ok (.iload_n 1, 1) := by decide +kernel
theorem dX1_empties_13 : decode cX1_empties 13 = .ok (.iconst 0, 1) := by decide +kernel
theorem dX1_empties_14 : decode cX1_empties 14 = .ok (.iastore, 1) := by decide +kernel
theorem dX1_empties_15 : decode cX1_empties 15 = .ok (.aload_n 0, 1) := by decide +kernel
theorem dX1_empties_16 : decode cX1_empties 16 = .ok (.getfield 21, 3) := by decide +kernel
theorem dX1_empties_19 : decode cX1_empties 19 = .ok (.iload_n 1, 1) := by decide +kernel
theorem dX1_empties_20 : decode cX1_empties 20 = .ok (.sipush 1000, 3) := by decide +kernel
theorem dX1_empties_23 : decode cX1_empties 23 = .ok (.iastore, 1) := by decide +kernel
theorem dX1_empties_24 : decode cX1_empties 24 = .ok (.iinc 1 1, 3) := by decide +kernel
theorem dX1_empties_27 : decode cX1_empties 27 = .ok (.goto (-25), 3) := by decide +kernel
theorem dX1_empties_30 : decode cX1_empties 30 = .ok (.return_, 1) := by decide +kernel
theorem dX2_cellsOf_0 : decode cX2_cellsOf 0 = .ok (.iload_n 0, 1) := by decide +kernel
theorem dX2_cellsOf_1 : decode cX2_cellsOf 1 = .ok (.ifCond .lt 15, 3) := by decide +kernel
theorem dX2_cellsOf_4 : decode cX2_cellsOf 4 = .ok (.iload_n 0, 1) := by decide +kernel
theorem dX2_cellsOf_5 : decode cX2_cellsOf 5 = .ok (.iconst 4, 1) := by decide +kernel
theorem dX2_cellsOf_6 : decode cX2_cellsOf 6 = .ok (.if_icmp .ge 10, 3) := by decide +kernel
theorem dX2_cellsOf_9 : decode cX2_cellsOf 9 = .ok (.iload_n 1, 1) := by decide +kernel
theorem dX2_cellsOf_10 : decode cX2_cellsOf 10 = .ok (.invokestatic 9, 3) := by decide +kernel
theorem dX2_cellsOf_13 : decode cX2_cellsOf 13 = .ok (.ifCond .ne 5, 3) := by decide +kernel
theorem dX2_cellsOf_16 : decode cX2_cellsOf 16 = .ok (.iconst 0, 1) := by decide +kernel
theorem dX2_cellsOf_17 : decode cX2_cellsOf 17 = .ok (.ireturn, 1) := by decide +kernel
theorem dX2_cellsOf_18 : decode cX2_cellsOf 18 = .ok (.iload_n 0, 1) := by decide +kernel
theorem dX2_cellsOf_19 : decode cX2_cellsOf 19 = .ok (.iconst 2, 1) := by decide +kernel
theorem dX2_cellsOf_20 : decode cX2_cellsOf 20 = .ok (.irem, 1) := by decide +kernel
theorem dX2_cellsOf_21 : decode cX2_cellsOf 21 = .ok (.iconst 1, 1) := by decide +kernel
theorem dX2_cellsOf_22 : decode cX2_cellsOf 22 = .ok (.if_icmp .ne 7, 3) := by decide +kernel
theorem dX2_cellsOf_25 : decode cX2_cellsOf 25 = .ok (.iconst 1, 1) := by decide +kernel
theorem dX2_cellsOf_26 : decode cX2_cellsOf 26 = .ok (.goto 4, 3) := by decide +kernel
theorem dX2_cellsOf_29 : decode cX2_cellsOf 29 = .ok (.iconst 0, 1) := by decide +kernel
theorem dX2_cellsOf_30 : decode cX2_cellsOf 30 = .ok (.istore_n 2, 1) := by decide +kernel
theorem dX2_cellsOf_31 : decode cX2_cellsOf 31 = .ok (.iload_n 0, 1) := by decide +kernel
theorem dX2_cellsOf_32 : decode cX2_cellsOf 32 = .ok (.iconst 2, 1) := by decide +kernel
theorem dX2_cellsOf_33 : decode cX2_cellsOf 33 = .ok (.if_icmp .lt 7, 3) := by decide +kernel
theorem dX2_cellsOf_36 : decode cX2_cellsOf 36 = .ok (.iconst 1, 1) := by decide +kernel
theorem dX2_cellsOf_37 : decode cX2_cellsOf 37 = .ok (.goto 4, 3) := by decide +kernel
theorem dX2_cellsOf_40 : decode cX2_cellsOf 40 = .ok (.iconst 0, 1) := by decide +kernel
theorem dX2_cellsOf_41 : decode cX2_cellsOf 41 = .ok (.istore_n 3, 1) := by decide +kernel
theorem dX2_cellsOf_42 : decode cX2_cellsOf 42 = .ok (.iload_n 2, 1) := by decide +kernel
theorem dX2_cellsOf_43 : decode cX2_cellsOf 43 = .ok (.ifCond .eq 12, 3) := by decide +kernel
theorem dX2_cellsOf_46 : decode cX2_cellsOf 46 = .ok (.iload_n 1, 1) := by decide +kernel
theorem dX2_cellsOf_47 : decode cX2_cellsOf 47 = .ok (.iconst 5, 1) := by decide +kernel
theorem dX2_cellsOf_48 : decode cX2_cellsOf 48 = .ok (.irem, 1) := by decide +kernel
theorem dX2_cellsOf_49 : decode cX2_cellsOf 49 = .ok (.iconst 4, 1) := by decide +kernel
theorem dX2_cellsOf_50 : decode cX2_cellsOf 50 = .ok (.if_icmp .ne 5, 3) := by decide +kernel
theorem dX2_cellsOf_53 : decode cX2_cellsOf 53 = .ok (.iconst 0, 1) := by decide +kernel
theorem dX2_cellsOf_54 : decode cX2_cellsOf 54 = .ok (.ireturn, 1) := by decide +kernel
theorem dX2_cellsOf_55 : decode cX2_cellsOf 55 = .ok (.iload_n 3, 1) := by decide +kernel
theorem dX2_cellsOf_56 : decode cX2_cellsOf 56 = .ok (.ifCond .eq 12, 3) := by decide +kernel
theorem dX2_cellsOf_59 : decode cX2_cellsOf 59 = .ok (.iload_n 1, 1) := by decide +kernel
theorem dX2_cellsOf_60 : decode cX2_cellsOf 60 = .ok (.iconst 5, 1) := by decide +kernel
theorem dX2_cellsOf_61 : decode cX2_cellsOf 61 = .ok (.idiv, 1) := by decide +kernel
theorem dX2_cellsOf_62 : decode cX2_cellsOf 62 = .ok (.iconst 4, 1) := by decide +kernel
theorem dX2_cellsOf_63 : decode cX2_cellsOf 63 = .ok (.if_icmp .ne 5, 3) := by decide +kernel
theorem dX2_cellsOf_66 : decode cX2_cellsOf 66 = .ok (.iconst 0, 1) := by decide +kernel
theorem dX2_cellsOf_67 : decode cX2_cellsOf 67 = .ok (.ireturn, 1) := by decide +kernel
theorem dX2_cellsOf_68 : decode cX2_cellsOf 68 = .ok (.iconst 1, 1) := by decide +kernel
theorem dX2_cellsOf_69 : decode cX2_cellsOf 69 = .ok (.istore 4, 2) := by decide +kernel
theorem dX2_cellsOf_71 : decode cX2_cellsOf 71 = .ok (.iload_n 2, 1) := by decide +kernel
theorem dX2_cellsOf_72 : decode cX2_cellsOf 72 = .ok (.ifCond .eq 12, 3) := by decide +kernel
theorem dX2_cellsOf_75 : decode cX2_cellsOf 75 = .ok (.iload 4, 2) := by decide +kernel
theorem dX2_cellsOf_77 : decode cX2_cellsOf 77 = .ok (.iload 4, 2) := by decide +kernel
theorem dX2_cellsOf_79 : decode cX2_cellsOf 79 = .ok (.iconst 1, 1) := by decide +kernel
theorem dX2_cellsOf_80 : decode cX2_cellsOf 80 = .ok (.ishl, 1) := by decide +kernel
theorem dX2_cellsOf_81 : decode cX2_cellsOf 81 = .ok (.ior, 1) := by decide +kernel
theorem dX2_cellsOf_82 : decode cX2_cellsOf 82 = .ok (.istore 4, 2) := by decide +kernel
theorem dX2_cellsOf_84 : decode cX2_cellsOf 84 = .ok (.iload_n 3, 1) := by decide +kernel
theorem dX2_cellsOf_85 : decode cX2_cellsOf 85 = .ok (.ifCond .eq 12, 3) := by decide +kernel
theorem dX2_cellsOf_88 : decode cX2_cellsOf 88 = .ok (.iload 4, 2) := by decide +kernel
theorem dX2_cellsOf_90 : decode cX2_cellsOf 90 = .ok (.iload 4, 2) := by decide +kernel
theorem dX2_cellsOf_92 : decode cX2_cellsOf 92 = .ok (.iconst 5, 1) := by decide +kernel
theorem dX2_cellsOf_93 : decode cX2_cellsOf 93 = .ok (.ishl, 1) := by decide +kernel
theorem dX2_cellsOf_94 : decode cX2_cellsOf 94 = .ok (.ior, 1) := by decide +kernel
theorem dX2_cellsOf_95 : decode cX2_cellsOf 95 = .ok (.istore 4, 2) := by decide +kernel
theorem dX2_cellsOf_97 : decode cX2_cellsOf 97 = .ok (.iload 4, 2) := by decide +kernel
theorem dX2_cellsOf_99 : decode cX2_cellsOf 99 = .ok (.iload_n 1, 1) := by decide +kernel
theorem dX2_cellsOf_100 : decode cX2_cellsOf 100 = .ok (.ishl, 1) := by decide +kernel
theorem dX2_cellsOf_101 : decode cX2_cellsOf 101 = .ok (.ireturn, 1) := by decide +kernel
theorem dX2_behind_0 : decode cX2_behind 0 = .ok (.iload_n 0, 1) := by decide +kernel
theorem dX2_behind_1 : decode cX2_behind 1 = .ok (.ifCond .ge 5, 3) := by decide +kernel
theorem dX2_behind_4 : decode cX2_behind 4 = .ok (.iload_n 1, 1) := by decide +kernel
theorem dX2_behind_5 : decode cX2_behind 5 = .ok (.ireturn, 1) := by decide +kernel
theorem dX2_behind_6 : decode cX2_behind 6 = .ok (.iload_n 0, 1) := by decide +kernel
theorem dX2_behind_7 : decode cX2_behind 7 = .ok (.bipush 25, 2) := by decide +kernel
theorem dX2_behind_9 : decode cX2_behind 9 = .ok (.idiv, 1) := by decide +kernel
theorem dX2_behind_10 : decode cX2_behind 10 = .ok (.iload_n 0, 1) := by decide +kernel
theorem dX2_behind_11 : decode cX2_behind 11 = .ok (.bipush 25, 2) := by decide +kernel
theorem dX2_behind_13 : decode cX2_behind 13 = .ok (.irem, 1) := by decide +kernel
theorem dX2_behind_14 : decode cX2_behind 14 = .ok (.invokestatic 13, 3) := by decide +kernel
theorem dX2_behind_17 : decode cX2_behind 17 = .ok (.istore_n 2, 1) := by decide +kernel
theorem dX2_behind_18 : decode cX2_behind 18 = .ok (.iload_n 1, 1) := by decide +kernel
theorem dX2_behind_19 : decode cX2_behind 19 = .ok (.iload_n 2, 1) := by decide +kernel
theorem dX2_behind_20 : decode cX2_behind 20 = .ok (.iand, 1) := by decide +kernel
theorem dX2_behind_21 : decode cX2_behind 21 = .ok (.iload_n 2, 1) := by decide +kernel
theorem dX2_behind_22 : decode cX2_behind 22 = .ok (.if_icmp .ne 11, 3) := by decide +kernel
theorem dX2_behind_25 : decode cX2_behind 25 = .ok (.iload_n 1, 1) := by decide +kernel
theorem dX2_behind_26 : decode cX2_behind 26 = .ok (.iload_n 2, 1) := by decide +kernel
theorem dX2_behind_27 : decode cX2_behind 27 = .ok (.iconst (-1), 1) := by decide +kernel
theorem dX2_behind_28 : decode cX2_behind 28 = .ok (.ixor, 1) := by decide +kernel
theorem dX2_behind_29 : decode cX2_behind 29 = .ok (.iand, 1) := by decide +kernel
theorem dX2_behind_30 : decode cX2_behind 30 = .ok (.goto 4, 3) := by decide +kernel
theorem dX2_behind_33 : decode cX2_behind 33 = .ok (.iload_n 1, 1) := by decide +kernel
theorem dX2_behind_34 : decode cX2_behind 34 = .ok (.ireturn, 1) := by decide +kernel
theorem dX2_besides_0 : decode cX2_besides 0 = .ok (.iload_n 0, 1) := by decide +kernel
theorem dX2_besides_1 : decode cX2_besides 1 = .ok (.ldc 19, 2) := by decide +kernel
theorem dX2_besides_3 : decode cX2_besides 3 = .ok (.iand, 1) := by decide +kernel
theorem dX2_besides_4 : decode cX2_besides 4 = .ok (.iconst 1, 1) := by decide +kernel
theorem dX2_besides_5 : decode cX2_besides 5 = .ok (.ishr, 1) := by decide +kernel
theorem dX2_besides_6 : decode cX2_besides 6 = .ok (.iload_n 0, 1) := by decide +kernel
theorem dX2_besides_7 : decode cX2_besides 7 = .ok (.ldc 20, 2) := by decide +kernel
theorem dX2_besides_9 : decode cX2_besides 9 = .ok (.iand, 1) := by decide +kernel
theorem dX2_besides_10 : decode cX2_besides 10 = .ok (.iconst 1, 1) := by decide +kernel
theorem dX2_besides_11 : decode cX2_besides 11 = .ok (.ishl, 1) := by decide +kernel
theorem dX2_besides_12 : decode cX2_besides 12 = .ok (.ior, 1) := by decide +kernel
theorem dX2_besides_13 : decode cX2_besides 13 = .ok (.istore_n 1, 1) := by decide +kernel
theorem dX2_besides_14 : decode cX2_besides 14 = .ok (.iload_n 1, 1) := by decide +kernel
theorem dX2_besides_15 : decode cX2_besides 15 = .ok (.iload_n 0, 1) := by decide +kernel
theorem dX2_besides_16 : decode cX2_besides 16 = .ok (.iconst 5, 1) := by decide +kernel
theorem dX2_besides_17 : decode cX2_besides 17 = .ok (.ishr, 1) := by decide +kernel
theorem dX2_besides_18 : decode cX2_besides 18 = .ok (.ior, 1) := by decide +kernel
theorem dX2_besides_19 : decode cX2_besides 19 = .ok (.iload_n 0, 1) := by decide +kernel
theorem dX2_besides_20 : decode cX2_besides 20 = .ok (.iconst 5, 1) := by decide +kernel
theorem dX2_besides_21 : decode cX2_besides 21 = .ok (.ishl, 1) := by decide +kernel
theorem dX2_besides_22 : decode cX2_besides 22 = .ok (.ldc 21, 2) := by decide +kernel
theorem dX2_besides_24 : decode cX2_besides 24 = .ok (.iand, 1) := by decide +kernel
theorem dX2_besides_25 : decode cX2_besides 25 = .ok (.ior, 1) := by decide +kernel
theorem dX2_besides_26 : decode cX2_besides 26 = .ok (.ireturn, 1) := by decide +kernel
theorem dX2_heapOf_0 : decode cX2_heapOf 0 = .ok (.iload_n 0, 1) := by decide +kernel
theorem dX2_heapOf_1 : decode cX2_heapOf 1 = .ok (.iload_n 1, 1) := by decide +kernel
theorem dX2_heapOf_2 : decode cX2_heapOf 2 = .ok (.iand, 1) := by decide +kernel
theorem dX2_heapOf_3 : decode cX2_heapOf 3 = .ok (.istore_n 2, 1) := by decide +kernel
theorem dX2_heapOf_4 : decode cX2_heapOf 4 = .ok (.iconst 0, 1) := by decide +kernel
theorem dX2_heapOf_5 : decode cX2_heapOf 5 = .ok (.istore_n 3, 1) := by decide +kernel
theorem dX2_heapOf_6 : decode cX2_heapOf 6 = .ok (.iload_n 3, 1) := by decide +kernel
theorem dX2_heapOf_7 : decode cX2_heapOf 7 = .ok (.bipush 25, 2) := by decide +kernel
theorem dX2_heapOf_9 : decode cX2_heapOf 9 = .ok (.if_icmp .ge 30, 3) := by decide +kernel
theorem dX2_heapOf_12 : decode cX2_heapOf 12 = .ok (.iload_n 2, 1) := by decide +kernel
theorem dX2_heapOf_13 : decode cX2_heapOf 13 = .ok (.iload_n 2, 1) := by decide +kernel
theorem dX2_heapOf_14 : decode cX2_heapOf 14 = .ok (.invokestatic 22, 3) := by decide +kernel
theorem dX2_heapOf_17 : decode cX2_heapOf 17 = .ok (.iload_n 1, 1) := by decide +kernel
theorem dX2_heapOf_18 : decode cX2_heapOf 18 = .ok (.iand, 1) := by decide +kernel
theorem dX2_heapOf_19 : decode cX2_heapOf 19 = .ok (.ior, 1) := by decide +kernel
theorem dX2_heapOf_20 : decode cX2_heapOf 20 = .ok (.istore 4, 2) := by decide +kernel
theorem dX2_heapOf_22 : decode cX2_heapOf 22 = .ok (.iload 4, 2) := by decide +kernel
theorem dX2_heapOf_24 : decode cX2_heapOf 24 = .ok (.iload_n 2, 1) := by decide +kernel
theorem dX2_heapOf_25 : decode cX2_heapOf 25 = .ok (.if_icmp .ne 5, 3) := by decide +kernel
theorem dX2_heapOf_28 : decode cX2_heapOf 28 = .ok (.iload_n 2, 1) := by decide +kernel
theorem dX2_heapOf_29 : decode cX2_heapOf 29 = .ok (.ireturn, 1) := by decide +kernel
theorem dX2_heapOf_30 : decode cX2_heapOf 30 = .ok (.iload 4, 2) := by decide +kernel
theorem dX2_heapOf_32 : decode cX2_heapOf 32 = .ok (.istore_n 2, 1) := by decide +kernel
theorem dX2_heapOf_33 : decode cX2_heapOf 33 = .ok (.iinc 3 1, 3) := by decide +kernel
theorem dX2_heapOf_36 : decode cX2_heapOf 36 = .ok (.goto (-30), 3) := by decide +kernel
theorem dX2_heapOf_39 : decode cX2_heapOf 39 = .ok (.iload_n 2, 1) := by decide +kernel
theorem dX2_heapOf_40 : decode cX2_heapOf 40 = .ok (.ireturn, 1) := by decide +kernel
theorem dX2_heapsOf_0 : decode cX2_heapsOf 0 = .ok (.iconst 0, 1) := by decide +kernel
theorem dX2_heapsOf_1 : decode cX2_heapsOf 1 = .ok (.istore_n 1, 1) := by decide +kernel
theorem dX2_heapsOf_2 : decode cX2_heapsOf 2 = .ok (.iload_n 0, 1) := by decide +kernel
theorem dX2_heapsOf_3 : decode cX2_heapsOf 3 = .ok (.istore_n 2, 1) := by decide +kernel
theorem dX2_heapsOf_4 : decode cX2_heapsOf 4 = .ok (.iconst 0, 1) := by decide +kernel
theorem dX2_heapsOf_5 : decode cX2_heapsOf 5 = .ok (.istore_n 3, 1) := by decide +kernel
theorem dX2_heapsOf_6 : decode cX2_heapsOf 6 = .ok (.iload_n 3, 1) := by decide +kernel
theorem dX2_heapsOf_7 : decode cX2_heapsOf 7 = .ok (.bipush 25, 2) := by decide +kernel
theorem dX2_heapsOf_9 : decode cX2_heapsOf 9 = .ok (.if_icmp .ge 29, 3) := by decide +kernel
theorem dX2_heapsOf_12 : decode cX2_heapsOf 12 = .ok (.iload_n 2, 1) := by decide +kernel
theorem dX2_heapsOf_13 : decode cX2_heapsOf 13 = .ok (.ifCond .eq 25, 3) := by decide +kernel
theorem dX2_heapsOf_16 : decode cX2_heapsOf 16 = .ok (.iload_n 2, 1) := by decide +kernel
theorem dX2_heapsOf_17 : decode cX2_heapsOf 17 = .ok (.iload_n 2, 1) := by decide +kernel
theorem dX2_heapsOf_18 : decode cX2_heapsOf 18 = .ok (.iload_n 2, 1) := by decide +kernel
theorem dX2_heapsOf_19 : decode cX2_heapsOf 19 = .ok (.ineg, 1) := by decide +kernel
theorem dX2_heapsOf_20 : decode cX2_heapsOf 20 = .ok (.iand, 1) := by decide +kernel
theorem dX2_heapsOf_21 : decode cX2_heapsOf 21 = .ok (.iload_n 2, 1) := by decide +kernel
theorem dX2_heapsOf_22 : decode cX2_heapsOf 22 = .ok (.invokestatic 26, 3) := by decide +kernel
theorem dX2_heapsOf_25 : decode cX2_heapsOf 25 = .ok (.iconst (-1), 1) := by decide +kernel
theorem dX2_heapsOf_26 : decode cX2_heapsOf 26 = .ok (.ixor, 1) := by decide +kernel
theorem dX2_heapsOf_27 : decode cX2_heapsOf 27 = .ok (.iand, 1) := by decide +kernel
theorem dX2_heapsOf_28 : decode cX2_heapsOf 28 = .ok (.istore_n 2, 1) := by decide +kernel
theorem dX2_heapsOf_29 : decode cX2_heapsOf 29 = .ok (.iinc 1 1, 3) := by decide +kernel
theorem dX2_heapsOf_32 : decode cX2_heapsOf 32 = .ok (.iinc 3 1, 3) := by decide +kernel
theorem dX2_heapsOf_35 : decode cX2_heapsOf 35 = .ok (.goto (-29), 3) := by decide +kernel
theorem dX2_heapsOf_38 : decode cX2_heapsOf 38 = .ok (.iload_n 1, 1) := by decide +kernel
theorem dX2_heapsOf_39 : decode cX2_heapsOf 39 = .ok (.ireturn, 1) := by decide +kernel
theorem dX2_holesOf_0 : decode cX2_holesOf 0 = .ok (.iconst 0, 1) := by decide +kernel
theorem dX2_holesOf_1 : decode cX2_holesOf 1 = .ok (.istore_n 1, 1) := by decide +kernel
theorem dX2_holesOf_2 : decode cX2_holesOf 2 = .ok (.ldc 21, 2) := by decide +kernel
theorem dX2_holesOf_4 : decode cX2_holesOf 4 = .ok (.iload_n 0, 1) := by decide +kernel
theorem dX2_holesOf_5 : decode cX2_holesOf 5 = .ok (.iconst (-1), 1) := by decide +kernel
theorem dX2_holesOf_6 : decode cX2_holesOf 6 = .ok (.ixor, 1) := by decide +kernel
theorem dX2_holesOf_7 : decode cX2_holesOf 7 = .ok (.iand, 1) := by decide +kernel
theorem dX2_holesOf_8 : decode cX2_holesOf 8 = .ok (.istore_n 2, 1) := by decide +kernel
theorem dX2_holesOf_9 : decode cX2_holesOf 9 = .ok (.iconst 0, 1) := by decide +kernel
theorem dX2_holesOf_10 : decode cX2_holesOf 10 = .ok (.istore_n 3, 1) := by decide +kernel
theorem dX2_holesOf_11 : decode cX2_holesOf 11 = .ok (.iload_n 3, 1) := by decide +kernel
theorem dX2_holesOf_12 : decode cX2_holesOf 12 = .ok (.bipush 25, 2) := by decide +kernel
theorem dX2_holesOf_14 : decode cX2_holesOf 14 = .ok (.if_icmp .ge 41, 3) := by decide +kernel
theorem dX2_holesOf_17 : decode cX2_holesOf 17 = .ok (.iload_n 2, 1) := by decide +kernel
theorem dX2_holesOf_18 : decode cX2_holesOf 18 = .ok (.ifCond .eq 37, 3) := by decide +kernel
theorem dX2_holesOf_21 : decode cX2_holesOf 21 = .ok (.iload_n 2, 1) := by decide +kernel
theorem dX2_holesOf_22 : decode cX2_holesOf 22 = .ok (.iload_n 2, 1) := by decide +kernel
theorem dX2_holesOf_23 : decode cX2_holesOf 23 = .ok (.ineg, 1) := by decide +kernel
theorem dX2_holesOf_24 : decode cX2_holesOf 24 = .ok (.iand, 1) := by decide +kernel
theorem dX2_holesOf_25 : decode cX2_holesOf 25 = .ok (.iload_n 2, 1) := by decide +kernel
theorem dX2_holesOf_26 : decode cX2_holesOf 26 = .ok (.invokestatic 26, 3) := by decide +kernel
theorem dX2_holesOf_29 : decode cX2_holesOf 29 = .ok (.istore 4, 2) := by decide +kernel
theorem dX2_holesOf_31 : decode cX2_holesOf 31 = .ok (.iload 4, 2) := by decide +kernel
theorem dX2_holesOf_33 : decode cX2_holesOf 33 = .ok (.ldc 29, 2) := by decide +kernel
theorem dX2_holesOf_35 : decode cX2_holesOf 35 = .ok (.iand, 1) := by decide +kernel
theorem dX2_holesOf_36 : decode cX2_holesOf 36 = .ok (.ifCond .ne 6, 3) := by decide +kernel
theorem dX2_holesOf_39 : decode cX2_holesOf 39 = .ok (.iinc 1 1, 3) := by decide +kernel
theorem dX2_holesOf_42 : decode cX2_holesOf 42 = .ok (.iload_n 2, 1) := by decide +kernel
theorem dX2_holesOf_43 : decode cX2_holesOf 43 = .ok (.iload 4, 2) := by decide +kernel
theorem dX2_holesOf_45 : decode cX2_holesOf 45 = .ok (.iconst (-1), 1) := by decide +kernel
theorem dX2_holesOf_46 : decode cX2_holesOf 46 = .ok (.ixor, 1) := by decide +kernel
theorem dX2_holesOf_47 : decode cX2_holesOf 47 = .ok (.iand, 1) := by decide +kernel
theorem dX2_holesOf_48 : decode cX2_holesOf 48 = .ok (.istore_n 2, 1) := by decide +kernel
theorem dX2_holesOf_49 : decode cX2_holesOf 49 = .ok (.iinc 3 1, 3) := by decide +kernel
theorem dX2_holesOf_52 : decode cX2_holesOf 52 = .ok (.goto (-41), 3) := by decide +kernel
theorem dX2_holesOf_55 : decode cX2_holesOf 55 = .ok (.iload_n 1, 1) := by decide +kernel
theorem dX2_holesOf_56 : decode cX2_holesOf 56 = .ok (.ireturn, 1) := by decide +kernel
theorem dX2_openSides_0 : decode cX2_openSides 0 = .ok (.iload_n 0, 1) := by decide +kernel
theorem dX2_openSides_1 : decode cX2_openSides 1 = .ok (.ldc 20, 2) := by decide +kernel
theorem dX2_openSides_3 : decode cX2_openSides 3 = .ok (.iand, 1) := by decide +kernel
theorem dX2_openSides_4 : decode cX2_openSides 4 = .ok (.iconst 1, 1) := by decide +kernel
theorem dX2_openSides_5 : decode cX2_openSides 5 = .ok (.ishl, 1) := by decide +kernel
theorem dX2_openSides_6 : decode cX2_openSides 6 = .ok (.iload_n 0, 1) := by decide +kernel
theorem dX2_openSides_7 : decode cX2_openSides 7 = .ok (.iand, 1) := by decide +kernel
theorem dX2_openSides_8 : decode cX2_openSides 8 = .ok (.istore_n 1, 1) := by decide +kernel
theorem dX2_openSides_9 : decode cX2_openSides 9 = .ok (.iload_n 0, 1) := by decide +kernel
theorem dX2_openSides_10 : decode cX2_openSides 10 = .ok (.iconst 5, 1) := by decide +kernel
theorem dX2_openSides_11 : decode cX2_openSides 11 = .ok (.ishl, 1) := by decide +kernel
theorem dX2_openSides_12 : decode cX2_openSides 12 = .ok (.iload_n 0, 1) := by decide +kernel
theorem dX2_openSides_13 : decode cX2_openSides 13 = .ok (.iand, 1) := by decide +kernel
theorem dX2_openSides_14 : decode cX2_openSides 14 = .ok (.istore_n 2, 1) := by decide +kernel
theorem dX2_openSides_15 : decode cX2_openSides 15 = .ok (.iconst 4, 1) := by decide +kernel
theorem dX2_openSides_16 : decode cX2_openSides 16 = .ok (.iload_n 0, 1) := by decide +kernel
theorem dX2_openSides_17 : decode cX2_openSides 17 = .ok (.invokestatic 30, 3) := by decide +kernel
theorem dX2_openSides_20 : decode cX2_openSides 20 = .ok (.imul, 1) := by decide +kernel
theorem dX2_openSides_21 : decode cX2_openSides 21 = .ok (.iconst 2, 1) := by decide +kernel
theorem dX2_openSides_22 : decode cX2_openSides 22 = .ok (.iload_n 1, 1) := by decide +kernel
theorem dX2_openSides_23 : decode cX2_openSides 23 = .ok (.invokestatic 30, 3) := by decide +kernel
theorem dX2_openSides_26 : decode cX2_openSides 26 = .ok (.iload_n 2, 1) := by decide +kernel
theorem dX2_openSides_27 : decode cX2_openSides 27 = .ok (.invokestatic 30, 3) := by decide +kernel
theorem dX2_openSides_30 : decode cX2_openSides 30 = .ok (.iadd, 1) := by decide +kernel
theorem dX2_openSides_31 : decode cX2_openSides 31 = .ok (.imul, 1) := by decide +kernel
theorem dX2_openSides_32 : decode cX2_openSides 32 = .ok (.isub, 1) := by decide +kernel
theorem dX2_openSides_33 : decode cX2_openSides 33 = .ok (.ireturn, 1) := by decide +kernel
theorem dX2_turned_0 : decode cX2_turned 0 = .ok (.iconst 0, 1) := by decide +kernel
theorem dX2_turned_1 : decode cX2_turned 1 = .ok (.istore_n 1, 1) := by decide +kernel
theorem dX2_turned_2 : decode cX2_turned 2 = .ok (.iconst 0, 1) := by decide +kernel
theorem dX2_turned_3 : decode cX2_turned 3 = .ok (.istore_n 2, 1) := by decide +kernel
theorem dX2_turned_4 : decode cX2_turned 4 = .ok (.iload_n 2, 1) := by decide +kernel
theorem dX2_turned_5 : decode cX2_turned 5 = .ok (.bipush 25, 2) := by decide +kernel
theorem dX2_turned_7 : decode cX2_turned 7 = .ok (.if_icmp .ge 33, 3) := by decide +kernel
theorem dX2_turned_10 : decode cX2_turned 10 = .ok (.iload_n 2, 1) := by decide +kernel
theorem dX2_turned_11 : decode cX2_turned 11 = .ok (.iconst 5, 1) := by decide +kernel
theorem dX2_turned_12 : decode cX2_turned 12 = .ok (.irem, 1) := by decide +kernel
theorem dX2_turned_13 : decode cX2_turned 13 = .ok (.iconst 5, 1) := by decide +kernel
theorem dX2_turned_14 : decode cX2_turned 14 = .ok (.imul, 1) := by decide +kernel
theorem dX2_turned_15 : decode cX2_turned 15 = .ok (.iconst 5, 1) := by decide +kernel
theorem dX2_turned_16 : decode cX2_turned 16 = .ok (.iadd, 1) := by decide +kernel
theorem dX2_turned_17 : decode cX2_turned 17 = .ok (.iconst 1, 1) := by decide +kernel
theorem dX2_turned_18 : decode cX2_turned 18 = .ok (.isub, 1) := by decide +kernel
theorem dX2_turned_19 : decode cX2_turned 19 = .ok (.iload_n 2, 1) := by decide +kernel
theorem dX2_turned_20 : decode cX2_turned 20 = .ok (.iconst 5, 1) := by decide +kernel
theorem dX2_turned_21 : decode cX2_turned 21 = .ok (.idiv, 1) := by decide +kernel
theorem dX2_turned_22 : decode cX2_turned 22 = .ok (.isub, 1) := by decide +kernel
theorem dX2_turned_23 : decode cX2_turned 23 = .ok (.istore_n 3, 1) := by decide +kernel
theorem dX2_turned_24 : decode cX2_turned 24 = .ok (.iload_n 1, 1) := by decide +kernel
theorem dX2_turned_25 : decode cX2_turned 25 = .ok (.iload_n 0, 1) := by decide +kernel
theorem dX2_turned_26 : decode cX2_turned 26 = .ok (.iload_n 2, 1) := by decide +kernel
theorem dX2_turned_27 : decode cX2_turned 27 = .ok (.ishr, 1) := by decide +kernel
theorem dX2_turned_28 : decode cX2_turned 28 = .ok (.iconst 1, 1) := by decide +kernel
theorem dX2_turned_29 : decode cX2_turned 29 = .ok (.iand, 1) := by decide +kernel
theorem dX2_turned_30 : decode cX2_turned 30 = .ok (.iload_n 3, 1) := by decide +kernel
theorem dX2_turned_31 : decode cX2_turned 31 = .ok (.ishl, 1) := by decide +kernel
theorem dX2_turned_32 : decode cX2_turned 32 = .ok (.ior, 1) := by decide +kernel
theorem dX2_turned_33 : decode cX2_turned 33 = .ok (.istore_n 1, 1) := by decide +kernel
theorem dX2_turned_34 : decode cX2_turned 34 = .ok (.iinc 2 1, 3) := by decide +kernel
theorem dX2_turned_37 : decode cX2_turned 37 = .ok (.goto (-33), 3) := by decide +kernel
theorem dX2_turned_40 : decode cX2_turned 40 = .ok (.iload_n 1, 1) := by decide +kernel
theorem dX2_turned_41 : decode cX2_turned 41 = .ok (.ireturn, 1) := by decide +kernel
theorem dX2_leastCell_0 : decode cX2_leastCell 0 = .ok (.iload_n 0, 1) := by decide +kernel
theorem dX2_leastCell_1 : decode cX2_leastCell 1 = .ok (.iload_n 0, 1) := by decide +kernel
theorem dX2_leastCell_2 : decode cX2_leastCell 2 = .ok (.ineg, 1) := by decide +kernel
theorem dX2_leastCell_3 : decode cX2_leastCell 3 = .ok (.iand, 1) := by decide +kernel
theorem dX2_leastCell_4 : decode cX2_leastCell 4 = .ok (.iconst 1, 1) := by decide +kernel
theorem dX2_leastCell_5 : decode cX2_leastCell 5 = .ok (.isub, 1) := by decide +kernel
theorem dX2_leastCell_6 : decode cX2_leastCell 6 = .ok (.invokestatic 30, 3) := by decide +kernel
theorem dX2_leastCell_9 : decode cX2_leastCell 9 = .ok (.ireturn, 1) := by decide +kernel
theorem dX2_middleOf_0 : decode cX2_middleOf 0 = .ok (.bipush (-9), 2) := by decide +kernel
theorem dX2_middleOf_2 : decode cX2_middleOf 2 = .ok (.istore_n 1, 1) := by decide +kernel
theorem dX2_middleOf_3 : decode cX2_middleOf 3 = .ok (.iconst 0, 1) := by decide +kernel
theorem dX2_middleOf_4 : decode cX2_middleOf 4 = .ok (.istore_n 2, 1) := by decide +kernel
theorem dX2_middleOf_5 : decode cX2_middleOf 5 = .ok (.iconst 0, 1) := by decide +kernel
theorem dX2_middleOf_6 : decode cX2_middleOf 6 = .ok (.istore_n 3, 1) := by decide +kernel
theorem dX2_middleOf_7 : decode cX2_middleOf 7 = .ok (.iload_n 3, 1) := by decide +kernel
theorem dX2_middleOf_8 : decode cX2_middleOf 8 = .ok (.bipush 25, 2) := by decide +kernel
theorem dX2_middleOf_10 : decode cX2_middleOf 10 = .ok (.if_icmp .ge 44, 3) := by decide +kernel
theorem dX2_middleOf_13 : decode cX2_middleOf 13 = .ok (.iload_n 0, 1) := by decide +kernel
theorem dX2_middleOf_14 : decode cX2_middleOf 14 = .ok (.iconst 1, 1) := by decide +kernel
theorem dX2_middleOf_15 : decode cX2_middleOf 15 = .ok (.iload_n 3, 1) := by decide +kernel
theorem dX2_middleOf_16 : decode cX2_middleOf 16 = .ok (.ishl, 1) := by decide +kernel
theorem dX2_middleOf_17 : decode cX2_middleOf 17 = .ok (.iand, 1) := by decide +kernel
theorem dX2_middleOf_18 : decode cX2_middleOf 18 = .ok (.ifCond .ne 6, 3) := by decide +kernel
theorem dX2_middleOf_21 : decode cX2_middleOf 21 = .ok (.goto 27, 3) := by decide +kernel
theorem dX2_middleOf_24 : decode cX2_middleOf 24 = .ok (.iload_n 3, 1) := by decide +kernel
theorem dX2_middleOf_25 : decode cX2_middleOf 25 = .ok (.iload_n 0, 1) := by decide +kernel
theorem dX2_middleOf_26 : decode cX2_middleOf 26 = .ok (.invokestatic 35, 3) := by decide +kernel
theorem dX2_middleOf_29 : decode cX2_middleOf 29 = .ok (.istore 4, 2) := by decide +kernel
theorem dX2_middleOf_31 : decode cX2_middleOf 31 = .ok (.iload_n 1, 1) := by decide +kernel
theorem dX2_middleOf_32 : decode cX2_middleOf 32 = .ok (.bipush (-9), 2) := by decide +kernel
theorem dX2_middleOf_34 : decode cX2_middleOf 34 = .ok (.if_icmp .eq 9, 3) := by decide +kernel
theorem dX2_middleOf_37 : decode cX2_middleOf 37 = .ok (.iload 4, 2) := by decide +kernel
theorem dX2_middleOf_39 : decode cX2_middleOf 39 = .ok (.iload_n 2, 1) := by decide +kernel
theorem dX2_middleOf_40 : decode cX2_middleOf 40 = .ok (.if_icmp .ge 8, 3) := by decide +kernel
theorem dX2_middleOf_43 : decode cX2_middleOf 43 = .ok (.iload_n 3, 1) := by decide +kernel
theorem dX2_middleOf_44 : decode cX2_middleOf 44 = .ok (.istore_n 1, 1) := by decide +kernel
theorem dX2_middleOf_45 : decode cX2_middleOf 45 = .ok (.iload 4, 2) := by decide +kernel
theorem dX2_middleOf_47 : decode cX2_middleOf 47 = .ok (.istore_n 2, 1) := by decide +kernel
theorem dX2_middleOf_48 : decode cX2_middleOf 48 = .ok (.iinc 3 1, 3) := by decide +kernel
theorem dX2_middleOf_51 : decode cX2_middleOf 51 = .ok (.goto (-44), 3) := by decide +kernel
theorem dX2_middleOf_54 : decode cX2_middleOf 54 = .ok (.iload_n 1, 1) := by decide +kernel
theorem dX2_middleOf_55 : decode cX2_middleOf 55 = .ok (.ireturn, 1) := by decide +kernel
theorem dX2_stepsToAll_0 : decode cX2_stepsToAll 0 = .ok (.iconst 0, 1) := by decide +kernel
theorem dX2_stepsToAll_1 : decode cX2_stepsToAll 1 = .ok (.istore_n 2, 1) := by decide +kernel
theorem dX2_stepsToAll_2 : decode cX2_stepsToAll 2 = .ok (.iconst 0, 1) := by decide +kernel
theorem dX2_stepsToAll_3 : decode cX2_stepsToAll 3 = .ok (.istore_n 3, 1) := by decide +kernel
theorem dX2_stepsToAll_4 : decode cX2_stepsToAll 4 = .ok (.iload_n 3, 1) := by decide +kernel
theorem dX2_stepsToAll_5 : decode cX2_stepsToAll 5 = .ok (.bipush 25, 2) := by decide +kernel
theorem dX2_stepsToAll_7 : decode cX2_stepsToAll 7 = .ok (.if_icmp .ge 44, 3) := by decide +kernel
theorem dX2_stepsToAll_10 : decode cX2_stepsToAll 10 = .ok (.iload_n 1, 1) := by decide +kernel
theorem dX2_stepsToAll_11 : decode cX2_stepsToAll 11 = .ok (.iconst 1, 1) := by decide +kernel
theorem dX2_stepsToAll_12 : decode cX2_stepsToAll 12 = .ok (.iload_n 3, 1) := by decide +kernel
theorem dX2_stepsToAll_13 : decode cX2_stepsToAll 13 = .ok (.ishl, 1) := by decide +kernel
theorem dX2_stepsToAll_14 : decode cX2_stepsToAll 14 = .ok (.iand, 1) := by decide +kernel
theorem dX2_stepsToAll_15 : decode cX2_stepsToAll 15 = .ok (.ifCond .ne 6, 3) := by decide +kernel
theorem dX2_stepsToAll_18 : decode cX2_stepsToAll 18 = .ok (.goto 27, 3) := by decide +kernel
theorem dX2_stepsToAll_21 : decode cX2_stepsToAll 21 = .ok (.iload_n 2, 1) := by decide +kernel
theorem dX2_stepsToAll_22 : decode cX2_stepsToAll 22 = .ok (.iload_n 0, 1) := by decide +kernel
theorem dX2_stepsToAll_23 : decode cX2_stepsToAll 23 = .ok (.iconst 5, 1) := by decide +kernel
theorem dX2_stepsToAll_24 : decode cX2_stepsToAll 24 = .ok (.idiv, 1) := by decide +kernel
theorem dX2_stepsToAll_25 : decode cX2_stepsToAll 25 = .ok (.iload_n 3, 1) := by decide +kernel
theorem dX2_stepsToAll_26 : decode cX2_stepsToAll 26 = .ok (.iconst 5, 1) := by decide +kernel
theorem dX2_stepsToAll_27 : decode cX2_stepsToAll 27 = .ok (.idiv, 1) := by decide +kernel
theorem dX2_stepsToAll_28 : decode cX2_stepsToAll 28 = .ok (.isub, 1) := by decide +kernel
theorem dX2_stepsToAll_29 : decode cX2_stepsToAll 29 = .ok (.invokestatic 38, 3) := by decide +kernel
theorem dX2_stepsToAll_32 : decode cX2_stepsToAll 32 = .ok (.iload_n 0, 1) := by decide +kernel
theorem dX2_stepsToAll_33 : decode cX2_stepsToAll 33 = .ok (.iconst 5, 1) := by decide +kernel
theorem dX2_stepsToAll_34 : decode cX2_stepsToAll 34 = .ok (.irem, 1) := by decide +kernel
theorem dX2_stepsToAll_35 : decode cX2_stepsToAll 35 = .ok (.iload_n 3, 1) := by decide +kernel
theorem dX2_stepsToAll_36 : decode cX2_stepsToAll 36 = .ok (.iconst 5, 1) := by decide +kernel
theorem dX2_stepsToAll_37 : decode cX2_stepsToAll 37 = .ok (.irem, 1) := by decide +kernel
theorem dX2_stepsToAll_38 : decode cX2_stepsToAll 38 = .ok (.isub, 1) := by decide +kernel
theorem dX2_stepsToAll_39 : decode cX2_stepsToAll 39 = .ok (.invokestatic 38, 3) := by decide +kernel
theorem dX2_stepsToAll_42 : decode cX2_stepsToAll 42 = .ok (.iadd, 1) := by decide +kernel
theorem dX2_stepsToAll_43 : decode cX2_stepsToAll 43 = .ok (.iadd, 1) := by decide +kernel
theorem dX2_stepsToAll_44 : decode cX2_stepsToAll 44 = .ok (.istore_n 2, 1) := by decide +kernel
theorem dX2_stepsToAll_45 : decode cX2_stepsToAll 45 = .ok (.iinc 3 1, 3) := by decide +kernel
theorem dX2_stepsToAll_48 : decode cX2_stepsToAll 48 = .ok (.goto (-44), 3) := by decide +kernel
theorem dX2_stepsToAll_51 : decode cX2_stepsToAll 51 = .ok (.iload_n 2, 1) := by decide +kernel
theorem dX2_stepsToAll_52 : decode cX2_stepsToAll 52 = .ok (.ireturn, 1) := by decide +kernel
theorem dX3_init_0 : decode cX3_init 0 = .ok (.aload_n 0, 1) := by decide +kernel
theorem dX3_init_1 : decode cX3_init 1 = .ok (.invokespecial 3, 3) := by decide +kernel
theorem dX3_init_4 : decode cX3_init 4 = .ok (.return_, 1) := by decide +kernel
theorem dX3_reads_0 : decode cX3_reads 0 = .ok (.aload_n 0, 1) := by decide +kernel
theorem dX3_reads_1 : decode cX3_reads 1 = .ok (.bipush 25, 2) := by decide +kernel
theorem dX3_reads_3 : decode cX3_reads 3 = .ok (.iload_n 1, 1) := by decide +kernel
theorem dX3_reads_4 : decode cX3_reads 4 = .ok (.invokestatic 9, 3) := by decide +kernel
theorem dX3_reads_7 : decode cX3_reads 7 = .ok (.isub, 1) := by decide +kernel
theorem dX3_reads_8 : decode cX3_reads 8 = .ok (.putfield 15, 3) := by decide +kernel
theorem dX3_reads_11 : decode cX3_reads 11 = .ok (.aload_n 0, 1) := by decide +kernel
theorem dX3_reads_12 : decode cX3_reads 12 = .ok (.iconst 0, 1) := by decide +kernel
theorem dX3_reads_13 : decode cX3_reads 13 = .ok (.putfield 21, 3) := by decide +kernel
theorem dX3_reads_16 : decode cX3_reads 16 = .ok (.aload_n 0, 1) := by decide +kernel
theorem dX3_reads_17 : decode cX3_reads 17 = .ok (.iconst 0, 1) := by decide +kernel
theorem dX3_reads_18 : decode cX3_reads 18 = .ok (.putfield 24, 3) := by decide +kernel
theorem dX3_reads_21 : decode cX3_reads 21 = .ok (.aload_n 0, 1) := by decide +kernel
theorem dX3_reads_22 : decode cX3_reads 22 = .ok (.iconst 0, 1) := by decide +kernel
theorem dX3_reads_23 : decode cX3_reads 23 = .ok (.putfield 27, 3) := by decide +kernel
theorem dX3_reads_26 : decode cX3_reads 26 = .ok (.iconst 0, 1) := by decide +kernel
theorem dX3_reads_27 : decode cX3_reads 27 = .ok (.istore_n 2, 1) := by decide +kernel
theorem dX3_reads_28 : decode cX3_reads 28 = .ok (.iload_n 1, 1) := by decide +kernel
theorem dX3_reads_29 : decode cX3_reads 29 = .ok (.istore_n 3, 1) := by decide +kernel
theorem dX3_reads_30 : decode cX3_reads 30 = .ok (.iconst 0, 1) := by decide +kernel
theorem dX3_reads_31 : decode cX3_reads 31 = .ok (.istore 4, 2) := by decide +kernel
theorem dX3_reads_33 : decode cX3_reads 33 = .ok (.iload 4, 2) := by decide +kernel
theorem dX3_reads_35 : decode cX3_reads 35 = .ok (.bipush 25, 2) := by decide +kernel
theorem dX3_reads_37 : decode cX3_reads 37 = .ok (.if_icmp .ge 99, 3) := by decide +kernel
theorem dX3_reads_40 : decode cX3_reads 40 = .ok (.iload_n 3, 1) := by decide +kernel
theorem dX3_reads_41 : decode cX3_reads 41 = .ok (.ifCond .eq 95, 3) := by decide +kernel
theorem dX3_reads_44 : decode cX3_reads 44 = .ok (.iload_n 3, 1) := by decide +kernel
theorem dX3_reads_45 : decode cX3_reads 45 = .ok (.iload_n 3, 1) := by decide +kernel
theorem dX3_reads_46 : decode cX3_reads 46 = .ok (.ineg, 1) := by decide +kernel
theorem dX3_reads_47 : decode cX3_reads 47 = .ok (.iand, 1) := by decide +kernel
theorem dX3_reads_48 : decode cX3_reads 48 = .ok (.iload_n 3, 1) := by decide +kernel
theorem dX3_reads_49 : decode cX3_reads 49 = .ok (.invokestatic 30, 3) := by decide +kernel
theorem dX3_reads_52 : decode cX3_reads 52 = .ok (.istore 5, 2) := by decide +kernel
theorem dX3_reads_54 : decode cX3_reads 54 = .ok (.iload 5, 2) := by decide +kernel
theorem dX3_reads_56 : decode cX3_reads 56 = .ok (.invokestatic 9, 3) := by decide +kernel
theorem dX3_reads_59 : decode cX3_reads 59 = .ok (.istore 6, 2) := by decide +kernel
theorem dX3_reads_61 : decode cX3_reads 61 = .ok (.aload_n 0, 1) := by decide +kernel
theorem dX3_reads_62 : decode cX3_reads 62 = .ok (.dup, 1) := by decide +kernel
theorem dX3_reads_63 : decode cX3_reads 63 = .ok (.getfield 21, 3) := by decide +kernel
theorem dX3_reads_66 : decode cX3_reads 66 = .ok (.iconst 1, 1) := by decide +kernel
theorem dX3_reads_67 : decode cX3_reads 67 = .ok (.iadd, 1) := by decide +kernel
theorem dX3_reads_68 : decode cX3_reads 68 = .ok (.putfield 21, 3) := by decide +kernel
theorem dX3_reads_71 : decode cX3_reads 71 = .ok (.aload_n 0, 1) := by decide +kernel
theorem dX3_reads_72 : decode cX3_reads 72 = .ok (.getfield 21, 3) := by decide +kernel
theorem dX3_reads_75 : decode cX3_reads 75 = .ok (.iconst 1, 1) := by decide +kernel
theorem dX3_reads_76 : decode cX3_reads 76 = .ok (.if_icmp .eq 12, 3) := by decide +kernel
theorem dX3_reads_79 : decode cX3_reads 79 = .ok (.iload 6, 2) := by decide +kernel
theorem dX3_reads_81 : decode cX3_reads 81 = .ok (.aload_n 0, 1) := by decide +kernel
theorem dX3_reads_82 : decode cX3_reads 82 = .ok (.getfield 24, 3) := by decide +kernel
theorem dX3_reads_85 : decode cX3_reads 85 = .ok (.if_icmp .ge 9, 3) := by decide +kernel
theorem dX3_reads_88 : decode cX3_reads 88 = .ok (.aload_n 0, 1) := by decide +kernel
theorem dX3_reads_89 : decode cX3_reads 89 = .ok (.iload 6, 2) := by decide +kernel
theorem dX3_reads_91 : decode cX3_reads 91 = .ok (.putfield 24, 3) := by decide +kernel
theorem dX3_reads_94 : decode cX3_reads 94 = .ok (.iload 6, 2) := by decide +kernel
theorem dX3_reads_96 : decode cX3_reads 96 = .ok (.iload_n 2, 1) := by decide +kernel
theorem dX3_reads_97 : decode cX3_reads 97 = .ok (.if_icmp .lt 19, 3) := by decide +kernel
theorem dX3_reads_100 : decode cX3_reads 100 = .ok (.aload_n 0, 1) := by decide +kernel
theorem dX3_reads_101 : decode cX3_reads 101 = .ok (.iload 6, 2) := by decide +kernel
theorem dX3_reads_103 : decode cX3_reads 103 = .ok (.iload_n 2, 1) := by decide +kernel
theorem dX3_reads_104 : decode cX3_reads 104 = .ok (.if_icmp .le 8, 3) := by decide +kernel
theorem dX3_reads_107 : decode cX3_reads 107 = .ok (.iload 5, 2) := by decide +kernel
theorem dX3_reads_109 : decode cX3_reads 109 = .ok (.goto 4, 3) := by decide +kernel
theorem dX3_reads_112 : decode cX3_reads 112 = .ok (.iconst 0, 1) := by decide +kernel
theorem dX3_reads_113 : decode cX3_reads 113 = .ok (.putfield 27, 3) := by decide +kernel
theorem dX3_reads_116 : decode cX3_reads 116 = .ok (.iload_n 2, 1) := by decide +kernel
theorem dX3_reads_117 : decode cX3_reads 117 = .ok (.iload 6, 2) := by decide +kernel
theorem dX3_reads_119 : decode cX3_reads 119 = .ok (.invokestatic 36, 3) := by decide +kernel
theorem dX3_reads_122 : decode cX3_reads 122 = .ok (.istore_n 2, 1) := by decide +kernel
theorem dX3_reads_123 : decode cX3_reads 123 = .ok (.iload_n 3, 1) := by decide +kernel
theorem dX3_reads_124 : decode cX3_reads 124 = .ok (.iload 5, 2) := by decide +kernel
theorem dX3_reads_126 : decode cX3_reads 126 = .ok (.iconst (-1), 1) := by decide +kernel
theorem dX3_reads_127 : decode cX3_reads 127 = .ok (.ixor, 1) := by decide +kernel
theorem dX3_reads_128 : decode cX3_reads 128 = .ok (.iand, 1) := by decide +kernel
theorem dX3_reads_129 : decode cX3_reads 129 = .ok (.istore_n 3, 1) := by decide +kernel
theorem dX3_reads_130 : decode cX3_reads 130 = .ok (.iinc 4 1, 3) := by decide +kernel
theorem dX3_reads_133 : decode cX3_reads 133 = .ok (.goto (-100), 3) := by decide +kernel
theorem dX3_reads_136 : decode cX3_reads 136 = .ok (.return_, 1) := by decide +kernel
theorem dX3_isInChancery_0 : decode cX3_isInChancery 0 = .ok (.aload_n 0, 1) := by decide +kernel
theorem dX3_isInChancery_1 : decode cX3_isInChancery 1 = .ok (.getfield 27, 3) := by decide +kernel
theorem dX3_isInChancery_4 : decode cX3_isInChancery 4 = .ok (.ifCond .ne 7, 3) := by decide +kernel
theorem dX3_isInChancery_7 : decode cX3_isInChancery 7 = .ok (.iconst 1, 1) := by decide +kernel
theorem dX3_isInChancery_8 : decode cX3_isInChancery 8 = .ok (.goto 4, 3) := by decide +kernel
theorem dX3_isInChancery_11 : decode cX3_isInChancery 11 = .ok (.iconst 0, 1) := by decide +kernel
theorem dX3_isInChancery_12 : decode cX3_isInChancery 12 = .ok (.ireturn, 1) := by decide +kernel
theorem dX3_shareBy_0 : decode cX3_shareBy 0 = .ok (.aload_n 0, 1) := by decide +kernel
theorem dX3_shareBy_1 : decode cX3_shareBy 1 = .ok (.invokevirtual 41, 3) := by decide +kernel
theorem dX3_shareBy_4 : decode cX3_shareBy 4 = .ok (.ifCond .eq 14, 3) := by decide +kernel
theorem dX3_shareBy_7 : decode cX3_shareBy 7 = .ok (.iload_n 1, 1) := by decide +kernel
theorem dX3_shareBy_8 : decode cX3_shareBy 8 = .ok (.iconst 3, 1) := by decide +kernel
theorem dX3_shareBy_9 : decode cX3_shareBy 9 = .ok (.if_icmp .ne 7, 3) := by decide +kernel
theorem dX3_shareBy_12 : decode cX3_shareBy 12 = .ok (.iload_n 2, 1) := by decide +kernel
theorem dX3_shareBy_13 : decode cX3_shareBy 13 = .ok (.goto 4, 3) := by decide +kernel
theorem dX3_shareBy_16 : decode cX3_shareBy 16 = .ok (.iconst 0, 1) := by decide +kernel
theorem dX3_shareBy_17 : decode cX3_shareBy 17 = .ok (.ireturn, 1) := by decide +kernel
theorem dX3_shareBy_18 : decode cX3_shareBy 18 = .ok (.aload_n 0, 1) := by decide +kernel
theorem dX3_shareBy_19 : decode cX3_shareBy 19 = .ok (.getfield 27, 3) := by decide +kernel
theorem dX3_shareBy_22 : decode cX3_shareBy 22 = .ok (.ldc 45, 2) := by decide +kernel
theorem dX3_shareBy_24 : decode cX3_shareBy 24 = .ok (.iload_n 2, 1) := by decide +kernel
theorem dX3_shareBy_25 : decode cX3_shareBy 25 = .ok (.iconst 5, 1) := by decide +kernel
theorem dX3_shareBy_26 : decode cX3_shareBy 26 = .ok (.irem, 1) := by decide +kernel
theorem dX3_shareBy_27 : decode cX3_shareBy 27 = .ok (.ishl, 1) := by decide +kernel
theorem dX3_shareBy_28 : decode cX3_shareBy 28 = .ok (.iand, 1) := by decide +kernel
theorem dX3_shareBy_29 : decode cX3_shareBy 29 = .ok (.invokestatic 9, 3) := by decide +kernel
theorem dX3_shareBy_32 : decode cX3_shareBy 32 = .ok (.istore_n 3, 1) := by decide +kernel
theorem dX3_shareBy_33 : decode cX3_shareBy 33 = .ok (.iload_n 3, 1) := by decide +kernel
theorem dX3_shareBy_34 : decode cX3_shareBy 34 = .ok (.aload_n 0, 1) := by decide +kernel
theorem dX3_shareBy_35 : decode cX3_shareBy 35 = .ok (.getfield 27, 3) := by decide +kernel
theorem dX3_shareBy_38 : decode cX3_shareBy 38 = .ok (.iconst 4, 1) := by decide +kernel
theorem dX3_shareBy_39 : decode cX3_shareBy 39 = .ok (.iand, 1) := by decide +kernel
theorem dX3_shareBy_40 : decode cX3_shareBy 40 = .ok (.ifCond .eq 7, 3) := by decide +kernel
theorem dX3_shareBy_43 : decode cX3_shareBy 43 = .ok (.iconst 5, 1) := by decide +kernel
theorem dX3_shareBy_44 : decode cX3_shareBy 44 = .ok (.goto 4, 3) := by decide +kernel
theorem dX3_shareBy_47 : decode cX3_shareBy 47 = .ok (.iconst 0, 1) := by decide +kernel
theorem dX3_shareBy_48 : decode cX3_shareBy 48 = .ok (.iadd, 1) := by decide +kernel
theorem dX3_shareBy_49 : decode cX3_shareBy 49 = .ok (.istore 4, 2) := by decide +kernel
theorem dX3_shareBy_51 : decode cX3_shareBy 51 = .ok (.iload_n 3, 1) := by decide +kernel
theorem dX3_shareBy_52 : decode cX3_shareBy 52 = .ok (.iconst 2, 1) := by decide +kernel
theorem dX3_shareBy_53 : decode cX3_shareBy 53 = .ok (.idiv, 1) := by decide +kernel
theorem dX3_shareBy_54 : decode cX3_shareBy 54 = .ok (.iconst 2, 1) := by decide +kernel
theorem dX3_shareBy_55 : decode cX3_shareBy 55 = .ok (.aload_n 0, 1) := by decide +kernel
theorem dX3_shareBy_56 : decode cX3_shareBy 56 = .ok (.getfield 27, 3) := by decide +kernel
theorem dX3_shareBy_59 : decode cX3_shareBy 59 = .ok (.sipush 14336, 3) := by decide +kernel
theorem dX3_shareBy_62 : decode cX3_shareBy 62 = .ok (.iand, 1) := by decide +kernel
theorem dX3_shareBy_63 : decode cX3_shareBy 63 = .ok (.invokestatic 9, 3) := by decide +kernel
theorem dX3_shareBy_66 : decode cX3_shareBy 66 = .ok (.imul, 1) := by decide +kernel
theorem dX3_shareBy_67 : decode cX3_shareBy 67 = .ok (.iadd, 1) := by decide +kernel
theorem dX3_shareBy_68 : decode cX3_shareBy 68 = .ok (.istore 5, 2) := by decide +kernel
theorem dX3_shareBy_70 : decode cX3_shareBy 70 = .ok (.iload_n 1, 1) := by decide +kernel
theorem dX3_shareBy_71 : decode cX3_shareBy 71 = .ok (.tableswitch 71 0 5 #[37, 39, 42, 45, 50, 61], 37) := by decide +kernel
theorem dX3_shareBy_108 : decode cX3_shareBy 108 = .ok (.iload_n 3, 1) := by decide +kernel
theorem dX3_shareBy_109 : decode cX3_shareBy 109 = .ok (.ireturn, 1) := by decide +kernel
theorem dX3_shareBy_110 : decode cX3_shareBy 110 = .ok (.iload 4, 2) := by decide +kernel
theorem dX3_shareBy_112 : decode cX3_shareBy 112 = .ok (.ireturn, 1) := by decide +kernel
theorem dX3_shareBy_113 : decode cX3_shareBy 113 = .ok (.iload 5, 2) := by decide +kernel
theorem dX3_shareBy_115 : decode cX3_shareBy 115 = .ok (.ireturn, 1) := by decide +kernel
theorem dX3_shareBy_116 : decode cX3_shareBy 116 = .ok (.iload 4, 2) := by decide +kernel
theorem dX3_shareBy_118 : decode cX3_shareBy 118 = .ok (.iconst 3, 1) := by decide +kernel
theorem dX3_shareBy_119 : decode cX3_shareBy 119 = .ok (.idiv, 1) := by decide +kernel
theorem dX3_shareBy_120 : decode cX3_shareBy 120 = .ok (.ireturn, 1) := by decide +kernel
theorem dX3_shareBy_121 : decode cX3_shareBy 121 = .ok (.iconst 0, 1) := by decide +kernel
theorem dX3_shareBy_122 : decode cX3_shareBy 122 = .ok (.aload_n 0, 1) := by decide +kernel
theorem dX3_shareBy_123 : decode cX3_shareBy 123 = .ok (.getfield 15, 3) := by decide +kernel
theorem dX3_shareBy_126 : decode cX3_shareBy 126 = .ok (.iload_n 2, 1) := by decide +kernel
theorem dX3_shareBy_127 : decode cX3_shareBy 127 = .ok (.isub, 1) := by decide +kernel
theorem dX3_shareBy_128 : decode cX3_shareBy 128 = .ok (.invokestatic 36, 3) := by decide +kernel
theorem dX3_shareBy_131 : decode cX3_shareBy 131 = .ok (.ireturn, 1) := by decide +kernel
theorem dX3_shareBy_132 : decode cX3_shareBy 132 = .ok (.iload 5, 2) := by decide +kernel
theorem dX3_shareBy_134 : decode cX3_shareBy 134 = .ok (.aload_n 0, 1) := by decide +kernel
theorem dX3_shareBy_135 : decode cX3_shareBy 135 = .ok (.getfield 21, 3) := by decide +kernel
theorem dX3_shareBy_138 : decode cX3_shareBy 138 = .ok (.iadd, 1) := by decide +kernel
theorem dX3_shareBy_139 : decode cX3_shareBy 139 = .ok (.iconst 1, 1) := by decide +kernel
theorem dX3_shareBy_140 : decode cX3_shareBy 140 = .ok (.isub, 1) := by decide +kernel
theorem dX3_shareBy_141 : decode cX3_shareBy 141 = .ok (.ireturn, 1) := by decide +kernel
theorem dX3_shareBy_142 : decode cX3_shareBy 142 = .ok (.iconst 0, 1) := by decide +kernel
theorem dX3_shareBy_143 : decode cX3_shareBy 143 = .ok (.ireturn, 1) := by decide +kernel
theorem dX4_init_0 : decode cX4_init 0 = .ok (.aload_n 0, 1) := by decide +kernel
theorem dX4_init_1 : decode cX4_init 1 = .ok (.invokespecial 3, 3) := by decide +kernel
theorem dX4_init_4 : decode cX4_init 4 = .ok (.aload_n 0, 1) := by decide +kernel
theorem dX4_init_5 : decode cX4_init 5 = .ok (.bipush 96, 2) := by decide +kernel
theorem dX4_init_7 : decode cX4_init 7 = .ok (.newarray .int, 2) := by decide +kernel
theorem dX4_init_9 : decode cX4_init 9 = .ok (.putfield 9, 3) := by decide +kernel
theorem dX4_init_12 : decode cX4_init 12 = .ok (.aload_n 0, 1) := by decide +kernel
theorem dX4_init_13 : decode cX4_init 13 = .ok (.iconst 0, 1) := by decide +kernel
theorem dX4_init_14 : decode cX4_init 14 = .ok (.putfield 15, 3) := by decide +kernel
theorem dX4_init_17 : decode cX4_init 17 = .ok (.return_, 1) := by decide +kernel
theorem dX4_takes_0 : decode cX4_takes 0 = .ok (.aload_n 0, 1) := by decide +kernel
theorem dX4_takes_1 : decode cX4_takes 1 = .ok (.getfield 15, 3) := by decide +kernel
theorem dX4_takes_4 : decode cX4_takes 4 = .ok (.bipush 96, 2) := by decide +kernel
theorem dX4_takes_6 : decode cX4_takes 6 = .ok (.if_icmp .ge 23, 3) := by decide +kernel
theorem dX4_takes_9 : decode cX4_takes 9 = .ok (.aload_n 0, 1) := by decide +kernel
theorem dX4_takes_10 : decode cX4_takes 10 = .ok (.getfield 9, 3) := by decide +kernel
theorem dX4_takes_13 : decode cX4_takes 13 = .ok (.aload_n 0, 1) := by decide +kernel
theorem dX4_takes_14 : decode cX4_takes 14 = .ok (.getfield 15, 3) := by decide +kernel
theorem dX4_takes_17 : decode cX4_takes 17 = .ok (.iload_n 1, 1) := by decide +kernel
theorem dX4_takes_18 : decode cX4_takes 18 = .ok (.iastore, 1) := by decide +kernel
theorem dX4_takes_19 : decode cX4_takes 19 = .ok (.aload_n 0, 1) := by decide +kernel
theorem dX4_takes_20 : decode cX4_takes 20 = .ok (.dup, 1) := by decide +kernel
theorem dX4_takes_21 : decode cX4_takes 21 = .ok (.getfield 15, 3) := by decide +kernel
theorem dX4_takes_24 : decode cX4_takes 24 = .ok (.iconst 1, 1) := by decide +kernel
theorem dX4_takes_25 : decode cX4_takes 25 = .ok (.iadd, 1) := by decide +kernel
theorem dX4_takes_26 : decode cX4_takes 26 = .ok (.putfield 15, 3) := by decide +kernel
theorem dX4_takes_29 : decode cX4_takes 29 = .ok (.aload_n 0, 1) := by decide +kernel
theorem dX4_takes_30 : decode cX4_takes 30 = .ok (.getfield 15, 3) := by decide +kernel
theorem dX4_takes_33 : decode cX4_takes 33 = .ok (.ireturn, 1) := by decide +kernel
theorem dX4_misfit_0 : decode cX4_misfit 0 = .ok (.iconst 0, 1) := by decide +kernel
theorem dX4_misfit_1 : decode cX4_misfit 1 = .ok (.istore_n 1, 1) := by decide +kernel
theorem dX4_misfit_2 : decode cX4_misfit 2 = .ok (.iconst 0, 1) := by decide +kernel
theorem dX4_misfit_3 : decode cX4_misfit 3 = .ok (.istore_n 2, 1) := by decide +kernel
theorem dX4_misfit_4 : decode cX4_misfit 4 = .ok (.iload_n 2, 1) := by decide +kernel
theorem dX4_misfit_5 : decode cX4_misfit 5 = .ok (.aload_n 0, 1) := by decide +kernel
theorem dX4_misfit_6 : decode cX4_misfit 6 = .ok (.getfield 15, 3) := by decide +kernel
theorem dX4_misfit_9 : decode cX4_misfit 9 = .ok (.if_icmp .ge 49, 3) := by decide +kernel
theorem dX4_misfit_12 : decode cX4_misfit 12 = .ok (.aload_n 0, 1) := by decide +kernel
theorem dX4_misfit_13 : decode cX4_misfit 13 = .ok (.iload_n 1, 1) := by decide +kernel
theorem dX4_misfit_14 : decode cX4_misfit 14 = .ok (.invokevirtual 19, 3) := by decide +kernel
theorem dX4_misfit_17 : decode cX4_misfit 17 = .ok (.astore_n 3, 1) := by decide +kernel
theorem dX4_misfit_18 : decode cX4_misfit 18 = .ok (.aload_n 3, 1) := by decide +kernel
theorem dX4_misfit_19 : decode cX4_misfit 19 = .ok (.iload_n 2, 1) := by decide +kernel
theorem dX4_misfit_20 : decode cX4_misfit 20 = .ok (.iload_n 1, 1) := by decide +kernel
theorem dX4_misfit_21 : decode cX4_misfit 21 = .ok (.isub, 1) := by decide +kernel
theorem dX4_misfit_22 : decode cX4_misfit 22 = .ok (.aload_n 0, 1) := by decide +kernel
theorem dX4_misfit_23 : decode cX4_misfit 23 = .ok (.getfield 9, 3) := by decide +kernel
theorem dX4_misfit_26 : decode cX4_misfit 26 = .ok (.iload_n 2, 1) := by decide +kernel
theorem dX4_misfit_27 : decode cX4_misfit 27 = .ok (.iaload, 1) := by decide +kernel
theorem dX4_misfit_28 : decode cX4_misfit 28 = .ok (.invokestatic 23, 3) := by decide +kernel
theorem dX4_misfit_31 : decode cX4_misfit 31 = .ok (.ifCond .ne 5, 3) := by decide +kernel
theorem dX4_misfit_34 : decode cX4_misfit 34 = .ok (.iload_n 2, 1) := by decide +kernel
theorem dX4_misfit_35 : decode cX4_misfit 35 = .ok (.ireturn, 1) := by decide +kernel
theorem dX4_misfit_36 : decode cX4_misfit 36 = .ok (.iload_n 2, 1) := by decide +kernel
theorem dX4_misfit_37 : decode cX4_misfit 37 = .ok (.iload_n 1, 1) := by decide +kernel
theorem dX4_misfit_38 : decode cX4_misfit 38 = .ok (.isub, 1) := by decide +kernel
theorem dX4_misfit_39 : decode cX4_misfit 39 = .ok (.aload_n 3, 1) := by decide +kernel
theorem dX4_misfit_40 : decode cX4_misfit 40 = .ok (.invokevirtual 27, 3) := by decide +kernel
theorem dX4_misfit_43 : decode cX4_misfit 43 = .ok (.iconst 1, 1) := by decide +kernel
theorem dX4_misfit_44 : decode cX4_misfit 44 = .ok (.isub, 1) := by decide +kernel
theorem dX4_misfit_45 : decode cX4_misfit 45 = .ok (.if_icmp .ne 7, 3) := by decide +kernel
theorem dX4_misfit_48 : decode cX4_misfit 48 = .ok (.iload_n 2, 1) := by decide +kernel
theorem dX4_misfit_49 : decode cX4_misfit 49 = .ok (.iconst 1, 1) := by decide +kernel
theorem dX4_misfit_50 : decode cX4_misfit 50 = .ok (.iadd, 1) := by decide +kernel
theorem dX4_misfit_51 : decode cX4_misfit 51 = .ok (.istore_n 1, 1) := by decide +kernel
theorem dX4_misfit_52 : decode cX4_misfit 52 = .ok (.iinc 2 1, 3) := by decide +kernel
theorem dX4_misfit_55 : decode cX4_misfit 55 = .ok (.goto (-51), 3) := by decide +kernel
theorem dX4_misfit_58 : decode cX4_misfit 58 = .ok (.aload_n 0, 1) := by decide +kernel
theorem dX4_misfit_59 : decode cX4_misfit 59 = .ok (.getfield 15, 3) := by decide +kernel
theorem dX4_misfit_62 : decode cX4_misfit 62 = .ok (.ifCond .le 15, 3) := by decide +kernel
theorem dX4_misfit_65 : decode cX4_misfit 65 = .ok (.iload_n 1, 1) := by decide +kernel
theorem dX4_misfit_66 : decode cX4_misfit 66 = .ok (.aload_n 0, 1) := by decide +kernel
theorem dX4_misfit_67 : decode cX4_misfit 67 = .ok (.getfield 15, 3) := by decide +kernel
theorem dX4_misfit_70 : decode cX4_misfit 70 = .ok (.if_icmp .ne 7, 3) := by decide +kernel
theorem dX4_misfit_73 : decode cX4_misfit 73 = .ok (.iconst (-1), 1) := by decide +kernel
theorem dX4_misfit_74 : decode cX4_misfit 74 = .ok (.goto 7, 3) := by decide +kernel
theorem dX4_misfit_77 : decode cX4_misfit 77 = .ok (.aload_n 0, 1) := by decide +kernel
theorem dX4_misfit_78 : decode cX4_misfit 78 = .ok (.getfield 15, 3) := by decide +kernel
theorem dX4_misfit_81 : decode cX4_misfit 81 = .ok (.ireturn, 1) := by decide +kernel
theorem dX4_formAt_0 : decode cX4_formAt 0 = .ok (.aload_n 0, 1) := by decide +kernel
theorem dX4_formAt_1 : decode cX4_formAt 1 = .ok (.iload_n 1, 1) := by decide +kernel
theorem dX4_formAt_2 : decode cX4_formAt 2 = .ok (.invokevirtual 32, 3) := by decide +kernel
theorem dX4_formAt_5 : decode cX4_formAt 5 = .ok (.lookupswitch 66 #[(98, 54), (104, 51), (108, 57), (110, 63), (114, 60)], 51) := by decide +kernel
theorem dX4_formAt_56 : decode cX4_formAt 56 = .ok (.ldc 36, 2) := by decide +kernel
theorem dX4_formAt_58 : decode cX4_formAt 58 = .ok (.areturn, 1) := by decide +kernel
theorem dX4_formAt_59 : decode cX4_formAt 59 = .ok (.ldc 38, 2) := by decide +kernel
theorem dX4_formAt_61 : decode cX4_formAt 61 = .ok (.areturn, 1) := by decide +kernel
theorem dX4_formAt_62 : decode cX4_formAt 62 = .ok (.ldc 40, 2) := by decide +kernel
theorem dX4_formAt_64 : decode cX4_formAt 64 = .ok (.areturn, 1) := by decide +kernel
theorem dX4_formAt_65 : decode cX4_formAt 65 = .ok (.ldc 42, 2) := by decide +kernel
theorem dX4_formAt_67 : decode cX4_formAt 67 = .ok (.areturn, 1) := by decide +kernel
theorem dX4_formAt_68 : decode cX4_formAt 68 = .ok (.ldc 44, 2) := by decide +kernel
theorem dX4_formAt_70 : decode cX4_formAt 70 = .ok (.areturn, 1) := by decide +kernel
theorem dX4_formAt_71 : decode cX4_formAt 71 = .ok (.ldc 46, 2) := by decide +kernel
theorem dX4_formAt_73 : decode cX4_formAt 73 = .ok (.areturn, 1) := by decide +kernel
theorem dX4_doesStatement_0 : decode cX4_doesStatement 0 = .ok (.aload_n 0, 1) := by decide +kernel
theorem dX4_doesStatement_1 : decode cX4_doesStatement 1 = .ok (.iload_n 1, 1) := by decide +kernel
theorem dX4_doesStatement_2 : decode cX4_doesStatement 2 = .ok (.invokevirtual 32, 3) := by decide +kernel
theorem dX4_doesStatement_5 : decode cX4_doesStatement 5 = .ok (.lookupswitch 118 #[(98, 70), (104, 51), (108, 89), (110, 113), (114, 101)], 51) := by decide +kernel
theorem dX4_doesStatement_56 : decode cX4_doesStatement 56 = .ok (.aload_n 2, 1) := by decide +kernel
theorem dX4_doesStatement_57 : decode cX4_doesStatement 57 = .ok (.aload_n 0, 1) := by decide +kernel
theorem dX4_doesStatement_58 : decode cX4_doesStatement 58 = .ok (.iload_n 1, 1) := by decide +kernel
theorem dX4_doesStatement_59 : decode cX4_doesStatement 59 = .ok (.iconst 1, 1) := by decide +kernel
theorem dX4_doesStatement_60 : decode cX4_doesStatement 60 = .ok (.iadd, 1) := by decide +kernel
theorem dX4_doesStatement_61 : decode cX4_doesStatement 61 = .ok (.invokevirtual 48, 3) := by decide +kernel
theorem dX4_doesStatement_64 : decode cX4_doesStatement 64 = .ok (.aload_n 0, 1) := by decide +kernel
theorem dX4_doesStatement_65 : decode cX4_doesStatement 65 = .ok (.iload_n 1, 1) := by decide +kernel
theorem dX4_doesStatement_66 : decode cX4_doesStatement 66 = .ok (.iconst 2, 1) := by decide +kernel
theorem dX4_doesStatement_67 : decode cX4_doesStatement 67 = .ok (.iadd, 1) := by decide +kernel
theorem dX4_doesStatement_68 : decode cX4_doesStatement 68 = .ok (.invokevirtual 51, 3) := by decide +kernel
theorem dX4_doesStatement_71 : decode cX4_doesStatement 71 = .ok (.invokevirtual 54, 3) := by decide +kernel
theorem dX4_doesStatement_74 : decode cX4_doesStatement 74 = .ok (.ireturn, 1) := by decide +kernel
theorem dX4_doesStatement_75 : decode cX4_doesStatement 75 = .ok (.aload_n 2, 1) := by decide +kernel
theorem dX4_doesStatement_76 : decode cX4_doesStatement 76 = .ok (.aload_n 0, 1) := by decide +kernel
theorem dX4_doesStatement_77 : decode cX4_doesStatement 77 = .ok (.iload_n 1, 1) := by decide +kernel
theorem dX4_doesStatement_78 : decode cX4_doesStatement 78 = .ok (.iconst 1, 1) := by decide +kernel
theorem dX4_doesStatement_79 : decode cX4_doesStatement 79 = .ok (.iadd, 1) := by decide +kernel
theorem dX4_doesStatement_80 : decode cX4_doesStatement 80 = .ok (.invokevirtual 51, 3) := by decide +kernel
theorem dX4_doesStatement_83 : decode cX4_doesStatement 83 = .ok (.aload_n 0, 1) := by decide +kernel
theorem dX4_doesStatement_84 : decode cX4_doesStatement 84 = .ok (.iload_n 1, 1) := by decide +kernel
theorem dX4_doesStatement_85 : decode cX4_doesStatement 85 = .ok (.iconst 2, 1) := by decide +kernel
theorem dX4_doesStatement_86 : decode cX4_doesStatement 86 = .ok (.iadd, 1) := by decide +kernel
theorem dX4_doesStatement_87 : decode cX4_doesStatement 87 = .ok (.invokevirtual 60, 3) := by decide +kernel
theorem dX4_doesStatement_90 : decode cX4_doesStatement 90 = .ok (.invokevirtual 63, 3) := by decide +kernel
theorem dX4_doesStatement_93 : decode cX4_doesStatement 93 = .ok (.ireturn, 1) := by decide +kernel
theorem dX4_doesStatement_94 : decode cX4_doesStatement 94 = .ok (.aload_n 2, 1) := by decide +kernel
theorem dX4_doesStatement_95 : decode cX4_doesStatement 95 = .ok (.aload_n 0, 1) := by decide +kernel
theorem dX4_doesStatement_96 : decode cX4_doesStatement 96 = .ok (.iload_n 1, 1) := by decide +kernel
theorem dX4_doesStatement_97 : decode cX4_doesStatement 97 = .ok (.iconst 1, 1) := by decide +kernel
theorem dX4_doesStatement_98 : decode cX4_doesStatement 98 = .ok (.iadd, 1) := by decide +kernel
theorem dX4_doesStatement_99 : decode cX4_doesStatement 99 = .ok (.invokevirtual 60, 3) := by decide +kernel
theorem dX4_doesStatement_102 : decode cX4_doesStatement 102 = .ok (.invokevirtual 66, 3) := by decide +kernel
theorem dX4_doesStatement_105 : decode cX4_doesStatement 105 = .ok (.ireturn, 1) := by decide +kernel
theorem dX4_doesStatement_106 : decode cX4_doesStatement 106 = .ok (.aload_n 2, 1) := by decide +kernel
theorem dX4_doesStatement_107 : decode cX4_doesStatement 107 = .ok (.aload_n 0, 1) := by decide +kernel
theorem dX4_doesStatement_108 : decode cX4_doesStatement 108 = .ok (.iload_n 1, 1) := by decide +kernel
theorem dX4_doesStatement_109 : decode cX4_doesStatement 109 = .ok (.iconst 1, 1) := by decide +kernel
theorem dX4_doesStatement_110 : decode cX4_doesStatement 110 = .ok (.iadd, 1) := by decide +kernel
theorem dX4_doesStatement_111 : decode cX4_doesStatement 111 = .ok (.invokevirtual 51, 3) := by decide +kernel
theorem dX4_doesStatement_114 : decode cX4_doesStatement 114 = .ok (.invokevirtual 70, 3) := by decide +kernel
theorem dX4_doesStatement_117 : decode cX4_doesStatement 117 = .ok (.ireturn, 1) := by decide +kernel
theorem dX4_doesStatement_118 : decode cX4_doesStatement 118 = .ok (.aload_n 2, 1) := by decide +kernel
theorem dX4_doesStatement_119 : decode cX4_doesStatement 119 = .ok (.invokevirtual 73, 3) := by decide +kernel
theorem dX4_doesStatement_122 : decode cX4_doesStatement 122 = .ok (.ireturn, 1) := by decide +kernel
theorem dX4_doesStatement_123 : decode cX4_doesStatement 123 = .ok (.iconst 0, 1) := by decide +kernel
theorem dX4_doesStatement_124 : decode cX4_doesStatement 124 = .ok (.ireturn, 1) := by decide +kernel
theorem dX4_suits_0 : decode cX4_suits 0 = .ok (.iload_n 1, 1) := by decide +kernel
theorem dX4_suits_1 : decode cX4_suits 1 = .ok (.ifCond .lt 11, 3) := by decide +kernel
theorem dX4_suits_4 : decode cX4_suits 4 = .ok (.iload_n 1, 1) := by decide +kernel
theorem dX4_suits_5 : decode cX4_suits 5 = .ok (.aload_n 0, 1) := by decide +kernel
theorem dX4_suits_6 : decode cX4_suits 6 = .ok (.invokevirtual 27, 3) := by decide +kernel
theorem dX4_suits_9 : decode cX4_suits 9 = .ok (.if_icmp .lt 5, 3) := by decide +kernel
theorem dX4_suits_12 : decode cX4_suits 12 = .ok (.iconst 0, 1) := by decide +kernel
theorem dX4_suits_13 : decode cX4_suits 13 = .ok (.ireturn, 1) := by decide +kernel
theorem dX4_suits_14 : decode cX4_suits 14 = .ok (.aload_n 0, 1) := by decide +kernel
theorem dX4_suits_15 : decode cX4_suits 15 = .ok (.iload_n 1, 1) := by decide +kernel
theorem dX4_suits_16 : decode cX4_suits 16 = .ok (.invokevirtual 77, 3) := by decide +kernel
theorem dX4_suits_19 : decode cX4_suits 19 = .ok (.istore_n 3, 1) := by decide +kernel
theorem dX4_suits_20 : decode cX4_suits 20 = .ok (.iload_n 3, 1) := by decide +kernel
theorem dX4_suits_21 : decode cX4_suits 21 = .ok (.bipush 75, 2) := by decide +kernel
theorem dX4_suits_23 : decode cX4_suits 23 = .ok (.if_icmp .ne 19, 3) := by decide +kernel
theorem dX4_suits_26 : decode cX4_suits 26 = .ok (.ldc 81, 2) := by decide +kernel
theorem dX4_suits_28 : decode cX4_suits 28 = .ok (.iload_n 2, 1) := by decide +kernel
theorem dX4_suits_29 : decode cX4_suits 29 = .ok (.i2c, 1) := by decide +kernel
theorem dX4_suits_30 : decode cX4_suits 30 = .ok (.invokevirtual 83, 3) := by decide +kernel
theorem dX4_suits_33 : decode cX4_suits 33 = .ok (.ifCond .lt 7, 3) := by decide +kernel
theorem dX4_suits_36 : decode cX4_suits 36 = .ok (.iconst 1, 1) := by decide +kernel
theorem dX4_suits_37 : decode cX4_suits 37 = .ok (.goto 4, 3) := by decide +kernel
theorem dX4_suits_40 : decode cX4_suits 40 = .ok (.iconst 0, 1) := by decide +kernel
theorem dX4_suits_41 : decode cX4_suits 41 = .ok (.ireturn, 1) := by decide +kernel
theorem dX4_suits_42 : decode cX4_suits 42 = .ok (.iload_n 3, 1) := by decide +kernel
theorem dX4_suits_43 : decode cX4_suits 43 = .ok (.bipush 57, 2) := by decide +kernel
theorem dX4_suits_45 : decode cX4_suits 45 = .ok (.if_icmp .ne 21, 3) := by decide +kernel
theorem dX4_suits_48 : decode cX4_suits 48 = .ok (.iload_n 2, 1) := by decide +kernel
theorem dX4_suits_49 : decode cX4_suits 49 = .ok (.bipush 48, 2) := by decide +kernel
theorem dX4_suits_51 : decode cX4_suits 51 = .ok (.if_icmp .lt 13, 3) := by decide +kernel
theorem dX4_suits_54 : decode cX4_suits 54 = .ok (.iload_n 2, 1) := by decide +kernel
theorem dX4_suits_55 : decode cX4_suits 55 = .ok (.bipush 57, 2) := by decide +kernel
theorem dX4_suits_57 : decode cX4_suits 57 = .ok (.if_icmp .gt 7, 3) := by decide +kernel
theorem dX4_suits_60 : decode cX4_suits 60 = .ok (.iconst 1, 1) := by decide +kernel
theorem dX4_suits_61 : decode cX4_suits 61 = .ok (.goto 4, 3) := by decide +kernel
theorem dX4_suits_64 : decode cX4_suits 64 = .ok (.iconst 0, 1) := by decide +kernel
theorem dX4_suits_65 : decode cX4_suits 65 = .ok (.ireturn, 1) := by decide +kernel
theorem dX4_suits_66 : decode cX4_suits 66 = .ok (.iload_n 2, 1) := by decide +kernel
theorem dX4_suits_67 : decode cX4_suits 67 = .ok (.iload_n 3, 1) := by decide +kernel
theorem dX4_suits_68 : decode cX4_suits 68 = .ok (.if_icmp .ne 7, 3) := by decide +kernel
theorem dX4_suits_71 : decode cX4_suits 71 = .ok (.iconst 1, 1) := by decide +kernel
theorem dX4_suits_72 : decode cX4_suits 72 = .ok (.goto 4, 3) := by decide +kernel
theorem dX4_suits_75 : decode cX4_suits 75 = .ok (.iconst 0, 1) := by decide +kernel
theorem dX4_suits_76 : decode cX4_suits 76 = .ok (.ireturn, 1) := by decide +kernel
theorem dX4_letterAt_0 : decode cX4_letterAt 0 = .ok (.iload_n 1, 1) := by decide +kernel
theorem dX4_letterAt_1 : decode cX4_letterAt 1 = .ok (.ifCond .lt 20, 3) := by decide +kernel
theorem dX4_letterAt_4 : decode cX4_letterAt 4 = .ok (.iload_n 1, 1) := by decide +kernel
theorem dX4_letterAt_5 : decode cX4_letterAt 5 = .ok (.aload_n 0, 1) := by decide +kernel
theorem dX4_letterAt_6 : decode cX4_letterAt 6 = .ok (.getfield 15, 3) := by decide +kernel
theorem dX4_letterAt_9 : decode cX4_letterAt 9 = .ok (.if_icmp .ge 12, 3) := by decide +kernel
theorem dX4_letterAt_12 : decode cX4_letterAt 12 = .ok (.aload_n 0, 1) := by decide +kernel
theorem dX4_letterAt_13 : decode cX4_letterAt 13 = .ok (.getfield 9, 3) := by decide +kernel
theorem dX4_letterAt_16 : decode cX4_letterAt 16 = .ok (.iload_n 1, 1) := by decide +kernel
theorem dX4_letterAt_17 : decode cX4_letterAt 17 = .ok (.iaload, 1) := by decide +kernel
theorem dX4_letterAt_18 : decode cX4_letterAt 18 = .ok (.goto 4, 3) := by decide +kernel
theorem dX4_letterAt_21 : decode cX4_letterAt 21 = .ok (.iconst (-1), 1) := by decide +kernel
theorem dX4_letterAt_22 : decode cX4_letterAt 22 = .ok (.ireturn, 1) := by decide +kernel
theorem dX4_kindAt_0 : decode cX4_kindAt 0 = .ok (.ldc 81, 2) := by decide +kernel
theorem dX4_kindAt_2 : decode cX4_kindAt 2 = .ok (.aload_n 0, 1) := by decide +kernel
theorem dX4_kindAt_3 : decode cX4_kindAt 3 = .ok (.iload_n 1, 1) := by decide +kernel
theorem dX4_kindAt_4 : decode cX4_kindAt 4 = .ok (.invokevirtual 32, 3) := by decide +kernel
theorem dX4_kindAt_7 : decode cX4_kindAt 7 = .ok (.i2c, 1) := by decide +kernel
theorem dX4_kindAt_8 : decode cX4_kindAt 8 = .ok (.invokevirtual 83, 3) := by decide +kernel
theorem dX4_kindAt_11 : decode cX4_kindAt 11 = .ok (.ireturn, 1) := by decide +kernel
theorem dX4_digitAt_0 : decode cX4_digitAt 0 = .ok (.aload_n 0, 1) := by decide +kernel
theorem dX4_digitAt_1 : decode cX4_digitAt 1 = .ok (.iload_n 1, 1) := by decide +kernel
theorem dX4_digitAt_2 : decode cX4_digitAt 2 = .ok (.invokevirtual 32, 3) := by decide +kernel
theorem dX4_digitAt_5 : decode cX4_digitAt 5 = .ok (.bipush 48, 2) := by decide +kernel
theorem dX4_digitAt_7 : decode cX4_digitAt 7 = .ok (.isub, 1) := by decide +kernel
theorem dX4_digitAt_8 : decode cX4_digitAt 8 = .ok (.ireturn, 1) := by decide +kernel
theorem dX4_numberAt_0 : decode cX4_numberAt 0 = .ok (.bipush 10, 2) := by decide +kernel
theorem dX4_numberAt_2 : decode cX4_numberAt 2 = .ok (.aload_n 0, 1) := by decide +kernel
theorem dX4_numberAt_3 : decode cX4_numberAt 3 = .ok (.iload_n 1, 1) := by decide +kernel
theorem dX4_numberAt_4 : decode cX4_numberAt 4 = .ok (.invokevirtual 51, 3) := by decide +kernel
theorem dX4_numberAt_7 : decode cX4_numberAt 7 = .ok (.imul, 1) := by decide +kernel
theorem dX4_numberAt_8 : decode cX4_numberAt 8 = .ok (.aload_n 0, 1) := by decide +kernel
theorem dX4_numberAt_9 : decode cX4_numberAt 9 = .ok (.iload_n 1, 1) := by decide +kernel
theorem dX4_numberAt_10 : decode cX4_numberAt 10 = .ok (.iconst 1, 1) := by decide +kernel
theorem dX4_numberAt_11 : decode cX4_numberAt 11 = .ok (.iadd, 1) := by decide +kernel
theorem dX4_numberAt_12 : decode cX4_numberAt 12 = .ok (.invokevirtual 51, 3) := by decide +kernel
theorem dX4_numberAt_15 : decode cX4_numberAt 15 = .ok (.iadd, 1) := by decide +kernel
theorem dX4_numberAt_16 : decode cX4_numberAt 16 = .ok (.ireturn, 1) := by decide +kernel
theorem dX5_init_0 : decode cX5_init 0 = .ok (.aload_n 0, 1) := by decide +kernel
theorem dX5_init_1 : decode cX5_init 1 = .ok (.invokespecial 1, 3) := by decide +kernel
theorem dX5_init_4 : decode cX5_init 4 = .ok (.aload_n 0, 1) := by decide +kernel
theorem dX5_init_5 : decode cX5_init 5 = .ok (.new 7, 3) := by decide +kernel
theorem dX5_init_8 : decode cX5_init 8 = .ok (.dup, 1) := by decide +kernel
theorem dX5_init_9 : decode cX5_init 9 = .ok (.invokespecial 9, 3) := by decide +kernel
theorem dX5_init_12 : decode cX5_init 12 = .ok (.putfield 10, 3) := by decide +kernel
theorem dX5_init_15 : decode cX5_init 15 = .ok (.aload_n 0, 1) := by decide +kernel
theorem dX5_init_16 : decode cX5_init 16 = .ok (.new 7, 3) := by decide +kernel
theorem dX5_init_19 : decode cX5_init 19 = .ok (.dup, 1) := by decide +kernel
theorem dX5_init_20 : decode cX5_init 20 = .ok (.invokespecial 9, 3) := by decide +kernel
theorem dX5_init_23 : decode cX5_init 23 = .ok (.putfield 16, 3) := by decide +kernel
theorem dX5_init_26 : decode cX5_init 26 = .ok (.aload_n 0, 1) := by decide +kernel
theorem dX5_init_27 : decode cX5_init 27 = .ok (.new 7, 3) := by decide +kernel
theorem dX5_init_30 : decode cX5_init 30 = .ok (.dup, 1) := by decide +kernel
theorem dX5_init_31 : decode cX5_init 31 = .ok (.invokespecial 9, 3) := by decide +kernel
theorem dX5_init_34 : decode cX5_init 34 = .ok (.putfield 19, 3) := by decide +kernel
theorem dX5_init_37 : decode cX5_init 37 = .ok (.aload_n 0, 1) := by decide +kernel
theorem dX5_init_38 : decode cX5_init 38 = .ok (.new 22, 3) := by decide +kernel
theorem dX5_init_41 : decode cX5_init 41 = .ok (.dup, 1) := by decide +kernel
theorem dX5_init_42 : decode cX5_init 42 = .ok (.invokespecial 24, 3) := by decide +kernel
theorem dX5_init_45 : decode cX5_init 45 = .ok (.putfield 25, 3) := by decide +kernel
theorem dX5_init_48 : decode cX5_init 48 = .ok (.aload_n 0, 1) := by decide +kernel
theorem dX5_init_49 : decode cX5_init 49 = .ok (.new 29, 3) := by decide +kernel
theorem dX5_init_52 : decode cX5_init 52 = .ok (.dup, 1) := by decide +kernel
theorem dX5_init_53 : decode cX5_init 53 = .ok (.invokespecial 31, 3) := by decide +kernel
theorem dX5_init_56 : decode cX5_init 56 = .ok (.putfield 32, 3) := by decide +kernel
theorem dX5_init_59 : decode cX5_init 59 = .ok (.aload_n 0, 1) := by decide +kernel
theorem dX5_init_60 : decode cX5_init 60 = .ok (.new 36, 3) := by decide +kernel
theorem dX5_init_63 : decode cX5_init 63 = .ok (.dup, 1) := by decide +kernel
theorem dX5_init_64 : decode cX5_init 64 = .ok (.invokespecial 38, 3) := by decide +kernel
theorem dX5_init_67 : decode cX5_init 67 = .ok (.putfield 39, 3) := by decide +kernel
theorem dX5_init_70 : decode cX5_init 70 = .ok (.aload_n 0, 1) := by decide +kernel
theorem dX5_init_71 : decode cX5_init 71 = .ok (.bipush 16, 2) := by decide +kernel
theorem dX5_init_73 : decode cX5_init 73 = .ok (.newarray .int, 2) := by decide +kernel
theorem dX5_init_75 : decode cX5_init 75 = .ok (.putfield 43, 3) := by decide +kernel
theorem dX5_init_78 : decode cX5_init 78 = .ok (.aload_n 0, 1) := by decide +kernel
theorem dX5_init_79 : decode cX5_init 79 = .ok (.bipush 7, 2) := by decide +kernel
theorem dX5_init_81 : decode cX5_init 81 = .ok (.newarray .int, 2) := by decide +kernel
theorem dX5_init_83 : decode cX5_init 83 = .ok (.putfield 47, 3) := by decide +kernel
theorem dX5_init_86 : decode cX5_init 86 = .ok (.aload_n 0, 1) := by decide +kernel
theorem dX5_init_87 : decode cX5_init 87 = .ok (.iconst 4, 1) := by decide +kernel
theorem dX5_init_88 : decode cX5_init 88 = .ok (.newarray .int, 2) := by decide +kernel
theorem dX5_init_90 : decode cX5_init 90 = .ok (.putfield 50, 3) := by decide +kernel
theorem dX5_init_93 : decode cX5_init 93 = .ok (.return_, 1) := by decide +kernel
theorem dX5_letter_0 : decode cX5_letter 0 = .ok (.iload_n 1, 1) := by decide +kernel
theorem dX5_letter_1 : decode cX5_letter 1 = .ok (.ifCond .ge 10, 3) := by decide +kernel
theorem dX5_letter_4 : decode cX5_letter 4 = .ok (.aload_n 0, 1) := by decide +kernel
theorem dX5_letter_5 : decode cX5_letter 5 = .ok (.bipush (-4), 2) := by decide +kernel
theorem dX5_letter_7 : decode cX5_letter 7 = .ok (.invokevirtual 53, 3) := by decide +kernel
theorem dX5_letter_10 : decode cX5_letter 10 = .ok (.ireturn, 1) := by decide +kernel
theorem dX5_letter_11 : decode cX5_letter 11 = .ok (.iload_n 1, 1) := by decide +kernel
theorem dX5_letter_12 : decode cX5_letter 12 = .ok (.sipush 255, 3) := by decide +kernel
theorem dX5_letter_15 : decode cX5_letter 15 = .ok (.if_icmp .gt 15, 3) := by decide +kernel
theorem dX5_letter_18 : decode cX5_letter 18 = .ok (.aload_n 0, 1) := by decide +kernel
theorem dX5_letter_19 : decode cX5_letter 19 = .ok (.getfield 39, 3) := by decide +kernel
theorem dX5_letter_22 : decode cX5_letter 22 = .ok (.getfield 57, 3) := by decide +kernel
theorem dX5_letter_25 : decode cX5_letter 25 = .ok (.bipush 96, 2) := by decide +kernel
theorem dX5_letter_27 : decode cX5_letter 27 = .ok (.if_icmp .lt 10, 3) := by decide +kernel
theorem dX5_letter_30 : decode cX5_letter 30 = .ok (.aload_n 0, 1) := by decide +kernel
theorem dX5_letter_31 : decode cX5_letter 31 = .ok (.bipush (-6), 2) := by decide +kernel
theorem dX5_letter_33 : decode cX5_letter 33 = .ok (.invokevirtual 53, 3) := by decide +kernel
theorem dX5_letter_36 : decode cX5_letter 36 = .ok (.ireturn, 1) := by decide +kernel
theorem dX5_letter_37 : decode cX5_letter 37 = .ok (.aload_n 0, 1) := by decide +kernel
theorem dX5_letter_38 : decode cX5_letter 38 = .ok (.getfield 39, 3) := by decide +kernel
theorem dX5_letter_41 : decode cX5_letter 41 = .ok (.iload_n 1, 1) := by decide +kernel
theorem dX5_letter_42 : decode cX5_letter 42 = .ok (.invokevirtual 61, 3) := by decide +kernel
theorem dX5_letter_45 : decode cX5_letter 45 = .ok (.ireturn, 1) := by decide +kernel
theorem dX5_core_0 : decode cX5_core 0 = .ok (.aload_n 0, 1) := by decide +kernel
theorem dX5_core_1 : decode cX5_core 1 = .ok (.invokevirtual 64, 3) := by decide +kernel
theorem dX5_core_4 : decode cX5_core 4 = .ok (.istore_n 1, 1) := by decide +kernel
theorem dX5_core_5 : decode cX5_core 5 = .ok (.iload_n 1, 1) := by decide +kernel
theorem dX5_core_6 : decode cX5_core 6 = .ok (.ifCond .lt 14, 3) := by decide +kernel
theorem dX5_core_9 : decode cX5_core 9 = .ok (.aload_n 0, 1) := by decide +kernel
theorem dX5_core_10 : decode cX5_core 10 = .ok (.getfield 10, 3) := by decide +kernel
theorem dX5_core_13 : decode cX5_core 13 = .ok (.aload_n 0, 1) := by decide +kernel
theorem dX5_core_14 : decode cX5_core 14 = .ok (.getfield 19, 3) := by decide +kernel
theorem dX5_core_17 : decode cX5_core 17 = .ok (.invokevirtual 68, 3) := by decide +kernel
theorem dX5_core_20 : decode cX5_core 20 = .ok (.aload_n 0, 1) := by decide +kernel
theorem dX5_core_21 : decode cX5_core 21 = .ok (.getfield 39, 3) := by decide +kernel
theorem dX5_core_24 : decode cX5_core 24 = .ok (.iconst 0, 1) := by decide +kernel
theorem dX5_core_25 : decode cX5_core 25 = .ok (.putfield 57, 3) := by decide +kernel
theorem dX5_core_28 : decode cX5_core 28 = .ok (.iload_n 1, 1) := by decide +kernel
theorem dX5_core_29 : decode cX5_core 29 = .ok (.ireturn, 1) := by decide +kernel
theorem dX5_cell_0 : decode cX5_cell 0 = .ok (.iload_n 1, 1) := by decide +kernel
theorem dX5_cell_1 : decode cX5_cell 1 = .ok (.invokestatic 72, 3) := by decide +kernel
theorem dX5_cell_4 : decode cX5_cell 4 = .ok (.ifCond .ne 9, 3) := by decide +kernel
theorem dX5_cell_7 : decode cX5_cell 7 = .ok (.aload_n 0, 1) := by decide +kernel
theorem dX5_cell_8 : decode cX5_cell 8 = .ok (.iconst (-1), 1) := by decide +kernel
theorem dX5_cell_9 : decode cX5_cell 9 = .ok (.invokevirtual 53, 3) := by decide +kernel
theorem dX5_cell_12 : decode cX5_cell 12 = .ok (.ireturn, 1) := by decide +kernel
theorem dX5_cell_13 : decode cX5_cell 13 = .ok (.iload_n 2, 1) := by decide +kernel
theorem dX5_cell_14 : decode cX5_cell 14 = .ok (.ifCond .lt 8, 3) := by decide +kernel
theorem dX5_cell_17 : decode cX5_cell 17 = .ok (.iload_n 2, 1) := by decide +kernel
theorem dX5_cell_18 : decode cX5_cell 18 = .ok (.iconst 2, 1) := by decide +kernel
theorem dX5_cell_19 : decode cX5_cell 19 = .ok (.if_icmp .le 10, 3) := by decide +kernel
theorem dX5_cell_22 : decode cX5_cell 22 = .ok (.aload_n 0, 1) := by decide +kernel
theorem dX5_cell_23 : decode cX5_cell 23 = .ok (.bipush (-2), 2) := by decide +kernel
theorem dX5_cell_25 : decode cX5_cell 25 = .ok (.invokevirtual 53, 3) := by decide +kernel
theorem dX5_cell_28 : decode cX5_cell 28 = .ok (.ireturn, 1) := by decide +kernel
theorem dX5_cell_29 : decode cX5_cell 29 = .ok (.iconst 1, 1) := by decide +kernel
theorem dX5_cell_30 : decode cX5_cell 30 = .ok (.iload_n 1, 1) := by decide +kernel
theorem dX5_cell_31 : decode cX5_cell 31 = .ok (.ishl, 1) := by decide +kernel
theorem dX5_cell_32 : decode cX5_cell 32 = .ok (.istore_n 3, 1) := by decide +kernel
theorem dX5_cell_33 : decode cX5_cell 33 = .ok (.iload_n 2, 1) := by decide +kernel
theorem dX5_cell_34 : decode cX5_cell 34 = .ok (.ifCond .ne 21, 3) := by decide +kernel
theorem dX5_cell_37 : decode cX5_cell 37 = .ok (.aload_n 0, 1) := by decide +kernel
theorem dX5_cell_38 : decode cX5_cell 38 = .ok (.getfield 10, 3) := by decide +kernel
theorem dX5_cell_41 : decode cX5_cell 41 = .ok (.getfield 76, 3) := by decide +kernel
theorem dX5_cell_44 : decode cX5_cell 44 = .ok (.iload_n 3, 1) := by decide +kernel
theorem dX5_cell_45 : decode cX5_cell 45 = .ok (.iand, 1) := by decide +kernel
theorem dX5_cell_46 : decode cX5_cell 46 = .ok (.ifCond .eq 7, 3) := by decide +kernel
theorem dX5_cell_49 : decode cX5_cell 49 = .ok (.iconst 1, 1) := by decide +kernel
theorem dX5_cell_50 : decode cX5_cell 50 = .ok (.goto 4, 3) := by decide +kernel
theorem dX5_cell_53 : decode cX5_cell 53 = .ok (.iconst 0, 1) := by decide +kernel
theorem dX5_cell_54 : decode cX5_cell 54 = .ok (.ireturn, 1) := by decide +kernel
theorem dX5_cell_55 : decode cX5_cell 55 = .ok (.iload_n 2, 1) := by decide +kernel
theorem dX5_cell_56 : decode cX5_cell 56 = .ok (.iconst 1, 1) := by decide +kernel
theorem dX5_cell_57 : decode cX5_cell 57 = .ok (.if_icmp .ne 19, 3) := by decide +kernel
theorem dX5_cell_60 : decode cX5_cell 60 = .ok (.iload_n 3, 1) := by decide +kernel
theorem dX5_cell_61 : decode cX5_cell 61 = .ok (.invokestatic 79, 3) := by decide +kernel
theorem dX5_cell_64 : decode cX5_cell 64 = .ok (.aload_n 0, 1) := by decide +kernel
theorem dX5_cell_65 : decode cX5_cell 65 = .ok (.getfield 10, 3) := by decide +kernel
theorem dX5_cell_68 : decode cX5_cell 68 = .ok (.getfield 76, 3) := by decide +kernel
theorem dX5_cell_71 : decode cX5_cell 71 = .ok (.iand, 1) := by decide +kernel
theorem dX5_cell_72 : decode cX5_cell 72 = .ok (.invokestatic 84, 3) := by decide +kernel
theorem dX5_cell_75 : decode cX5_cell 75 = .ok (.ireturn, 1) := by decide +kernel
theorem dX5_cell_76 : decode cX5_cell 76 = .ok (.iload_n 3, 1) := by decide +kernel
theorem dX5_cell_77 : decode cX5_cell 77 = .ok (.aload_n 0, 1) := by decide +kernel
theorem dX5_cell_78 : decode cX5_cell 78 = .ok (.getfield 10, 3) := by decide +kernel
theorem dX5_cell_81 : decode cX5_cell 81 = .ok (.getfield 76, 3) := by decide +kernel
theorem dX5_cell_84 : decode cX5_cell 84 = .ok (.invokestatic 89, 3) := by decide +kernel
theorem dX5_cell_87 : decode cX5_cell 87 = .ok (.invokestatic 84, 3) := by decide +kernel
theorem dX5_cell_90 : decode cX5_cell 90 = .ok (.ireturn, 1) := by decide +kernel
theorem dX5_heir_0 : decode cX5_heir 0 = .ok (.aload_n 0, 1) := by decide +kernel
theorem dX5_heir_1 : decode cX5_heir 1 = .ok (.iload_n 1, 1) := by decide +kernel
theorem dX5_heir_2 : decode cX5_heir 2 = .ok (.invokevirtual 93, 3) := by decide +kernel
theorem dX5_heir_5 : decode cX5_heir 5 = .ok (.ifCond .ne 9, 3) := by decide +kernel
theorem dX5_heir_8 : decode cX5_heir 8 = .ok (.aload_n 0, 1) := by decide +kernel
theorem dX5_heir_9 : decode cX5_heir 9 = .ok (.iconst (-1), 1) := by decide +kernel
theorem dX5_heir_10 : decode cX5_heir 10 = .ok (.invokevirtual 53, 3) := by decide +kernel
theorem dX5_heir_13 : decode cX5_heir 13 = .ok (.ireturn, 1) := by decide +kernel
theorem dX5_heir_14 : decode cX5_heir 14 = .ok (.iload_n 2, 1) := by decide +kernel
theorem dX5_heir_15 : decode cX5_heir 15 = .ok (.ifCond .lt 8, 3) := by decide +kernel
theorem dX5_heir_18 : decode cX5_heir 18 = .ok (.iload_n 2, 1) := by decide +kernel
theorem dX5_heir_19 : decode cX5_heir 19 = .ok (.iconst 2, 1) := by decide +kernel
theorem dX5_heir_20 : decode cX5_heir 20 = .ok (.if_icmp .le 10, 3) := by decide +kernel
theorem dX5_heir_23 : decode cX5_heir 23 = .ok (.aload_n 0, 1) := by decide +kernel
theorem dX5_heir_24 : decode cX5_heir 24 = .ok (.bipush (-2), 2) := by decide +kernel
theorem dX5_heir_26 : decode cX5_heir 26 = .ok (.invokevirtual 53, 3) := by decide +kernel
theorem dX5_heir_29 : decode cX5_heir 29 = .ok (.ireturn, 1) := by decide +kernel
theorem dX5_heir_30 : decode cX5_heir 30 = .ok (.iload_n 2, 1) := by decide +kernel
theorem dX5_heir_31 : decode cX5_heir 31 = .ok (.ifCond .ne 13, 3) := by decide +kernel
theorem dX5_heir_34 : decode cX5_heir 34 = .ok (.aload_n 0, 1) := by decide +kernel
theorem dX5_heir_35 : decode cX5_heir 35 = .ok (.getfield 10, 3) := by decide +kernel
theorem dX5_heir_38 : decode cX5_heir 38 = .ok (.getfield 96, 3) := by decide +kernel
theorem dX5_heir_41 : decode cX5_heir 41 = .ok (.iload_n 1, 1) := by decide +kernel
theorem dX5_heir_42 : decode cX5_heir 42 = .ok (.iaload, 1) := by decide +kernel
theorem dX5_heir_43 : decode cX5_heir 43 = .ok (.ireturn, 1) := by decide +kernel
theorem dX5_heir_44 : decode cX5_heir 44 = .ok (.iload_n 2, 1) := by decide +kernel
theorem dX5_heir_45 : decode cX5_heir 45 = .ok (.iconst 1, 1) := by decide +kernel
theorem dX5_heir_46 : decode cX5_heir 46 = .ok (.if_icmp .ne 13, 3) := by decide +kernel
theorem dX5_heir_49 : decode cX5_heir 49 = .ok (.aload_n 0, 1) := by decide +kernel
theorem dX5_heir_50 : decode cX5_heir 50 = .ok (.getfield 10, 3) := by decide +kernel
theorem dX5_heir_53 : decode cX5_heir 53 = .ok (.getfield 99, 3) := by decide +kernel
theorem dX5_heir_56 : decode cX5_heir 56 = .ok (.iload_n 1, 1) := by decide +kernel
theorem dX5_heir_57 : decode cX5_heir 57 = .ok (.iaload, 1) := by decide +kernel
theorem dX5_heir_58 : decode cX5_heir 58 = .ok (.ireturn, 1) := by decide +kernel
theorem dX5_heir_59 : decode cX5_heir 59 = .ok (.aload_n 0, 1) := by decide +kernel
theorem dX5_heir_60 : decode cX5_heir 60 = .ok (.iload_n 1, 1) := by decide +kernel
theorem dX5_heir_61 : decode cX5_heir 61 = .ok (.aload_n 0, 1) := by decide +kernel
theorem dX5_heir_62 : decode cX5_heir 62 = .ok (.getfield 10, 3) := by decide +kernel
theorem dX5_heir_65 : decode cX5_heir 65 = .ok (.getfield 76, 3) := by decide +kernel
theorem dX5_heir_68 : decode cX5_heir 68 = .ok (.invokevirtual 102, 3) := by decide +kernel
theorem dX5_heir_71 : decode cX5_heir 71 = .ok (.ireturn, 1) := by decide +kernel
theorem dX5_bites_0 : decode cX5_bites 0 = .ok (.iload_n 1, 1) := by decide +kernel
theorem dX5_bites_1 : decode cX5_bites 1 = .ok (.ifCond .lt 8, 3) := by decide +kernel
theorem dX5_bites_4 : decode cX5_bites 4 = .ok (.iload_n 1, 1) := by decide +kernel
theorem dX5_bites_5 : decode cX5_bites 5 = .ok (.iconst 4, 1) := by decide +kernel
theorem dX5_bites_6 : decode cX5_bites 6 = .ok (.if_icmp .lt 10, 3) := by decide +kernel
theorem dX5_bites_9 : decode cX5_bites 9 = .ok (.aload_n 0, 1) := by decide +kernel
theorem dX5_bites_10 : decode cX5_bites 10 = .ok (.bipush (-2), 2) := by decide +kernel
theorem dX5_bites_12 : decode cX5_bites 12 = .ok (.invokevirtual 53, 3) := by decide +kernel
theorem dX5_bites_15 : decode cX5_bites 15 = .ok (.ireturn, 1) := by decide +kernel
theorem dX5_bites_16 : decode cX5_bites 16 = .ok (.iload_n 2, 1) := by decide +kernel
theorem dX5_bites_17 : decode cX5_bites 17 = .ok (.invokestatic 72, 3) := by decide +kernel
theorem dX5_bites_20 : decode cX5_bites 20 = .ok (.ifCond .ne 9, 3) := by decide +kernel
theorem dX5_bites_23 : decode cX5_bites 23 = .ok (.aload_n 0, 1) := by decide +kernel
theorem dX5_bites_24 : decode cX5_bites 24 = .ok (.iconst (-1), 1) := by decide +kernel
theorem dX5_bites_25 : decode cX5_bites 25 = .ok (.invokevirtual 53, 3) := by decide +kernel
theorem dX5_bites_28 : decode cX5_bites 28 = .ok (.ireturn, 1) := by decide +kernel
theorem dX5_bites_29 : decode cX5_bites 29 = .ok (.aload_n 0, 1) := by decide +kernel
theorem dX5_bites_30 : decode cX5_bites 30 = .ok (.getfield 10, 3) := by decide +kernel
theorem dX5_bites_33 : decode cX5_bites 33 = .ok (.iload_n 1, 1) := by decide +kernel
theorem dX5_bites_34 : decode cX5_bites 34 = .ok (.iload_n 2, 1) := by decide +kernel
theorem dX5_bites_35 : decode cX5_bites 35 = .ok (.invokevirtual 105, 3) := by decide +kernel
theorem dX5_bites_38 : decode cX5_bites 38 = .ok (.ifCond .ne 10, 3) := by decide +kernel
theorem dX5_bites_41 : decode cX5_bites 41 = .ok (.aload_n 0, 1) := by decide +kernel
theorem dX5_bites_42 : decode cX5_bites 42 = .ok (.bipush (-3), 2) := by decide +kernel
theorem dX5_bites_44 : decode cX5_bites 44 = .ok (.invokevirtual 53, 3) := by decide +kernel
theorem dX5_bites_47 : decode cX5_bites 47 = .ok (.ireturn, 1) := by decide +kernel
theorem dX5_bites_48 : decode cX5_bites 48 = .ok (.aload_n 0, 1) := by decide +kernel
theorem dX5_bites_49 : decode cX5_bites 49 = .ok (.getfield 10, 3) := by decide +kernel
theorem dX5_bites_52 : decode cX5_bites 52 = .ok (.getfield 76, 3) := by decide +kernel
theorem dX5_bites_55 : decode cX5_bites 55 = .ok (.invokestatic 84, 3) := by decide +kernel
theorem dX5_bites_58 : decode cX5_bites 58 = .ok (.ireturn, 1) := by decide +kernel
theorem dX5_heals_0 : decode cX5_heals 0 = .ok (.iload_n 1, 1) := by decide +kernel
theorem dX5_heals_1 : decode cX5_heals 1 = .ok (.invokestatic 72, 3) := by decide +kernel
theorem dX5_heals_4 : decode cX5_heals 4 = .ok (.ifCond .ne 9, 3) := by decide +kernel
theorem dX5_heals_7 : decode cX5_heals 7 = .ok (.aload_n 0, 1) := by decide +kernel
theorem dX5_heals_8 : decode cX5_heals 8 = .ok (.iconst (-1), 1) := by decide +kernel
theorem dX5_heals_9 : decode cX5_heals 9 = .ok (.invokevirtual 53, 3) := by decide +kernel
theorem dX5_heals_12 : decode cX5_heals 12 = .ok (.ireturn, 1) := by decide +kernel
theorem dX5_heals_13 : decode cX5_heals 13 = .ok (.aload_n 0, 1) := by decide +kernel
theorem dX5_heals_14 : decode cX5_heals 14 = .ok (.iload_n 1, 1) := by decide +kernel
theorem dX5_heals_15 : decode cX5_heals 15 = .ok (.invokevirtual 109, 3) := by decide +kernel
theorem dX5_heals_18 : decode cX5_heals 18 = .ok (.ifCond .eq 10, 3) := by decide +kernel
theorem dX5_heals_21 : decode cX5_heals 21 = .ok (.aload_n 0, 1) := by decide +kernel
theorem dX5_heals_22 : decode cX5_heals 22 = .ok (.bipush (-3), 2) := by decide +kernel
theorem dX5_heals_24 : decode cX5_heals 24 = .ok (.invokevirtual 53, 3) := by decide +kernel
theorem dX5_heals_27 : decode cX5_heals 27 = .ok (.ireturn, 1) := by decide +kernel
theorem dX5_heals_28 : decode cX5_heals 28 = .ok (.aload_n 0, 1) := by decide +kernel
theorem dX5_heals_29 : decode cX5_heals 29 = .ok (.getfield 10, 3) := by decide +kernel
theorem dX5_heals_32 : decode cX5_heals 32 = .ok (.iload_n 1, 1) := by decide +kernel
theorem dX5_heals_33 : decode cX5_heals 33 = .ok (.invokevirtual 112, 3) := by decide +kernel
theorem dX5_heals_36 : decode cX5_heals 36 = .ok (.pop, 1) := by decide +kernel
theorem dX5_heals_37 : decode cX5_heals 37 = .ok (.aload_n 0, 1) := by decide +kernel
theorem dX5_heals_38 : decode cX5_heals 38 = .ok (.getfield 10, 3) := by decide +kernel
theorem dX5_heals_41 : decode cX5_heals 41 = .ok (.getfield 76, 3) := by decide +kernel
theorem dX5_heals_44 : decode cX5_heals 44 = .ok (.invokestatic 84, 3) := by decide +kernel
theorem dX5_heals_47 : decode cX5_heals 47 = .ok (.ireturn, 1) := by decide +kernel
theorem dX5_rolls_0 : decode cX5_rolls 0 = .ok (.iload_n 1, 1) := by decide +kernel
theorem dX5_rolls_1 : decode cX5_rolls 1 = .ok (.iconst 1, 1) := by decide +kernel
theorem dX5_rolls_2 : decode cX5_rolls 2 = .ok (.if_icmp .ge 10, 3) := by decide +kernel
theorem dX5_rolls_5 : decode cX5_rolls 5 = .ok (.aload_n 0, 1) := by decide +kernel
theorem dX5_rolls_6 : decode cX5_rolls 6 = .ok (.bipush (-4), 2) := by decide +kernel
theorem dX5_rolls_8 : decode cX5_rolls 8 = .ok (.invokevirtual 53, 3) := by decide +kernel
theorem dX5_rolls_11 : decode cX5_rolls 11 = .ok (.ireturn, 1) := by decide +kernel
theorem dX5_rolls_12 : decode cX5_rolls 12 = .ok (.iload_n 1, 1) := by decide +kernel
theorem dX5_rolls_13 : decode cX5_rolls 13 = .ok (.iconst 3, 1) := by decide +kernel
theorem dX5_rolls_14 : decode cX5_rolls 14 = .ok (.if_icmp .le 10, 3) := by decide +kernel
theorem dX5_rolls_17 : decode cX5_rolls 17 = .ok (.aload_n 0, 1) := by decide +kernel
theorem dX5_rolls_18 : decode cX5_rolls 18 = .ok (.bipush (-6), 2) := by decide +kernel
theorem dX5_rolls_20 : decode cX5_rolls 20 = .ok (.invokevirtual 53, 3) := by decide +kernel
theorem dX5_rolls_23 : decode cX5_rolls 23 = .ok (.ireturn, 1) := by decide +kernel
theorem dX5_rolls_24 : decode cX5_rolls 24 = .ok (.aload_n 0, 1) := by decide +kernel
theorem dX5_rolls_25 : decode cX5_rolls 25 = .ok (.getfield 10, 3) := by decide +kernel
theorem dX5_rolls_28 : decode cX5_rolls 28 = .ok (.iload_n 1, 1) := by decide +kernel
theorem dX5_rolls_29 : decode cX5_rolls 29 = .ok (.invokevirtual 115, 3) := by decide +kernel
theorem dX5_rolls_32 : decode cX5_rolls 32 = .ok (.pop, 1) := by decide +kernel
theorem dX5_rolls_33 : decode cX5_rolls 33 = .ok (.aload_n 0, 1) := by decide +kernel
theorem dX5_rolls_34 : decode cX5_rolls 34 = .ok (.getfield 10, 3) := by decide +kernel
theorem dX5_rolls_37 : decode cX5_rolls 37 = .ok (.getfield 76, 3) := by decide +kernel
theorem dX5_rolls_40 : decode cX5_rolls 40 = .ok (.invokestatic 84, 3) := by decide +kernel
theorem dX5_rolls_43 : decode cX5_rolls 43 = .ok (.ireturn, 1) := by decide +kernel
theorem dX5_turn_0 : decode cX5_turn 0 = .ok (.aload_n 0, 1) := by decide +kernel
theorem dX5_turn_1 : decode cX5_turn 1 = .ok (.iload_n 1, 1) := by decide +kernel
theorem dX5_turn_2 : decode cX5_turn 2 = .ok (.invokevirtual 93, 3) := by decide +kernel
theorem dX5_turn_5 : decode cX5_turn 5 = .ok (.ifCond .ne 9, 3) := by decide +kernel
theorem dX5_turn_8 : decode cX5_turn 8 = .ok (.aload_n 0, 1) := by decide +kernel
theorem dX5_turn_9 : decode cX5_turn 9 = .ok (.iconst (-1), 1) := by decide +kernel
theorem dX5_turn_10 : decode cX5_turn 10 = .ok (.invokevirtual 53, 3) := by decide +kernel
theorem dX5_turn_13 : decode cX5_turn 13 = .ok (.ireturn, 1) := by decide +kernel
theorem dX5_turn_14 : decode cX5_turn 14 = .ok (.iload_n 2, 1) := by decide +kernel
theorem dX5_turn_15 : decode cX5_turn 15 = .ok (.ifCond .lt 9, 3) := by decide +kernel
theorem dX5_turn_18 : decode cX5_turn 18 = .ok (.iload_n 2, 1) := by decide +kernel
theorem dX5_turn_19 : decode cX5_turn 19 = .ok (.bipush 6, 2) := by decide +kernel
theorem dX5_turn_21 : decode cX5_turn 21 = .ok (.if_icmp .lt 10, 3) := by decide +kernel
theorem dX5_turn_24 : decode cX5_turn 24 = .ok (.aload_n 0, 1) := by decide +kernel
theorem dX5_turn_25 : decode cX5_turn 25 = .ok (.bipush (-2), 2) := by decide +kernel
theorem dX5_turn_27 : decode cX5_turn 27 = .ok (.invokevirtual 53, 3) := by decide +kernel
theorem dX5_turn_30 : decode cX5_turn 30 = .ok (.ireturn, 1) := by decide +kernel
theorem dX5_turn_31 : decode cX5_turn 31 = .ok (.iload_n 3, 1) := by decide +kernel
theorem dX5_turn_32 : decode cX5_turn 32 = .ok (.ifCond .ge 10, 3) := by decide +kernel
theorem dX5_turn_35 : decode cX5_turn 35 = .ok (.aload_n 0, 1) := by decide +kernel
theorem dX5_turn_36 : decode cX5_turn 36 = .ok (.bipush (-4), 2) := by decide +kernel
theorem dX5_turn_38 : decode cX5_turn 38 = .ok (.invokevirtual 53, 3) := by decide +kernel
theorem dX5_turn_41 : decode cX5_turn 41 = .ok (.ireturn, 1) := by decide +kernel
theorem dX5_turn_42 : decode cX5_turn 42 = .ok (.iload_n 3, 1) := by decide +kernel
theorem dX5_turn_43 : decode cX5_turn 43 = .ok (.bipush 10, 2) := by decide +kernel
theorem dX5_turn_45 : decode cX5_turn 45 = .ok (.if_icmp .lt 10, 3) := by decide +kernel
theorem dX5_turn_48 : decode cX5_turn 48 = .ok (.aload_n 0, 1) := by decide +kernel
theorem dX5_turn_49 : decode cX5_turn 49 = .ok (.bipush (-6), 2) := by decide +kernel
theorem dX5_turn_51 : decode cX5_turn 51 = .ok (.invokevirtual 53, 3) := by decide +kernel
theorem dX5_turn_54 : decode cX5_turn 54 = .ok (.ireturn, 1) := by decide +kernel
theorem dX5_turn_55 : decode cX5_turn 55 = .ok (.bipush 10, 2) := by decide +kernel
theorem dX5_turn_57 : decode cX5_turn 57 = .ok (.aload_n 0, 1) := by decide +kernel
theorem dX5_turn_58 : decode cX5_turn 58 = .ok (.getfield 10, 3) := by decide +kernel
theorem dX5_turn_61 : decode cX5_turn 61 = .ok (.getfield 96, 3) := by decide +kernel
theorem dX5_turn_64 : decode cX5_turn 64 = .ok (.iload_n 1, 1) := by decide +kernel
theorem dX5_turn_65 : decode cX5_turn 65 = .ok (.iaload, 1) := by decide +kernel
theorem dX5_turn_66 : decode cX5_turn 66 = .ok (.imul, 1) := by decide +kernel
theorem dX5_turn_67 : decode cX5_turn 67 = .ok (.aload_n 0, 1) := by decide +kernel
theorem dX5_turn_68 : decode cX5_turn 68 = .ok (.getfield 10, 3) := by decide +kernel
theorem dX5_turn_71 : decode cX5_turn 71 = .ok (.getfield 99, 3) := by decide +kernel
theorem dX5_turn_74 : decode cX5_turn 74 = .ok (.iload_n 1, 1) := by decide +kernel
theorem dX5_turn_75 : decode cX5_turn 75 = .ok (.iaload, 1) := by decide +kernel
theorem dX5_turn_76 : decode cX5_turn 76 = .ok (.iadd, 1) := by decide +kernel
theorem dX5_turn_77 : decode cX5_turn 77 = .ok (.istore 4, 2) := by decide +kernel
theorem dX5_turn_79 : decode cX5_turn 79 = .ok (.aload_n 0, 1) := by decide +kernel
theorem dX5_turn_80 : decode cX5_turn 80 = .ok (.getfield 10, 3) := by decide +kernel
theorem dX5_turn_83 : decode cX5_turn 83 = .ok (.getfield 96, 3) := by decide +kernel
theorem dX5_turn_86 : decode cX5_turn 86 = .ok (.iload_n 1, 1) := by decide +kernel
theorem dX5_turn_87 : decode cX5_turn 87 = .ok (.iload_n 2, 1) := by decide +kernel
theorem dX5_turn_88 : decode cX5_turn 88 = .ok (.iastore, 1) := by decide +kernel
theorem dX5_turn_89 : decode cX5_turn 89 = .ok (.aload_n 0, 1) := by decide +kernel
theorem dX5_turn_90 : decode cX5_turn 90 = .ok (.getfield 10, 3) := by decide +kernel
theorem dX5_turn_93 : decode cX5_turn 93 = .ok (.getfield 99, 3) := by decide +kernel
theorem dX5_turn_96 : decode cX5_turn 96 = .ok (.iload_n 1, 1) := by decide +kernel
theorem dX5_turn_97 : decode cX5_turn 97 = .ok (.iload_n 3, 1) := by decide +kernel
theorem dX5_turn_98 : decode cX5_turn 98 = .ok (.iastore, 1) := by decide +kernel
theorem dX5_turn_99 : decode cX5_turn 99 = .ok (.iload 4, 2) := by decide +kernel
theorem dX5_turn_101 : decode cX5_turn 101 = .ok (.ireturn, 1) := by decide +kernel
theorem dX5_anew_0 : decode cX5_anew 0 = .ok (.aload_n 0, 1) := by decide +kernel
theorem dX5_anew_1 : decode cX5_anew 1 = .ok (.getfield 10, 3) := by decide +kernel
theorem dX5_anew_4 : decode cX5_anew 4 = .ok (.getfield 118, 3) := by decide +kernel
theorem dX5_anew_7 : decode cX5_anew 7 = .ok (.istore_n 1, 1) := by decide +kernel
theorem dX5_anew_8 : decode cX5_anew 8 = .ok (.aload_n 0, 1) := by decide +kernel
theorem dX5_anew_9 : decode cX5_anew 9 = .ok (.getfield 10, 3) := by decide +kernel
theorem dX5_anew_12 : decode cX5_anew 12 = .ok (.invokevirtual 121, 3) := by decide +kernel
theorem dX5_anew_15 : decode cX5_anew 15 = .ok (.pop, 1) := by decide +kernel
theorem dX5_anew_16 : decode cX5_anew 16 = .ok (.iload_n 1, 1) := by decide +kernel
theorem dX5_anew_17 : decode cX5_anew 17 = .ok (.ireturn, 1) := by decide +kernel
theorem dX5_shares_0 : decode cX5_shares 0 = .ok (.iload_n 1, 1) := by decide +kernel
theorem dX5_shares_1 : decode cX5_shares 1 = .ok (.invokestatic 125, 3) := by decide +kernel
theorem dX5_shares_4 : decode cX5_shares 4 = .ok (.ifCond .ne 10, 3) := by decide +kernel
theorem dX5_shares_7 : decode cX5_shares 7 = .ok (.aload_n 0, 1) := by decide +kernel
theorem dX5_shares_8 : decode cX5_shares 8 = .ok (.bipush (-2), 2) := by decide +kernel
theorem dX5_shares_10 : decode cX5_shares 10 = .ok (.invokevirtual 53, 3) := by decide +kernel
theorem dX5_shares_13 : decode cX5_shares 13 = .ok (.ireturn, 1) := by decide +kernel
theorem dX5_shares_14 : decode cX5_shares 14 = .ok (.iload_n 1, 1) := by decide +kernel
theorem dX5_shares_15 : decode cX5_shares 15 = .ok (.ifCond .ne 17, 3) := by decide +kernel
theorem dX5_shares_18 : decode cX5_shares 18 = .ok (.aload_n 0, 1) := by decide +kernel
theorem dX5_shares_19 : decode cX5_shares 19 = .ok (.aload_n 0, 1) := by decide +kernel
theorem dX5_shares_20 : decode cX5_shares 20 = .ok (.getfield 10, 3) := by decide +kernel
theorem dX5_shares_23 : decode cX5_shares 23 = .ok (.getfield 76, 3) := by decide +kernel
theorem dX5_shares_26 : decode cX5_shares 26 = .ok (.invokevirtual 128, 3) := by decide +kernel
theorem dX5_shares_29 : decode cX5_shares 29 = .ok (.goto 7, 3) := by decide +kernel
theorem dX5_shares_32 : decode cX5_shares 32 = .ok (.aload_n 0, 1) := by decide +kernel
theorem dX5_shares_33 : decode cX5_shares 33 = .ok (.invokevirtual 131, 3) := by decide +kernel
theorem dX5_shares_36 : decode cX5_shares 36 = .ok (.ireturn, 1) := by decide +kernel
theorem dX5_pieces_0 : decode cX5_pieces 0 = .ok (.iload_n 1, 1) := by decide +kernel
theorem dX5_pieces_1 : decode cX5_pieces 1 = .ok (.ifCond .lt 8, 3) := by decide +kernel
theorem dX5_pieces_4 : decode cX5_pieces 4 = .ok (.iload_n 1, 1) := by decide +kernel
theorem dX5_pieces_5 : decode cX5_pieces 5 = .ok (.iconst 3, 1) := by decide +kernel
theorem dX5_pieces_6 : decode cX5_pieces 6 = .ok (.if_icmp .le 10, 3) := by decide +kernel
theorem dX5_pieces_9 : decode cX5_pieces 9 = .ok (.aload_n 0, 1) := by decide +kernel
theorem dX5_pieces_10 : decode cX5_pieces 10 = .ok (.bipush (-2), 2) := by decide +kernel
theorem dX5_pieces_12 : decode cX5_pieces 12 = .ok (.invokevirtual 53, 3) := by decide +kernel
theorem dX5_pieces_15 : decode cX5_pieces 15 = .ok (.ireturn, 1) := by decide +kernel
theorem dX5_pieces_16 : decode cX5_pieces 16 = .ok (.aload_n 0, 1) := by decide +kernel
theorem dX5_pieces_17 : decode cX5_pieces 17 = .ok (.getfield 25, 3) := by decide +kernel
theorem dX5_pieces_20 : decode cX5_pieces 20 = .ok (.aload_n 0, 1) := by decide +kernel
theorem dX5_pieces_21 : decode cX5_pieces 21 = .ok (.getfield 10, 3) := by decide +kernel
theorem dX5_pieces_24 : decode cX5_pieces 24 = .ok (.getfield 76, 3) := by decide +kernel
theorem dX5_pieces_27 : decode cX5_pieces 27 = .ok (.invokevirtual 134, 3) := by decide +kernel
theorem dX5_pieces_30 : decode cX5_pieces 30 = .ok (.iload_n 1, 1) := by decide +kernel
theorem dX5_pieces_31 : decode cX5_pieces 31 = .ok (.ifCond .ne 11, 3) := by decide +kernel
theorem dX5_pieces_34 : decode cX5_pieces 34 = .ok (.aload_n 0, 1) := by decide +kernel
theorem dX5_pieces_35 : decode cX5_pieces 35 = .ok (.getfield 25, 3) := by decide +kernel
theorem dX5_pieces_38 : decode cX5_pieces 38 = .ok (.getfield 138, 3) := by decide +kernel
theorem dX5_pieces_41 : decode cX5_pieces 41 = .ok (.ireturn, 1) := by decide +kernel
theorem dX5_pieces_42 : decode cX5_pieces 42 = .ok (.iload_n 1, 1) := by decide +kernel
theorem dX5_pieces_43 : decode cX5_pieces 43 = .ok (.iconst 1, 1) := by decide +kernel
theorem dX5_pieces_44 : decode cX5_pieces 44 = .ok (.if_icmp .ne 11, 3) := by decide +kernel
theorem dX5_pieces_47 : decode cX5_pieces 47 = .ok (.aload_n 0, 1) := by decide +kernel
theorem dX5_pieces_48 : decode cX5_pieces 48 = .ok (.getfield 25, 3) := by decide +kernel
theorem dX5_pieces_51 : decode cX5_pieces 51 = .ok (.getfield 141, 3) := by decide +kernel
theorem dX5_pieces_54 : decode cX5_pieces 54 = .ok (.ireturn, 1) := by decide +kernel
theorem dX5_pieces_55 : decode cX5_pieces 55 = .ok (.aload_n 0, 1) := by decide +kernel
theorem dX5_pieces_56 : decode cX5_pieces 56 = .ok (.getfield 25, 3) := by decide +kernel
theorem dX5_pieces_59 : decode cX5_pieces 59 = .ok (.invokevirtual 144, 3) := by decide +kernel
theorem dX5_pieces_62 : decode cX5_pieces 62 = .ok (.ifCond .eq 6, 3) := by decide +kernel
theorem dX5_pieces_65 : decode cX5_pieces 65 = .ok (.bipush (-9), 2) := by decide +kernel
theorem dX5_pieces_67 : decode cX5_pieces 67 = .ok (.ireturn, 1) := by decide +kernel
theorem dX5_pieces_68 : decode cX5_pieces 68 = .ok (.iload_n 1, 1) := by decide +kernel
theorem dX5_pieces_69 : decode cX5_pieces 69 = .ok (.iconst 2, 1) := by decide +kernel
theorem dX5_pieces_70 : decode cX5_pieces 70 = .ok (.if_icmp .ne 16, 3) := by decide +kernel
theorem dX5_pieces_73 : decode cX5_pieces 73 = .ok (.aload_n 0, 1) := by decide +kernel
theorem dX5_pieces_74 : decode cX5_pieces 74 = .ok (.getfield 25, 3) := by decide +kernel
theorem dX5_pieces_77 : decode cX5_pieces 77 = .ok (.getfield 147, 3) := by decide +kernel
theorem dX5_pieces_80 : decode cX5_pieces 80 = .ok (.invokestatic 150, 3) := by decide +kernel
theorem dX5_pieces_83 : decode cX5_pieces 83 = .ok (.goto 13, 3) := by decide +kernel
theorem dX5_pieces_86 : decode cX5_pieces 86 = .ok (.aload_n 0, 1) := by decide +kernel
theorem dX5_pieces_87 : decode cX5_pieces 87 = .ok (.getfield 25, 3) := by decide +kernel
theorem dX5_pieces_90 : decode cX5_pieces 90 = .ok (.getfield 147, 3) := by decide +kernel
theorem dX5_pieces_93 : decode cX5_pieces 93 = .ok (.invokestatic 84, 3) := by decide +kernel
theorem dX5_pieces_96 : decode cX5_pieces 96 = .ok (.ireturn, 1) := by decide +kernel
theorem dX5_edge_0 : decode cX5_edge 0 = .ok (.iload_n 1, 1) := by decide +kernel
theorem dX5_edge_1 : decode cX5_edge 1 = .ok (.invokestatic 125, 3) := by decide +kernel
theorem dX5_edge_4 : decode cX5_edge 4 = .ok (.ifCond .ne 10, 3) := by decide +kernel
theorem dX5_edge_7 : decode cX5_edge 7 = .ok (.aload_n 0, 1) := by decide +kernel
theorem dX5_edge_8 : decode cX5_edge 8 = .ok (.bipush (-2), 2) := by decide +kernel
theorem dX5_edge_10 : decode cX5_edge 10 = .ok (.invokevirtual 53, 3) := by decide +kernel
theorem dX5_edge_13 : decode cX5_edge 13 = .ok (.ireturn, 1) := by decide +kernel
theorem dX5_edge_14 : decode cX5_edge 14 = .ok (.iload_n 1, 1) := by decide +kernel
theorem dX5_edge_15 : decode cX5_edge 15 = .ok (.ifCond .ne 16, 3) := by decide +kernel
theorem dX5_edge_18 : decode cX5_edge 18 = .ok (.aload_n 0, 1) := by decide +kernel
theorem dX5_edge_19 : decode cX5_edge 19 = .ok (.getfield 10, 3) := by decide +kernel
theorem dX5_edge_22 : decode cX5_edge 22 = .ok (.getfield 76, 3) := by decide +kernel
theorem dX5_edge_25 : decode cX5_edge 25 = .ok (.invokestatic 153, 3) := by decide +kernel
theorem dX5_edge_28 : decode cX5_edge 28 = .ok (.goto 13, 3) := by decide +kernel
theorem dX5_edge_31 : decode cX5_edge 31 = .ok (.aload_n 0, 1) := by decide +kernel
theorem dX5_edge_32 : decode cX5_edge 32 = .ok (.getfield 10, 3) := by decide +kernel
theorem dX5_edge_35 : decode cX5_edge 35 = .ok (.getfield 76, 3) := by decide +kernel
theorem dX5_edge_38 : decode cX5_edge 38 = .ok (.invokestatic 156, 3) := by decide +kernel
theorem dX5_edge_41 : decode cX5_edge 41 = .ok (.ireturn, 1) := by decide +kernel
theorem dX5_can_0 : decode cX5_can 0 = .ok (.iload_n 1, 1) := by decide +kernel
theorem dX5_can_1 : decode cX5_can 1 = .ok (.iconst (-1), 1) := by decide +kernel
theorem dX5_can_2 : decode cX5_can 2 = .ok (.if_icmp .lt 8, 3) := by decide +kernel
theorem dX5_can_5 : decode cX5_can 5 = .ok (.iload_n 1, 1) := by decide +kernel
theorem dX5_can_6 : decode cX5_can 6 = .ok (.iconst 4, 1) := by decide +kernel
theorem dX5_can_7 : decode cX5_can 7 = .ok (.if_icmp .lt 10, 3) := by decide +kernel
theorem dX5_can_10 : decode cX5_can 10 = .ok (.aload_n 0, 1) := by decide +kernel
theorem dX5_can_11 : decode cX5_can 11 = .ok (.bipush (-2), 2) := by decide +kernel
theorem dX5_can_13 : decode cX5_can 13 = .ok (.invokevirtual 53, 3) := by decide +kernel
theorem dX5_can_16 : decode cX5_can 16 = .ok (.ireturn, 1) := by decide +kernel
theorem dX5_can_17 : decode cX5_can 17 = .ok (.iload_n 1, 1) := by decide +kernel
theorem dX5_can_18 : decode cX5_can 18 = .ok (.ifCond .ge 7, 3) := by decide +kernel
theorem dX5_can_21 : decode cX5_can 21 = .ok (.iconst 0, 1) := by decide +kernel
theorem dX5_can_22 : decode cX5_can 22 = .ok (.goto 7, 3) := by decide +kernel
theorem dX5_can_25 : decode cX5_can 25 = .ok (.iload_n 1, 1) := by decide +kernel
theorem dX5_can_26 : decode cX5_can 26 = .ok (.bipush 25, 2) := by decide +kernel
theorem dX5_can_28 : decode cX5_can 28 = .ok (.imul, 1) := by decide +kernel
theorem dX5_can_29 : decode cX5_can 29 = .ok (.istore_n 2, 1) := by decide +kernel
theorem dX5_can_30 : decode cX5_can 30 = .ok (.iload_n 1, 1) := by decide +kernel
theorem dX5_can_31 : decode cX5_can 31 = .ok (.ifCond .ge 8, 3) := by decide +kernel
theorem dX5_can_34 : decode cX5_can 34 = .ok (.bipush 100, 2) := by decide +kernel
theorem dX5_can_36 : decode cX5_can 36 = .ok (.goto 7, 3) := by decide +kernel
theorem dX5_can_39 : decode cX5_can 39 = .ok (.iload_n 2, 1) := by decide +kernel
theorem dX5_can_40 : decode cX5_can 40 = .ok (.bipush 25, 2) := by decide +kernel
theorem dX5_can_42 : decode cX5_can 42 = .ok (.iadd, 1) := by decide +kernel
theorem dX5_can_43 : decode cX5_can 43 = .ok (.istore_n 3, 1) := by decide +kernel
theorem dX5_can_44 : decode cX5_can 44 = .ok (.iconst 0, 1) := by decide +kernel
theorem dX5_can_45 : decode cX5_can 45 = .ok (.istore 4, 2) := by decide +kernel
theorem dX5_can_47 : decode cX5_can 47 = .ok (.iload_n 2, 1) := by decide +kernel
theorem dX5_can_48 : decode cX5_can 48 = .ok (.istore 5, 2) := by decide +kernel
theorem dX5_can_50 : decode cX5_can 50 = .ok (.iload 5, 2) := by decide +kernel
theorem dX5_can_52 : decode cX5_can 52 = .ok (.iload_n 3, 1) := by decide +kernel
theorem dX5_can_53 : decode cX5_can 53 = .ok (.if_icmp .ge 34, 3) := by decide +kernel
theorem dX5_can_56 : decode cX5_can 56 = .ok (.iload 5, 2) := by decide +kernel
theorem dX5_can_58 : decode cX5_can 58 = .ok (.aload_n 0, 1) := by decide +kernel
theorem dX5_can_59 : decode cX5_can 59 = .ok (.getfield 10, 3) := by decide +kernel
theorem dX5_can_62 : decode cX5_can 62 = .ok (.getfield 76, 3) := by decide +kernel
theorem dX5_can_65 : decode cX5_can 65 = .ok (.invokestatic 159, 3) := by decide +kernel
theorem dX5_can_68 : decode cX5_can 68 = .ok (.aload_n 0, 1) := by decide +kernel
theorem dX5_can_69 : decode cX5_can 69 = .ok (.getfield 10, 3) := by decide +kernel
theorem dX5_can_72 : decode cX5_can 72 = .ok (.getfield 76, 3) := by decide +kernel
theorem dX5_can_75 : decode cX5_can 75 = .ok (.if_icmp .eq 6, 3) := by decide +kernel
theorem dX5_can_78 : decode cX5_can 78 = .ok (.iinc 4 1, 3) := by decide +kernel
theorem dX5_can_81 : decode cX5_can 81 = .ok (.iinc 5 1, 3) := by decide +kernel
theorem dX5_can_84 : decode cX5_can 84 = .ok (.goto (-34), 3) := by decide +kernel
theorem dX5_can_87 : decode cX5_can 87 = .ok (.iload 4, 2) := by decide +kernel
theorem dX5_can_89 : decode cX5_can 89 = .ok (.ireturn, 1) := by decide +kernel
theorem dX5_ways_0 : decode cX5_ways 0 = .ok (.iload_n 1, 1) := by decide +kernel
theorem dX5_ways_1 : decode cX5_ways 1 = .ok (.invokestatic 125, 3) := by decide +kernel
theorem dX5_ways_4 : decode cX5_ways 4 = .ok (.ifCond .ne 10, 3) := by decide +kernel
theorem dX5_ways_7 : decode cX5_ways 7 = .ok (.aload_n 0, 1) := by decide +kernel
theorem dX5_ways_8 : decode cX5_ways 8 = .ok (.bipush (-2), 2) := by decide +kernel
theorem dX5_ways_10 : decode cX5_ways 10 = .ok (.invokevirtual 53, 3) := by decide +kernel
theorem dX5_ways_13 : decode cX5_ways 13 = .ok (.ireturn, 1) := by decide +kernel
theorem dX5_ways_14 : decode cX5_ways 14 = .ok (.aload_n 0, 1) := by decide +kernel
theorem dX5_ways_15 : decode cX5_ways 15 = .ok (.getfield 32, 3) := by decide +kernel
theorem dX5_ways_18 : decode cX5_ways 18 = .ok (.aload_n 0, 1) := by decide +kernel
theorem dX5_ways_19 : decode cX5_ways 19 = .ok (.getfield 10, 3) := by decide +kernel
theorem dX5_ways_22 : decode cX5_ways 22 = .ok (.getfield 76, 3) := by decide +kernel
theorem dX5_ways_25 : decode cX5_ways 25 = .ok (.invokevirtual 162, 3) := by decide +kernel
theorem dX5_ways_28 : decode cX5_ways 28 = .ok (.iload_n 1, 1) := by decide +kernel
theorem dX5_ways_29 : decode cX5_ways 29 = .ok (.ifCond .ne 13, 3) := by decide +kernel
theorem dX5_ways_32 : decode cX5_ways 32 = .ok (.aload_n 0, 1) := by decide +kernel
theorem dX5_ways_33 : decode cX5_ways 33 = .ok (.getfield 32, 3) := by decide +kernel
theorem dX5_ways_36 : decode cX5_ways 36 = .ok (.invokevirtual 165, 3) := by decide +kernel
theorem dX5_ways_39 : decode cX5_ways 39 = .ok (.goto 10, 3) := by decide +kernel
theorem dX5_ways_42 : decode cX5_ways 42 = .ok (.aload_n 0, 1) := by decide +kernel
theorem dX5_ways_43 : decode cX5_ways 43 = .ok (.getfield 32, 3) := by decide +kernel
theorem dX5_ways_46 : decode cX5_ways 46 = .ok (.invokevirtual 168, 3) := by decide +kernel
theorem dX5_ways_49 : decode cX5_ways 49 = .ok (.ireturn, 1) := by decide +kernel
theorem dX5_alike_0 : decode cX5_alike 0 = .ok (.iload_n 1, 1) := by decide +kernel
theorem dX5_alike_1 : decode cX5_alike 1 = .ok (.invokestatic 125, 3) := by decide +kernel
theorem dX5_alike_4 : decode cX5_alike 4 = .ok (.ifCond .ne 10, 3) := by decide +kernel
theorem dX5_alike_7 : decode cX5_alike 7 = .ok (.aload_n 0, 1) := by decide +kernel
theorem dX5_alike_8 : decode cX5_alike 8 = .ok (.bipush (-2), 2) := by decide +kernel
theorem dX5_alike_10 : decode cX5_alike 10 = .ok (.invokevirtual 53, 3) := by decide +kernel
theorem dX5_alike_13 : decode cX5_alike 13 = .ok (.ireturn, 1) := by decide +kernel
theorem dX5_alike_14 : decode cX5_alike 14 = .ok (.aload_n 0, 1) := by decide +kernel
theorem dX5_alike_15 : decode cX5_alike 15 = .ok (.getfield 10, 3) := by decide +kernel
theorem dX5_alike_18 : decode cX5_alike 18 = .ok (.getfield 76, 3) := by decide +kernel
theorem dX5_alike_21 : decode cX5_alike 21 = .ok (.invokestatic 171, 3) := by decide +kernel
theorem dX5_alike_24 : decode cX5_alike 24 = .ok (.istore_n 2, 1) := by decide +kernel
theorem dX5_alike_25 : decode cX5_alike 25 = .ok (.iload_n 2, 1) := by decide +kernel
theorem dX5_alike_26 : decode cX5_alike 26 = .ok (.invokestatic 171, 3) := by decide +kernel
theorem dX5_alike_29 : decode cX5_alike 29 = .ok (.istore_n 3, 1) := by decide +kernel
theorem dX5_alike_30 : decode cX5_alike 30 = .ok (.iload_n 3, 1) := by decide +kernel
theorem dX5_alike_31 : decode cX5_alike 31 = .ok (.invokestatic 171, 3) := by decide +kernel
theorem dX5_alike_34 : decode cX5_alike 34 = .ok (.istore 4, 2) := by decide +kernel
theorem dX5_alike_36 : decode cX5_alike 36 = .ok (.iload_n 1, 1) := by decide +kernel
theorem dX5_alike_37 : decode cX5_alike 37 = .ok (.iconst 1, 1) := by decide +kernel
theorem dX5_alike_38 : decode cX5_alike 38 = .ok (.if_icmp .ne 24, 3) := by decide +kernel
theorem dX5_alike_41 : decode cX5_alike 41 = .ok (.aload_n 0, 1) := by decide +kernel
theorem dX5_alike_42 : decode cX5_alike 42 = .ok (.getfield 10, 3) := by decide +kernel
theorem dX5_alike_45 : decode cX5_alike 45 = .ok (.getfield 76, 3) := by decide +kernel
theorem dX5_alike_48 : decode cX5_alike 48 = .ok (.iload_n 2, 1) := by decide +kernel
theorem dX5_alike_49 : decode cX5_alike 49 = .ok (.invokestatic 174, 3) := by decide +kernel
theorem dX5_alike_52 : decode cX5_alike 52 = .ok (.iload_n 3, 1) := by decide +kernel
theorem dX5_alike_53 : decode cX5_alike 53 = .ok (.iload 4, 2) := by decide +kernel
theorem dX5_alike_55 : decode cX5_alike 55 = .ok (.invokestatic 174, 3) := by decide +kernel
theorem dX5_alike_58 : decode cX5_alike 58 = .ok (.invokestatic 174, 3) := by decide +kernel
theorem dX5_alike_61 : decode cX5_alike 61 = .ok (.ireturn, 1) := by decide +kernel
theorem dX5_alike_62 : decode cX5_alike 62 = .ok (.iload_n 2, 1) := by decide +kernel
theorem dX5_alike_63 : decode cX5_alike 63 = .ok (.aload_n 0, 1) := by decide +kernel
theorem dX5_alike_64 : decode cX5_alike 64 = .ok (.getfield 10, 3) := by decide +kernel
theorem dX5_alike_67 : decode cX5_alike 67 = .ok (.getfield 76, 3) := by decide +kernel
theorem dX5_alike_70 : decode cX5_alike 70 = .ok (.if_icmp .ne 5, 3) := by decide +kernel
theorem dX5_alike_73 : decode cX5_alike 73 = .ok (.iconst 1, 1) := by decide +kernel
theorem dX5_alike_74 : decode cX5_alike 74 = .ok (.ireturn, 1) := by decide +kernel
theorem dX5_alike_75 : decode cX5_alike 75 = .ok (.iload_n 3, 1) := by decide +kernel
theorem dX5_alike_76 : decode cX5_alike 76 = .ok (.aload_n 0, 1) := by decide +kernel
theorem dX5_alike_77 : decode cX5_alike 77 = .ok (.getfield 10, 3) := by decide +kernel
theorem dX5_alike_80 : decode cX5_alike 80 = .ok (.getfield 76, 3) := by decide +kernel
theorem dX5_alike_83 : decode cX5_alike 83 = .ok (.if_icmp .ne 7, 3) := by decide +kernel
theorem dX5_alike_86 : decode cX5_alike 86 = .ok (.iconst 2, 1) := by decide +kernel
theorem dX5_alike_87 : decode cX5_alike 87 = .ok (.goto 4, 3) := by decide +kernel
theorem dX5_alike_90 : decode cX5_alike 90 = .ok (.iconst 4, 1) := by decide +kernel
theorem dX5_alike_91 : decode cX5_alike 91 = .ok (.ireturn, 1) := by decide +kernel
theorem dX5_settles_0 : decode cX5_settles 0 = .ok (.iload_n 1, 1) := by decide +kernel
theorem dX5_settles_1 : decode cX5_settles 1 = .ok (.invokestatic 125, 3) := by decide +kernel
theorem dX5_settles_4 : decode cX5_settles 4 = .ok (.ifCond .ne 10, 3) := by decide +kernel
theorem dX5_settles_7 : decode cX5_settles 7 = .ok (.aload_n 0, 1) := by decide +kernel
theorem dX5_settles_8 : decode cX5_settles 8 = .ok (.bipush (-2), 2) := by decide +kernel
theorem dX5_settles_10 : decode cX5_settles 10 = .ok (.invokevirtual 53, 3) := by decide +kernel
theorem dX5_settles_13 : decode cX5_settles 13 = .ok (.ireturn, 1) := by decide +kernel
theorem dX5_settles_14 : decode cX5_settles 14 = .ok (.aload_n 0, 1) := by decide +kernel
theorem dX5_settles_15 : decode cX5_settles 15 = .ok (.aload_n 0, 1) := by decide +kernel
theorem dX5_settles_16 : decode cX5_settles 16 = .ok (.getfield 10, 3) := by decide +kernel
theorem dX5_settles_19 : decode cX5_settles 19 = .ok (.getfield 76, 3) := by decide +kernel
theorem dX5_settles_22 : decode cX5_settles 22 = .ok (.invokevirtual 179, 3) := by decide +kernel
theorem dX5_settles_25 : decode cX5_settles 25 = .ok (.ifCond .eq 14, 3) := by decide +kernel
theorem dX5_settles_28 : decode cX5_settles 28 = .ok (.iload_n 1, 1) := by decide +kernel
theorem dX5_settles_29 : decode cX5_settles 29 = .ok (.ifCond .ne 7, 3) := by decide +kernel
theorem dX5_settles_32 : decode cX5_settles 32 = .ok (.iconst 0, 1) := by decide +kernel
theorem dX5_settles_33 : decode cX5_settles 33 = .ok (.goto 5, 3) := by decide +kernel
theorem dX5_settles_36 : decode cX5_settles 36 = .ok (.bipush (-9), 2) := by decide +kernel
theorem dX5_settles_38 : decode cX5_settles 38 = .ok (.ireturn, 1) := by decide +kernel
theorem dX5_settles_39 : decode cX5_settles 39 = .ok (.aload_n 0, 1) := by decide +kernel
theorem dX5_settles_40 : decode cX5_settles 40 = .ok (.aload_n 0, 1) := by decide +kernel
theorem dX5_settles_41 : decode cX5_settles 41 = .ok (.getfield 10, 3) := by decide +kernel
theorem dX5_settles_44 : decode cX5_settles 44 = .ok (.getfield 76, 3) := by decide +kernel
theorem dX5_settles_47 : decode cX5_settles 47 = .ok (.iconst 0, 1) := by decide +kernel
theorem dX5_settles_48 : decode cX5_settles 48 = .ok (.invokevirtual 182, 3) := by decide +kernel
theorem dX5_settles_51 : decode cX5_settles 51 = .ok (.istore_n 2, 1) := by decide +kernel
theorem dX5_settles_52 : decode cX5_settles 52 = .ok (.iload_n 2, 1) := by decide +kernel
theorem dX5_settles_53 : decode cX5_settles 53 = .ok (.bipush (-9), 2) := by decide +kernel
theorem dX5_settles_55 : decode cX5_settles 55 = .ok (.if_icmp .eq 13, 3) := by decide +kernel
theorem dX5_settles_58 : decode cX5_settles 58 = .ok (.iload_n 1, 1) := by decide +kernel
theorem dX5_settles_59 : decode cX5_settles 59 = .ok (.ifCond .ne 7, 3) := by decide +kernel
theorem dX5_settles_62 : decode cX5_settles 62 = .ok (.iconst 1, 1) := by decide +kernel
theorem dX5_settles_63 : decode cX5_settles 63 = .ok (.goto 4, 3) := by decide +kernel
theorem dX5_settles_66 : decode cX5_settles 66 = .ok (.iload_n 2, 1) := by decide +kernel
theorem dX5_settles_67 : decode cX5_settles 67 = .ok (.ireturn, 1) := by decide +kernel
theorem dX5_settles_68 : decode cX5_settles 68 = .ok (.aload_n 0, 1) := by decide +kernel
theorem dX5_settles_69 : decode cX5_settles 69 = .ok (.invokevirtual 185, 3) := by decide +kernel
theorem dX5_settles_72 : decode cX5_settles 72 = .ok (.istore_n 3, 1) := by decide +kernel
theorem dX5_settles_73 : decode cX5_settles 73 = .ok (.iload_n 3, 1) := by decide +kernel
theorem dX5_settles_74 : decode cX5_settles 74 = .ok (.bipush (-9), 2) := by decide +kernel
theorem dX5_settles_76 : decode cX5_settles 76 = .ok (.if_icmp .eq 13, 3) := by decide +kernel
theorem dX5_settles_79 : decode cX5_settles 79 = .ok (.iload_n 1, 1) := by decide +kernel
theorem dX5_settles_80 : decode cX5_settles 80 = .ok (.ifCond .ne 7, 3) := by decide +kernel
theorem dX5_settles_83 : decode cX5_settles 83 = .ok (.iconst 2, 1) := by decide +kernel
theorem dX5_settles_84 : decode cX5_settles 84 = .ok (.goto 4, 3) := by decide +kernel
theorem dX5_settles_87 : decode cX5_settles 87 = .ok (.iload_n 3, 1) := by decide +kernel
theorem dX5_settles_88 : decode cX5_settles 88 = .ok (.ireturn, 1) := by decide +kernel
theorem dX5_settles_89 : decode cX5_settles 89 = .ok (.bipush (-9), 2) := by decide +kernel
theorem dX5_settles_91 : decode cX5_settles 91 = .ok (.ireturn, 1) := by decide +kernel
theorem dX5_pips_0 : decode cX5_pips 0 = .ok (.iload_n 1, 1) := by decide +kernel
theorem dX5_pips_1 : decode cX5_pips 1 = .ok (.invokestatic 125, 3) := by decide +kernel
theorem dX5_pips_4 : decode cX5_pips 4 = .ok (.ifCond .ne 10, 3) := by decide +kernel
theorem dX5_pips_7 : decode cX5_pips 7 = .ok (.aload_n 0, 1) := by decide +kernel
theorem dX5_pips_8 : decode cX5_pips 8 = .ok (.bipush (-2), 2) := by decide +kernel
theorem dX5_pips_10 : decode cX5_pips 10 = .ok (.invokevirtual 53, 3) := by decide +kernel
theorem dX5_pips_13 : decode cX5_pips 13 = .ok (.ireturn, 1) := by decide +kernel
theorem dX5_pips_14 : decode cX5_pips 14 = .ok (.aload_n 0, 1) := by decide +kernel
theorem dX5_pips_15 : decode cX5_pips 15 = .ok (.getfield 10, 3) := by decide +kernel
theorem dX5_pips_18 : decode cX5_pips 18 = .ok (.getfield 76, 3) := by decide +kernel
theorem dX5_pips_21 : decode cX5_pips 21 = .ok (.iload_n 1, 1) := by decide +kernel
theorem dX5_pips_22 : decode cX5_pips 22 = .ok (.ifCond .ne 9, 3) := by decide +kernel
theorem dX5_pips_25 : decode cX5_pips 25 = .ok (.sipush 14336, 3) := by decide +kernel
theorem dX5_pips_28 : decode cX5_pips 28 = .ok (.goto 4, 3) := by decide +kernel
theorem dX5_pips_31 : decode cX5_pips 31 = .ok (.iconst 4, 1) := by decide +kernel
theorem dX5_pips_32 : decode cX5_pips 32 = .ok (.iand, 1) := by decide +kernel
theorem dX5_pips_33 : decode cX5_pips 33 = .ok (.invokestatic 84, 3) := by decide +kernel
theorem dX5_pips_36 : decode cX5_pips 36 = .ok (.ireturn, 1) := by decide +kernel
theorem dX5_join_0 : decode cX5_join 0 = .ok (.iload_n 1, 1) := by decide +kernel
theorem dX5_join_1 : decode cX5_join 1 = .ok (.invokestatic 72, 3) := by decide +kernel
theorem dX5_join_4 : decode cX5_join 4 = .ok (.ifCond .ne 9, 3) := by decide +kernel
theorem dX5_join_7 : decode cX5_join 7 = .ok (.aload_n 0, 1) := by decide +kernel
theorem dX5_join_8 : decode cX5_join 8 = .ok (.iconst (-1), 1) := by decide +kernel
theorem dX5_join_9 : decode cX5_join 9 = .ok (.invokevirtual 53, 3) := by decide +kernel
theorem dX5_join_12 : decode cX5_join 12 = .ok (.ireturn, 1) := by decide +kernel
theorem dX5_join_13 : decode cX5_join 13 = .ok (.aload_n 0, 1) := by decide +kernel
theorem dX5_join_14 : decode cX5_join 14 = .ok (.iload_n 1, 1) := by decide +kernel
theorem dX5_join_15 : decode cX5_join 15 = .ok (.invokevirtual 109, 3) := by decide +kernel
theorem dX5_join_18 : decode cX5_join 18 = .ok (.ifCond .eq 10, 3) := by decide +kernel
theorem dX5_join_21 : decode cX5_join 21 = .ok (.aload_n 0, 1) := by decide +kernel
theorem dX5_join_22 : decode cX5_join 22 = .ok (.bipush (-3), 2) := by decide +kernel
theorem dX5_join_24 : decode cX5_join 24 = .ok (.invokevirtual 53, 3) := by decide +kernel
theorem dX5_join_27 : decode cX5_join 27 = .ok (.ireturn, 1) := by decide +kernel
theorem dX5_join_28 : decode cX5_join 28 = .ok (.aload_n 0, 1) := by decide +kernel
theorem dX5_join_29 : decode cX5_join 29 = .ok (.getfield 10, 3) := by decide +kernel
theorem dX5_join_32 : decode cX5_join 32 = .ok (.getfield 76, 3) := by decide +kernel
theorem dX5_join_35 : decode cX5_join 35 = .ok (.iconst 1, 1) := by decide +kernel
theorem dX5_join_36 : decode cX5_join 36 = .ok (.iload_n 1, 1) := by decide +kernel
theorem dX5_join_37 : decode cX5_join 37 = .ok (.ishl, 1) := by decide +kernel
theorem dX5_join_38 : decode cX5_join 38 = .ok (.ior, 1) := by decide +kernel
theorem dX5_join_39 : decode cX5_join 39 = .ok (.invokestatic 188, 3) := by decide +kernel
theorem dX5_join_42 : decode cX5_join 42 = .ok (.ireturn, 1) := by decide +kernel
theorem dX5_bridge_0 : decode cX5_bridge 0 = .ok (.iload_n 1, 1) := by decide +kernel
theorem dX5_bridge_1 : decode cX5_bridge 1 = .ok (.ifCond .lt 8, 3) := by decide +kernel
theorem dX5_bridge_4 : decode cX5_bridge 4 = .ok (.iload_n 1, 1) := by decide +kernel
theorem dX5_bridge_5 : decode cX5_bridge 5 = .ok (.iconst 2, 1) := by decide +kernel
theorem dX5_bridge_6 : decode cX5_bridge 6 = .ok (.if_icmp .le 10, 3) := by decide +kernel
theorem dX5_bridge_9 : decode cX5_bridge 9 = .ok (.aload_n 0, 1) := by decide +kernel
theorem dX5_bridge_10 : decode cX5_bridge 10 = .ok (.bipush (-2), 2) := by decide +kernel
theorem dX5_bridge_12 : decode cX5_bridge 12 = .ok (.invokevirtual 53, 3) := by decide +kernel
theorem dX5_bridge_15 : decode cX5_bridge 15 = .ok (.ireturn, 1) := by decide +kernel
theorem dX5_bridge_16 : decode cX5_bridge 16 = .ok (.iload_n 1, 1) := by decide +kernel
theorem dX5_bridge_17 : decode cX5_bridge 17 = .ok (.iconst 2, 1) := by decide +kernel
theorem dX5_bridge_18 : decode cX5_bridge 18 = .ok (.if_icmp .ne 14, 3) := by decide +kernel
theorem dX5_bridge_21 : decode cX5_bridge 21 = .ok (.aload_n 0, 1) := by decide +kernel
theorem dX5_bridge_22 : decode cX5_bridge 22 = .ok (.getfield 10, 3) := by decide +kernel
theorem dX5_bridge_25 : decode cX5_bridge 25 = .ok (.getfield 76, 3) := by decide +kernel
theorem dX5_bridge_28 : decode cX5_bridge 28 = .ok (.invokestatic 191, 3) := by decide +kernel
theorem dX5_bridge_31 : decode cX5_bridge 31 = .ok (.ireturn, 1) := by decide +kernel
theorem dX5_bridge_32 : decode cX5_bridge 32 = .ok (.aload_n 0, 1) := by decide +kernel
theorem dX5_bridge_33 : decode cX5_bridge 33 = .ok (.getfield 10, 3) := by decide +kernel
theorem dX5_bridge_36 : decode cX5_bridge 36 = .ok (.getfield 76, 3) := by decide +kernel
theorem dX5_bridge_39 : decode cX5_bridge 39 = .ok (.invokestatic 194, 3) := by decide +kernel
theorem dX5_bridge_42 : decode cX5_bridge 42 = .ok (.istore_n 2, 1) := by decide +kernel
theorem dX5_bridge_43 : decode cX5_bridge 43 = .ok (.iload_n 1, 1) := by decide +kernel
theorem dX5_bridge_44 : decode cX5_bridge 44 = .ok (.ifCond .ne 8, 3) := by decide +kernel
theorem dX5_bridge_47 : decode cX5_bridge 47 = .ok (.iload_n 2, 1) := by decide +kernel
theorem dX5_bridge_48 : decode cX5_bridge 48 = .ok (.invokestatic 84, 3) := by decide +kernel
theorem dX5_bridge_51 : decode cX5_bridge 51 = .ok (.ireturn, 1) := by decide +kernel
theorem dX5_bridge_52 : decode cX5_bridge 52 = .ok (.iload_n 2, 1) := by decide +kernel
theorem dX5_bridge_53 : decode cX5_bridge 53 = .ok (.ifCond .ne 8, 3) := by decide +kernel
theorem dX5_bridge_56 : decode cX5_bridge 56 = .ok (.bipush (-9), 2) := by decide +kernel
theorem dX5_bridge_58 : decode cX5_bridge 58 = .ok (.goto 7, 3) := by decide +kernel
theorem dX5_bridge_61 : decode cX5_bridge 61 = .ok (.iload_n 2, 1) := by decide +kernel
theorem dX5_bridge_62 : decode cX5_bridge 62 = .ok (.invokestatic 150, 3) := by decide +kernel
theorem dX5_bridge_65 : decode cX5_bridge 65 = .ok (.ireturn, 1) := by decide +kernel
theorem dX5_best_0 : decode cX5_best 0 = .ok (.aload_n 0, 1) := by decide +kernel
theorem dX5_best_1 : decode cX5_best 1 = .ok (.iload_n 1, 1) := by decide +kernel
theorem dX5_best_2 : decode cX5_best 2 = .ok (.invokevirtual 93, 3) := by decide +kernel
theorem dX5_best_5 : decode cX5_best 5 = .ok (.ifCond .ne 9, 3) := by decide +kernel
theorem dX5_best_8 : decode cX5_best 8 = .ok (.aload_n 0, 1) := by decide +kernel
theorem dX5_best_9 : decode cX5_best 9 = .ok (.iconst (-1), 1) := by decide +kernel
theorem dX5_best_10 : decode cX5_best 10 = .ok (.invokevirtual 53, 3) := by decide +kernel
theorem dX5_best_13 : decode cX5_best 13 = .ok (.ireturn, 1) := by decide +kernel
theorem dX5_best_14 : decode cX5_best 14 = .ok (.iload_n 2, 1) := by decide +kernel
theorem dX5_best_15 : decode cX5_best 15 = .ok (.invokestatic 125, 3) := by decide +kernel
theorem dX5_best_18 : decode cX5_best 18 = .ok (.ifCond .ne 10, 3) := by decide +kernel
theorem dX5_best_21 : decode cX5_best 21 = .ok (.aload_n 0, 1) := by decide +kernel
theorem dX5_best_22 : decode cX5_best 22 = .ok (.bipush (-2), 2) := by decide +kernel
theorem dX5_best_24 : decode cX5_best 24 = .ok (.invokevirtual 53, 3) := by decide +kernel
theorem dX5_best_27 : decode cX5_best 27 = .ok (.ireturn, 1) := by decide +kernel
theorem dX5_best_28 : decode cX5_best 28 = .ok (.aload_n 0, 1) := by decide +kernel
theorem dX5_best_29 : decode cX5_best 29 = .ok (.iload_n 1, 1) := by decide +kernel
theorem dX5_best_30 : decode cX5_best 30 = .ok (.aload_n 0, 1) := by decide +kernel
theorem dX5_best_31 : decode cX5_best 31 = .ok (.iload_n 1, 1) := by decide +kernel
theorem dX5_best_32 : decode cX5_best 32 = .ok (.aload_n 0, 1) := by decide +kernel
theorem dX5_best_33 : decode cX5_best 33 = .ok (.getfield 10, 3) := by decide +kernel
theorem dX5_best_36 : decode cX5_best 36 = .ok (.getfield 76, 3) := by decide +kernel
theorem dX5_best_39 : decode cX5_best 39 = .ok (.iconst 1, 1) := by decide +kernel
theorem dX5_best_40 : decode cX5_best 40 = .ok (.invokevirtual 197, 3) := by decide +kernel
theorem dX5_best_43 : decode cX5_best 43 = .ok (.iload_n 2, 1) := by decide +kernel
theorem dX5_best_44 : decode cX5_best 44 = .ok (.invokevirtual 201, 3) := by decide +kernel
theorem dX5_best_47 : decode cX5_best 47 = .ok (.ireturn, 1) := by decide +kernel
theorem dX5_worst_0 : decode cX5_worst 0 = .ok (.aload_n 0, 1) := by decide +kernel
theorem dX5_worst_1 : decode cX5_worst 1 = .ok (.iload_n 1, 1) := by decide +kernel
theorem dX5_worst_2 : decode cX5_worst 2 = .ok (.invokevirtual 93, 3) := by decide +kernel
theorem dX5_worst_5 : decode cX5_worst 5 = .ok (.ifCond .ne 9, 3) := by decide +kernel
theorem dX5_worst_8 : decode cX5_worst 8 = .ok (.aload_n 0, 1) := by decide +kernel
theorem dX5_worst_9 : decode cX5_worst 9 = .ok (.iconst (-1), 1) := by decide +kernel
theorem dX5_worst_10 : decode cX5_worst 10 = .ok (.invokevirtual 53, 3) := by decide +kernel
theorem dX5_worst_13 : decode cX5_worst 13 = .ok (.ireturn, 1) := by decide +kernel
theorem dX5_worst_14 : decode cX5_worst 14 = .ok (.iload_n 2, 1) := by decide +kernel
theorem dX5_worst_15 : decode cX5_worst 15 = .ok (.invokestatic 125, 3) := by decide +kernel
theorem dX5_worst_18 : decode cX5_worst 18 = .ok (.ifCond .ne 10, 3) := by decide +kernel
theorem dX5_worst_21 : decode cX5_worst 21 = .ok (.aload_n 0, 1) := by decide +kernel
theorem dX5_worst_22 : decode cX5_worst 22 = .ok (.bipush (-2), 2) := by decide +kernel
theorem dX5_worst_24 : decode cX5_worst 24 = .ok (.invokevirtual 53, 3) := by decide +kernel
theorem dX5_worst_27 : decode cX5_worst 27 = .ok (.ireturn, 1) := by decide +kernel
theorem dX5_worst_28 : decode cX5_worst 28 = .ok (.aload_n 0, 1) := by decide +kernel
theorem dX5_worst_29 : decode cX5_worst 29 = .ok (.iload_n 1, 1) := by decide +kernel
theorem dX5_worst_30 : decode cX5_worst 30 = .ok (.aload_n 0, 1) := by decide +kernel
theorem dX5_worst_31 : decode cX5_worst 31 = .ok (.iload_n 1, 1) := by decide +kernel
theorem dX5_worst_32 : decode cX5_worst 32 = .ok (.aload_n 0, 1) := by decide +kernel
theorem dX5_worst_33 : decode cX5_worst 33 = .ok (.getfield 10, 3) := by decide +kernel
theorem dX5_worst_36 : decode cX5_worst 36 = .ok (.getfield 76, 3) := by decide +kernel
theorem dX5_worst_39 : decode cX5_worst 39 = .ok (.iconst (-1), 1) := by decide +kernel
theorem dX5_worst_40 : decode cX5_worst 40 = .ok (.invokevirtual 197, 3) := by decide +kernel
theorem dX5_worst_43 : decode cX5_worst 43 = .ok (.iload_n 2, 1) := by decide +kernel
theorem dX5_worst_44 : decode cX5_worst 44 = .ok (.invokevirtual 201, 3) := by decide +kernel
theorem dX5_worst_47 : decode cX5_worst 47 = .ok (.ireturn, 1) := by decide +kernel
theorem dX5_fewest_0 : decode cX5_fewest 0 = .ok (.aload_n 0, 1) := by decide +kernel
theorem dX5_fewest_1 : decode cX5_fewest 1 = .ok (.iload_n 1, 1) := by decide +kernel
theorem dX5_fewest_2 : decode cX5_fewest 2 = .ok (.invokevirtual 93, 3) := by decide +kernel
theorem dX5_fewest_5 : decode cX5_fewest 5 = .ok (.ifCond .ne 9, 3) := by decide +kernel
theorem dX5_fewest_8 : decode cX5_fewest 8 = .ok (.aload_n 0, 1) := by decide +kernel
theorem dX5_fewest_9 : decode cX5_fewest 9 = .ok (.iconst (-1), 1) := by decide +kernel
theorem dX5_fewest_10 : decode cX5_fewest 10 = .ok (.invokevirtual 53, 3) := by decide +kernel
theorem dX5_fewest_13 : decode cX5_fewest 13 = .ok (.ireturn, 1) := by decide +kernel
theorem dX5_fewest_14 : decode cX5_fewest 14 = .ok (.iload_n 2, 1) := by decide +kernel
theorem dX5_fewest_15 : decode cX5_fewest 15 = .ok (.ifCond .ge 10, 3) := by decide +kernel
theorem dX5_fewest_18 : decode cX5_fewest 18 = .ok (.aload_n 0, 1) := by decide +kernel
theorem dX5_fewest_19 : decode cX5_fewest 19 = .ok (.bipush (-4), 2) := by decide +kernel
theorem dX5_fewest_21 : decode cX5_fewest 21 = .ok (.invokevirtual 53, 3) := by decide +kernel
theorem dX5_fewest_24 : decode cX5_fewest 24 = .ok (.ireturn, 1) := by decide +kernel
theorem dX5_fewest_25 : decode cX5_fewest 25 = .ok (.iload_n 2, 1) := by decide +kernel
theorem dX5_fewest_26 : decode cX5_fewest 26 = .ok (.bipush 40, 2) := by decide +kernel
theorem dX5_fewest_28 : decode cX5_fewest 28 = .ok (.if_icmp .le 10, 3) := by decide +kernel
theorem dX5_fewest_31 : decode cX5_fewest 31 = .ok (.aload_n 0, 1) := by decide +kernel
theorem dX5_fewest_32 : decode cX5_fewest 32 = .ok (.bipush (-6), 2) := by decide +kernel
theorem dX5_fewest_34 : decode cX5_fewest 34 = .ok (.invokevirtual 53, 3) := by decide +kernel
theorem dX5_fewest_37 : decode cX5_fewest 37 = .ok (.ireturn, 1) := by decide +kernel
theorem dX5_fewest_38 : decode cX5_fewest 38 = .ok (.iload_n 3, 1) := by decide +kernel
theorem dX5_fewest_39 : decode cX5_fewest 39 = .ok (.invokestatic 125, 3) := by decide +kernel
theorem dX5_fewest_42 : decode cX5_fewest 42 = .ok (.ifCond .ne 10, 3) := by decide +kernel
theorem dX5_fewest_45 : decode cX5_fewest 45 = .ok (.aload_n 0, 1) := by decide +kernel
theorem dX5_fewest_46 : decode cX5_fewest 46 = .ok (.bipush (-2), 2) := by decide +kernel
theorem dX5_fewest_48 : decode cX5_fewest 48 = .ok (.invokevirtual 53, 3) := by decide +kernel
theorem dX5_fewest_51 : decode cX5_fewest 51 = .ok (.ireturn, 1) := by decide +kernel
theorem dX5_fewest_52 : decode cX5_fewest 52 = .ok (.aload_n 0, 1) := by decide +kernel
theorem dX5_fewest_53 : decode cX5_fewest 53 = .ok (.iload_n 1, 1) := by decide +kernel
theorem dX5_fewest_54 : decode cX5_fewest 54 = .ok (.aload_n 0, 1) := by decide +kernel
theorem dX5_fewest_55 : decode cX5_fewest 55 = .ok (.getfield 10, 3) := by decide +kernel
theorem dX5_fewest_58 : decode cX5_fewest 58 = .ok (.getfield 76, 3) := by decide +kernel
theorem dX5_fewest_61 : decode cX5_fewest 61 = .ok (.invokevirtual 102, 3) := by decide +kernel
theorem dX5_fewest_64 : decode cX5_fewest 64 = .ok (.iload_n 2, 1) := by decide +kernel
theorem dX5_fewest_65 : decode cX5_fewest 65 = .ok (.if_icmp .lt 14, 3) := by decide +kernel
theorem dX5_fewest_68 : decode cX5_fewest 68 = .ok (.iload_n 3, 1) := by decide +kernel
theorem dX5_fewest_69 : decode cX5_fewest 69 = .ok (.ifCond .ne 7, 3) := by decide +kernel
theorem dX5_fewest_72 : decode cX5_fewest 72 = .ok (.iconst 0, 1) := by decide +kernel
theorem dX5_fewest_73 : decode cX5_fewest 73 = .ok (.goto 5, 3) := by decide +kernel
theorem dX5_fewest_76 : decode cX5_fewest 76 = .ok (.bipush (-9), 2) := by decide +kernel
theorem dX5_fewest_78 : decode cX5_fewest 78 = .ok (.ireturn, 1) := by decide +kernel
theorem dX5_fewest_79 : decode cX5_fewest 79 = .ok (.aload_n 0, 1) := by decide +kernel
theorem dX5_fewest_80 : decode cX5_fewest 80 = .ok (.iload_n 1, 1) := by decide +kernel
theorem dX5_fewest_81 : decode cX5_fewest 81 = .ok (.iload_n 2, 1) := by decide +kernel
theorem dX5_fewest_82 : decode cX5_fewest 82 = .ok (.aload_n 0, 1) := by decide +kernel
theorem dX5_fewest_83 : decode cX5_fewest 83 = .ok (.getfield 10, 3) := by decide +kernel
theorem dX5_fewest_86 : decode cX5_fewest 86 = .ok (.getfield 76, 3) := by decide +kernel
theorem dX5_fewest_89 : decode cX5_fewest 89 = .ok (.iconst 0, 1) := by decide +kernel
theorem dX5_fewest_90 : decode cX5_fewest 90 = .ok (.invokevirtual 204, 3) := by decide +kernel
theorem dX5_fewest_93 : decode cX5_fewest 93 = .ok (.istore 4, 2) := by decide +kernel
theorem dX5_fewest_95 : decode cX5_fewest 95 = .ok (.iload 4, 2) := by decide +kernel
theorem dX5_fewest_97 : decode cX5_fewest 97 = .ok (.iconst (-1), 1) := by decide +kernel
theorem dX5_fewest_98 : decode cX5_fewest 98 = .ok (.if_icmp .eq 17, 3) := by decide +kernel
theorem dX5_fewest_101 : decode cX5_fewest 101 = .ok (.iload_n 3, 1) := by decide +kernel
theorem dX5_fewest_102 : decode cX5_fewest 102 = .ok (.ifCond .ne 7, 3) := by decide +kernel
theorem dX5_fewest_105 : decode cX5_fewest 105 = .ok (.iconst 1, 1) := by decide +kernel
theorem dX5_fewest_106 : decode cX5_fewest 106 = .ok (.goto 8, 3) := by decide +kernel
theorem dX5_fewest_109 : decode cX5_fewest 109 = .ok (.iload 4, 2) := by decide +kernel
theorem dX5_fewest_111 : decode cX5_fewest 111 = .ok (.invokestatic 208, 3) := by decide +kernel
theorem dX5_fewest_114 : decode cX5_fewest 114 = .ok (.ireturn, 1) := by decide +kernel
theorem dX5_fewest_115 : decode cX5_fewest 115 = .ok (.aload_n 0, 1) := by decide +kernel
theorem dX5_fewest_116 : decode cX5_fewest 116 = .ok (.iload_n 1, 1) := by decide +kernel
theorem dX5_fewest_117 : decode cX5_fewest 117 = .ok (.iload_n 2, 1) := by decide +kernel
theorem dX5_fewest_118 : decode cX5_fewest 118 = .ok (.invokevirtual 211, 3) := by decide +kernel
theorem dX5_fewest_121 : decode cX5_fewest 121 = .ok (.istore 5, 2) := by decide +kernel
theorem dX5_fewest_123 : decode cX5_fewest 123 = .ok (.iload 5, 2) := by decide +kernel
theorem dX5_fewest_125 : decode cX5_fewest 125 = .ok (.iconst (-1), 1) := by decide +kernel
theorem dX5_fewest_126 : decode cX5_fewest 126 = .ok (.if_icmp .eq 17, 3) := by decide +kernel
theorem dX5_fewest_129 : decode cX5_fewest 129 = .ok (.iload_n 3, 1) := by decide +kernel
theorem dX5_fewest_130 : decode cX5_fewest 130 = .ok (.ifCond .ne 7, 3) := by decide +kernel
theorem dX5_fewest_133 : decode cX5_fewest 133 = .ok (.iconst 2, 1) := by decide +kernel
theorem dX5_fewest_134 : decode cX5_fewest 134 = .ok (.goto 8, 3) := by decide +kernel
theorem dX5_fewest_137 : decode cX5_fewest 137 = .ok (.iload 5, 2) := by decide +kernel
theorem dX5_fewest_139 : decode cX5_fewest 139 = .ok (.invokestatic 208, 3) := by decide +kernel
theorem dX5_fewest_142 : decode cX5_fewest 142 = .ok (.ireturn, 1) := by decide +kernel
theorem dX5_fewest_143 : decode cX5_fewest 143 = .ok (.bipush (-9), 2) := by decide +kernel
theorem dX5_fewest_145 : decode cX5_fewest 145 = .ok (.ireturn, 1) := by decide +kernel
theorem dX5_safe_0 : decode cX5_safe 0 = .ok (.iconst 0, 1) := by decide +kernel
theorem dX5_safe_1 : decode cX5_safe 1 = .ok (.istore_n 1, 1) := by decide +kernel
theorem dX5_safe_2 : decode cX5_safe 2 = .ok (.iconst 0, 1) := by decide +kernel
theorem dX5_safe_3 : decode cX5_safe 3 = .ok (.istore_n 2, 1) := by decide +kernel
theorem dX5_safe_4 : decode cX5_safe 4 = .ok (.iload_n 2, 1) := by decide +kernel
theorem dX5_safe_5 : decode cX5_safe 5 = .ok (.bipush 100, 2) := by decide +kernel
theorem dX5_safe_7 : decode cX5_safe 7 = .ok (.if_icmp .ge 43, 3) := by decide +kernel
theorem dX5_safe_10 : decode cX5_safe 10 = .ok (.iload_n 2, 1) := by decide +kernel
theorem dX5_safe_11 : decode cX5_safe 11 = .ok (.aload_n 0, 1) := by decide +kernel
theorem dX5_safe_12 : decode cX5_safe 12 = .ok (.getfield 10, 3) := by decide +kernel
theorem dX5_safe_15 : decode cX5_safe 15 = .ok (.getfield 76, 3) := by decide +kernel
theorem dX5_safe_18 : decode cX5_safe 18 = .ok (.invokestatic 159, 3) := by decide +kernel
theorem dX5_safe_21 : decode cX5_safe 21 = .ok (.istore_n 3, 1) := by decide +kernel
theorem dX5_safe_22 : decode cX5_safe 22 = .ok (.iload_n 3, 1) := by decide +kernel
theorem dX5_safe_23 : decode cX5_safe 23 = .ok (.aload_n 0, 1) := by decide +kernel
theorem dX5_safe_24 : decode cX5_safe 24 = .ok (.getfield 10, 3) := by decide +kernel
theorem dX5_safe_27 : decode cX5_safe 27 = .ok (.getfield 76, 3) := by decide +kernel
theorem dX5_safe_30 : decode cX5_safe 30 = .ok (.if_icmp .eq 14, 3) := by decide +kernel
theorem dX5_safe_33 : decode cX5_safe 33 = .ok (.aload_n 0, 1) := by decide +kernel
theorem dX5_safe_34 : decode cX5_safe 34 = .ok (.iload_n 3, 1) := by decide +kernel
theorem dX5_safe_35 : decode cX5_safe 35 = .ok (.invokevirtual 214, 3) := by decide +kernel
theorem dX5_safe_38 : decode cX5_safe 38 = .ok (.ifCond .eq 6, 3) := by decide +kernel
theorem dX5_safe_41 : decode cX5_safe 41 = .ok (.iinc 1 1, 3) := by decide +kernel
theorem dX5_safe_44 : decode cX5_safe 44 = .ok (.iinc 2 1, 3) := by decide +kernel
theorem dX5_safe_47 : decode cX5_safe 47 = .ok (.goto (-43), 3) := by decide +kernel
theorem dX5_safe_50 : decode cX5_safe 50 = .ok (.iload_n 1, 1) := by decide +kernel
theorem dX5_safe_51 : decode cX5_safe 51 = .ok (.ireturn, 1) := by decide +kernel
theorem dX5_grudge_0 : decode cX5_grudge 0 = .ok (.aload_n 0, 1) := by decide +kernel
theorem dX5_grudge_1 : decode cX5_grudge 1 = .ok (.iload_n 1, 1) := by decide +kernel
theorem dX5_grudge_2 : decode cX5_grudge 2 = .ok (.invokevirtual 93, 3) := by decide +kernel
theorem dX5_grudge_5 : decode cX5_grudge 5 = .ok (.ifCond .ne 9, 3) := by decide +kernel
theorem dX5_grudge_8 : decode cX5_grudge 8 = .ok (.aload_n 0, 1) := by decide +kernel
theorem dX5_grudge_9 : decode cX5_grudge 9 = .ok (.iconst (-1), 1) := by decide +kernel
theorem dX5_grudge_10 : decode cX5_grudge 10 = .ok (.invokevirtual 53, 3) := by decide +kernel
theorem dX5_grudge_13 : decode cX5_grudge 13 = .ok (.ireturn, 1) := by decide +kernel
theorem dX5_grudge_14 : decode cX5_grudge 14 = .ok (.bipush (-9), 2) := by decide +kernel
theorem dX5_grudge_16 : decode cX5_grudge 16 = .ok (.istore_n 2, 1) := by decide +kernel
theorem dX5_grudge_17 : decode cX5_grudge 17 = .ok (.iconst 0, 1) := by decide +kernel
theorem dX5_grudge_18 : decode cX5_grudge 18 = .ok (.istore_n 3, 1) := by decide +kernel
theorem dX5_grudge_19 : decode cX5_grudge 19 = .ok (.iconst 0, 1) := by decide +kernel
theorem dX5_grudge_20 : decode cX5_grudge 20 = .ok (.istore 4, 2) := by decide +kernel
theorem dX5_grudge_22 : decode cX5_grudge 22 = .ok (.iload 4, 2) := by decide +kernel
theorem dX5_grudge_24 : decode cX5_grudge 24 = .ok (.aload_n 0, 1) := by decide +kernel
theorem dX5_grudge_25 : decode cX5_grudge 25 = .ok (.getfield 10, 3) := by decide +kernel
theorem dX5_grudge_28 : decode cX5_grudge 28 = .ok (.getfield 217, 3) := by decide +kernel
theorem dX5_grudge_31 : decode cX5_grudge 31 = .ok (.if_icmp .ge 80, 3) := by decide +kernel
theorem dX5_grudge_34 : decode cX5_grudge 34 = .ok (.iload 4, 2) := by decide +kernel
theorem dX5_grudge_36 : decode cX5_grudge 36 = .ok (.iload_n 1, 1) := by decide +kernel
theorem dX5_grudge_37 : decode cX5_grudge 37 = .ok (.if_icmp .ne 6, 3) := by decide +kernel
theorem dX5_grudge_40 : decode cX5_grudge 40 = .ok (.goto 65, 3) := by decide +kernel
theorem dX5_grudge_43 : decode cX5_grudge 43 = .ok (.aload_n 0, 1) := by decide +kernel
theorem dX5_grudge_44 : decode cX5_grudge 44 = .ok (.iload 4, 2) := by decide +kernel
theorem dX5_grudge_46 : decode cX5_grudge 46 = .ok (.aload_n 0, 1) := by decide +kernel
theorem dX5_grudge_47 : decode cX5_grudge 47 = .ok (.getfield 10, 3) := by decide +kernel
theorem dX5_grudge_50 : decode cX5_grudge 50 = .ok (.getfield 76, 3) := by decide +kernel
theorem dX5_grudge_53 : decode cX5_grudge 53 = .ok (.iconst 1, 1) := by decide +kernel
theorem dX5_grudge_54 : decode cX5_grudge 54 = .ok (.invokevirtual 197, 3) := by decide +kernel
theorem dX5_grudge_57 : decode cX5_grudge 57 = .ok (.istore 5, 2) := by decide +kernel
theorem dX5_grudge_59 : decode cX5_grudge 59 = .ok (.iload 5, 2) := by decide +kernel
theorem dX5_grudge_61 : decode cX5_grudge 61 = .ok (.iconst (-1), 1) := by decide +kernel
theorem dX5_grudge_62 : decode cX5_grudge 62 = .ok (.if_icmp .ne 6, 3) := by decide +kernel
theorem dX5_grudge_65 : decode cX5_grudge 65 = .ok (.goto 40, 3) := by decide +kernel
theorem dX5_grudge_68 : decode cX5_grudge 68 = .ok (.aload_n 0, 1) := by decide +kernel
theorem dX5_grudge_69 : decode cX5_grudge 69 = .ok (.iload_n 1, 1) := by decide +kernel
theorem dX5_grudge_70 : decode cX5_grudge 70 = .ok (.iload 5, 2) := by decide +kernel
theorem dX5_grudge_72 : decode cX5_grudge 72 = .ok (.aload_n 0, 1) := by decide +kernel
theorem dX5_grudge_73 : decode cX5_grudge 73 = .ok (.getfield 10, 3) := by decide +kernel
theorem dX5_grudge_76 : decode cX5_grudge 76 = .ok (.getfield 76, 3) := by decide +kernel
theorem dX5_grudge_79 : decode cX5_grudge 79 = .ok (.invokestatic 159, 3) := by decide +kernel
theorem dX5_grudge_82 : decode cX5_grudge 82 = .ok (.invokevirtual 102, 3) := by decide +kernel
theorem dX5_grudge_85 : decode cX5_grudge 85 = .ok (.istore 6, 2) := by decide +kernel
theorem dX5_grudge_87 : decode cX5_grudge 87 = .ok (.iload_n 2, 1) := by decide +kernel
theorem dX5_grudge_88 : decode cX5_grudge 88 = .ok (.bipush (-9), 2) := by decide +kernel
theorem dX5_grudge_90 : decode cX5_grudge 90 = .ok (.if_icmp .eq 9, 3) := by decide +kernel
theorem dX5_grudge_93 : decode cX5_grudge 93 = .ok (.iload 6, 2) := by decide +kernel
theorem dX5_grudge_95 : decode cX5_grudge 95 = .ok (.iload_n 3, 1) := by decide +kernel
theorem dX5_grudge_96 : decode cX5_grudge 96 = .ok (.if_icmp .ge 9, 3) := by decide +kernel
theorem dX5_grudge_99 : decode cX5_grudge 99 = .ok (.iload 4, 2) := by decide +kernel
theorem dX5_grudge_101 : decode cX5_grudge 101 = .ok (.istore_n 2, 1) := by decide +kernel
theorem dX5_grudge_102 : decode cX5_grudge 102 = .ok (.iload 6, 2) := by decide +kernel
theorem dX5_grudge_104 : decode cX5_grudge 104 = .ok (.istore_n 3, 1) := by decide +kernel
theorem dX5_grudge_105 : decode cX5_grudge 105 = .ok (.iinc 4 1, 3) := by decide +kernel
theorem dX5_grudge_108 : decode cX5_grudge 108 = .ok (.goto (-86), 3) := by decide +kernel
theorem dX5_grudge_111 : decode cX5_grudge 111 = .ok (.iload_n 2, 1) := by decide +kernel
theorem dX5_grudge_112 : decode cX5_grudge 112 = .ok (.ireturn, 1) := by decide +kernel
theorem dX5_gain_0 : decode cX5_gain 0 = .ok (.aload_n 0, 1) := by decide +kernel
theorem dX5_gain_1 : decode cX5_gain 1 = .ok (.iload_n 1, 1) := by decide +kernel
theorem dX5_gain_2 : decode cX5_gain 2 = .ok (.iload_n 2, 1) := by decide +kernel
theorem dX5_gain_3 : decode cX5_gain 3 = .ok (.invokevirtual 220, 3) := by decide +kernel
theorem dX5_gain_6 : decode cX5_gain 6 = .ok (.ifCond .ne 12, 3) := by decide +kernel
theorem dX5_gain_9 : decode cX5_gain 9 = .ok (.ldc 223, 2) := by decide +kernel
theorem dX5_gain_11 : decode cX5_gain 11 = .ok (.aload_n 0, 1) := by decide +kernel
theorem dX5_gain_12 : decode cX5_gain 12 = .ok (.iconst (-1), 1) := by decide +kernel
theorem dX5_gain_13 : decode cX5_gain 13 = .ok (.invokevirtual 53, 3) := by decide +kernel
theorem dX5_gain_16 : decode cX5_gain 16 = .ok (.isub, 1) := by decide +kernel
theorem dX5_gain_17 : decode cX5_gain 17 = .ok (.ireturn, 1) := by decide +kernel
theorem dX5_gain_18 : decode cX5_gain 18 = .ok (.aload_n 0, 1) := by decide +kernel
theorem dX5_gain_19 : decode cX5_gain 19 = .ok (.iload_n 1, 1) := by decide +kernel
theorem dX5_gain_20 : decode cX5_gain 20 = .ok (.aload_n 0, 1) := by decide +kernel
theorem dX5_gain_21 : decode cX5_gain 21 = .ok (.getfield 10, 3) := by decide +kernel
theorem dX5_gain_24 : decode cX5_gain 24 = .ok (.getfield 76, 3) := by decide +kernel
theorem dX5_gain_27 : decode cX5_gain 27 = .ok (.iconst 1, 1) := by decide +kernel
theorem dX5_gain_28 : decode cX5_gain 28 = .ok (.invokevirtual 197, 3) := by decide +kernel
theorem dX5_gain_31 : decode cX5_gain 31 = .ok (.istore_n 3, 1) := by decide +kernel
theorem dX5_gain_32 : decode cX5_gain 32 = .ok (.aload_n 0, 1) := by decide +kernel
theorem dX5_gain_33 : decode cX5_gain 33 = .ok (.iload_n 2, 1) := by decide +kernel
theorem dX5_gain_34 : decode cX5_gain 34 = .ok (.iload_n 3, 1) := by decide +kernel
theorem dX5_gain_35 : decode cX5_gain 35 = .ok (.aload_n 0, 1) := by decide +kernel
theorem dX5_gain_36 : decode cX5_gain 36 = .ok (.getfield 10, 3) := by decide +kernel
theorem dX5_gain_39 : decode cX5_gain 39 = .ok (.getfield 76, 3) := by decide +kernel
theorem dX5_gain_42 : decode cX5_gain 42 = .ok (.invokestatic 159, 3) := by decide +kernel
theorem dX5_gain_45 : decode cX5_gain 45 = .ok (.invokevirtual 102, 3) := by decide +kernel
theorem dX5_gain_48 : decode cX5_gain 48 = .ok (.aload_n 0, 1) := by decide +kernel
theorem dX5_gain_49 : decode cX5_gain 49 = .ok (.iload_n 2, 1) := by decide +kernel
theorem dX5_gain_50 : decode cX5_gain 50 = .ok (.aload_n 0, 1) := by decide +kernel
theorem dX5_gain_51 : decode cX5_gain 51 = .ok (.getfield 10, 3) := by decide +kernel
theorem dX5_gain_54 : decode cX5_gain 54 = .ok (.getfield 76, 3) := by decide +kernel
theorem dX5_gain_57 : decode cX5_gain 57 = .ok (.invokevirtual 102, 3) := by decide +kernel
theorem dX5_gain_60 : decode cX5_gain 60 = .ok (.isub, 1) := by decide +kernel
theorem dX5_gain_61 : decode cX5_gain 61 = .ok (.ireturn, 1) := by decide +kernel
theorem dX5_two_0 : decode cX5_two 0 = .ok (.aload_n 0, 1) := by decide +kernel
theorem dX5_two_1 : decode cX5_two 1 = .ok (.iload_n 1, 1) := by decide +kernel
theorem dX5_two_2 : decode cX5_two 2 = .ok (.iload_n 2, 1) := by decide +kernel
theorem dX5_two_3 : decode cX5_two 3 = .ok (.invokevirtual 220, 3) := by decide +kernel
theorem dX5_two_6 : decode cX5_two 6 = .ok (.ifCond .ne 9, 3) := by decide +kernel
theorem dX5_two_9 : decode cX5_two 9 = .ok (.aload_n 0, 1) := by decide +kernel
theorem dX5_two_10 : decode cX5_two 10 = .ok (.iconst (-1), 1) := by decide +kernel
theorem dX5_two_11 : decode cX5_two 11 = .ok (.invokevirtual 53, 3) := by decide +kernel
theorem dX5_two_14 : decode cX5_two 14 = .ok (.ireturn, 1) := by decide +kernel
theorem dX5_two_15 : decode cX5_two 15 = .ok (.iconst 0, 1) := by decide +kernel
theorem dX5_two_16 : decode cX5_two 16 = .ok (.istore_n 3, 1) := by decide +kernel
theorem dX5_two_17 : decode cX5_two 17 = .ok (.iload_n 3, 1) := by decide +kernel
theorem dX5_two_18 : decode cX5_two 18 = .ok (.iconst 4, 1) := by decide +kernel
theorem dX5_two_19 : decode cX5_two 19 = .ok (.if_icmp .ge 38, 3) := by decide +kernel
theorem dX5_two_22 : decode cX5_two 22 = .ok (.aload_n 0, 1) := by decide +kernel
theorem dX5_two_23 : decode cX5_two 23 = .ok (.getfield 50, 3) := by decide +kernel
theorem dX5_two_26 : decode cX5_two 26 = .ok (.iload_n 3, 1) := by decide +kernel
theorem dX5_two_27 : decode cX5_two 27 = .ok (.aload_n 0, 1) := by decide +kernel
theorem dX5_two_28 : decode cX5_two 28 = .ok (.iload_n 2, 1) := by decide +kernel
theorem dX5_two_29 : decode cX5_two 29 = .ok (.iload_n 3, 1) := by decide +kernel
theorem dX5_two_30 : decode cX5_two 30 = .ok (.iconst 2, 1) := by decide +kernel
theorem dX5_two_31 : decode cX5_two 31 = .ok (.irem, 1) := by decide +kernel
theorem dX5_two_32 : decode cX5_two 32 = .ok (.aload_n 0, 1) := by decide +kernel
theorem dX5_two_33 : decode cX5_two 33 = .ok (.iload_n 1, 1) := by decide +kernel
theorem dX5_two_34 : decode cX5_two 34 = .ok (.iload_n 3, 1) := by decide +kernel
theorem dX5_two_35 : decode cX5_two 35 = .ok (.iconst 2, 1) := by decide +kernel
theorem dX5_two_36 : decode cX5_two 36 = .ok (.idiv, 1) := by decide +kernel
theorem dX5_two_37 : decode cX5_two 37 = .ok (.aload_n 0, 1) := by decide +kernel
theorem dX5_two_38 : decode cX5_two 38 = .ok (.getfield 10, 3) := by decide +kernel
theorem dX5_two_41 : decode cX5_two 41 = .ok (.getfield 76, 3) := by decide +kernel
theorem dX5_two_44 : decode cX5_two 44 = .ok (.invokevirtual 224, 3) := by decide +kernel
theorem dX5_two_47 : decode cX5_two 47 = .ok (.invokevirtual 224, 3) := by decide +kernel
theorem dX5_two_50 : decode cX5_two 50 = .ok (.iastore, 1) := by decide +kernel
theorem dX5_two_51 : decode cX5_two 51 = .ok (.iinc 3 1, 3) := by decide +kernel
theorem dX5_two_54 : decode cX5_two 54 = .ok (.goto (-37), 3) := by decide +kernel
theorem dX5_two_57 : decode cX5_two 57 = .ok (.iconst 0, 1) := by decide +kernel
theorem dX5_two_58 : decode cX5_two 58 = .ok (.istore_n 3, 1) := by decide +kernel
theorem dX5_two_59 : decode cX5_two 59 = .ok (.iload_n 3, 1) := by decide +kernel
theorem dX5_two_60 : decode cX5_two 60 = .ok (.iconst 4, 1) := by decide +kernel
theorem dX5_two_61 : decode cX5_two 61 = .ok (.if_icmp .ge 86, 3) := by decide +kernel
theorem dX5_two_64 : decode cX5_two 64 = .ok (.aload_n 0, 1) := by decide +kernel
theorem dX5_two_65 : decode cX5_two 65 = .ok (.iload_n 1, 1) := by decide +kernel
theorem dX5_two_66 : decode cX5_two 66 = .ok (.aload_n 0, 1) := by decide +kernel
theorem dX5_two_67 : decode cX5_two 67 = .ok (.getfield 50, 3) := by decide +kernel
theorem dX5_two_70 : decode cX5_two 70 = .ok (.iload_n 3, 1) := by decide +kernel
theorem dX5_two_71 : decode cX5_two 71 = .ok (.iaload, 1) := by decide +kernel
theorem dX5_two_72 : decode cX5_two 72 = .ok (.invokevirtual 102, 3) := by decide +kernel
theorem dX5_two_75 : decode cX5_two 75 = .ok (.aload_n 0, 1) := by decide +kernel
theorem dX5_two_76 : decode cX5_two 76 = .ok (.iload_n 1, 1) := by decide +kernel
theorem dX5_two_77 : decode cX5_two 77 = .ok (.aload_n 0, 1) := by decide +kernel
theorem dX5_two_78 : decode cX5_two 78 = .ok (.getfield 50, 3) := by decide +kernel
theorem dX5_two_81 : decode cX5_two 81 = .ok (.iload_n 3, 1) := by decide +kernel
theorem dX5_two_82 : decode cX5_two 82 = .ok (.iconst 2, 1) := by decide +kernel
theorem dX5_two_83 : decode cX5_two 83 = .ok (.ixor, 1) := by decide +kernel
theorem dX5_two_84 : decode cX5_two 84 = .ok (.iaload, 1) := by decide +kernel
theorem dX5_two_85 : decode cX5_two 85 = .ok (.invokevirtual 102, 3) := by decide +kernel
theorem dX5_two_88 : decode cX5_two 88 = .ok (.if_icmp .lt 7, 3) := by decide +kernel
theorem dX5_two_91 : decode cX5_two 91 = .ok (.iconst 1, 1) := by decide +kernel
theorem dX5_two_92 : decode cX5_two 92 = .ok (.goto 4, 3) := by decide +kernel
theorem dX5_two_95 : decode cX5_two 95 = .ok (.iconst 0, 1) := by decide +kernel
theorem dX5_two_96 : decode cX5_two 96 = .ok (.istore 4, 2) := by decide +kernel
theorem dX5_two_98 : decode cX5_two 98 = .ok (.iload 4, 2) := by decide +kernel
theorem dX5_two_100 : decode cX5_two 100 = .ok (.ifCond .eq 41, 3) := by decide +kernel
theorem dX5_two_103 : decode cX5_two 103 = .ok (.aload_n 0, 1) := by decide +kernel
theorem dX5_two_104 : decode cX5_two 104 = .ok (.iload_n 2, 1) := by decide +kernel
theorem dX5_two_105 : decode cX5_two 105 = .ok (.aload_n 0, 1) := by decide +kernel
theorem dX5_two_106 : decode cX5_two 106 = .ok (.getfield 50, 3) := by decide +kernel
theorem dX5_two_109 : decode cX5_two 109 = .ok (.iload_n 3, 1) := by decide +kernel
theorem dX5_two_110 : decode cX5_two 110 = .ok (.iaload, 1) := by decide +kernel
theorem dX5_two_111 : decode cX5_two 111 = .ok (.invokevirtual 102, 3) := by decide +kernel
theorem dX5_two_114 : decode cX5_two 114 = .ok (.aload_n 0, 1) := by decide +kernel
theorem dX5_two_115 : decode cX5_two 115 = .ok (.iload_n 2, 1) := by decide +kernel
theorem dX5_two_116 : decode cX5_two 116 = .ok (.aload_n 0, 1) := by decide +kernel
theorem dX5_two_117 : decode cX5_two 117 = .ok (.getfield 50, 3) := by decide +kernel
theorem dX5_two_120 : decode cX5_two 120 = .ok (.iload_n 3, 1) := by decide +kernel
theorem dX5_two_121 : decode cX5_two 121 = .ok (.iconst 1, 1) := by decide +kernel
theorem dX5_two_122 : decode cX5_two 122 = .ok (.ixor, 1) := by decide +kernel
theorem dX5_two_123 : decode cX5_two 123 = .ok (.iaload, 1) := by decide +kernel
theorem dX5_two_124 : decode cX5_two 124 = .ok (.invokevirtual 102, 3) := by decide +kernel
theorem dX5_two_127 : decode cX5_two 127 = .ok (.if_icmp .lt 14, 3) := by decide +kernel
theorem dX5_two_130 : decode cX5_two 130 = .ok (.bipush 10, 2) := by decide +kernel
theorem dX5_two_132 : decode cX5_two 132 = .ok (.iload_n 3, 1) := by decide +kernel
theorem dX5_two_133 : decode cX5_two 133 = .ok (.iconst 2, 1) := by decide +kernel
theorem dX5_two_134 : decode cX5_two 134 = .ok (.idiv, 1) := by decide +kernel
theorem dX5_two_135 : decode cX5_two 135 = .ok (.imul, 1) := by decide +kernel
theorem dX5_two_136 : decode cX5_two 136 = .ok (.iload_n 3, 1) := by decide +kernel
theorem dX5_two_137 : decode cX5_two 137 = .ok (.iconst 2, 1) := by decide +kernel
theorem dX5_two_138 : decode cX5_two 138 = .ok (.irem, 1) := by decide +kernel
theorem dX5_two_139 : decode cX5_two 139 = .ok (.iadd, 1) := by decide +kernel
theorem dX5_two_140 : decode cX5_two 140 = .ok (.ireturn, 1) := by decide +kernel
theorem dX5_two_141 : decode cX5_two 141 = .ok (.iinc 3 1, 3) := by decide +kernel
theorem dX5_two_144 : decode cX5_two 144 = .ok (.goto (-85), 3) := by decide +kernel
theorem dX5_two_147 : decode cX5_two 147 = .ok (.bipush (-9), 2) := by decide +kernel
theorem dX5_two_149 : decode cX5_two 149 = .ok (.ireturn, 1) := by decide +kernel
theorem dX5_chance_0 : decode cX5_chance 0 = .ok (.aload_n 0, 1) := by decide +kernel
theorem dX5_chance_1 : decode cX5_chance 1 = .ok (.iload_n 1, 1) := by decide +kernel
theorem dX5_chance_2 : decode cX5_chance 2 = .ok (.invokevirtual 93, 3) := by decide +kernel
theorem dX5_chance_5 : decode cX5_chance 5 = .ok (.ifCond .ne 14, 3) := by decide +kernel
theorem dX5_chance_8 : decode cX5_chance 8 = .ok (.ldc2_w 227, 3) := by decide +kernel
theorem dX5_chance_11 : decode cX5_chance 11 = .ok (.aload_n 0, 1) := by decide +kernel
theorem dX5_chance_12 : decode cX5_chance 12 = .ok (.iconst (-1), 1) := by decide +kernel
theorem dX5_chance_13 : decode cX5_chance 13 = .ok (.invokevirtual 53, 3) := by decide +kernel
theorem dX5_chance_16 : decode cX5_chance 16 = .ok (.i2l, 1) := by decide +kernel
theorem dX5_chance_17 : decode cX5_chance 17 = .ok (.lsub, 1) := by decide +kernel
theorem dX5_chance_18 : decode cX5_chance 18 = .ok (.lreturn, 1) := by decide +kernel
theorem dX5_chance_19 : decode cX5_chance 19 = .ok (.iload_n 2, 1) := by decide +kernel
theorem dX5_chance_20 : decode cX5_chance 20 = .ok (.ifCond .lt 7, 3) := by decide +kernel
theorem dX5_chance_23 : decode cX5_chance 23 = .ok (.iload_n 3, 1) := by decide +kernel
theorem dX5_chance_24 : decode cX5_chance 24 = .ok (.ifCond .ge 15, 3) := by decide +kernel
theorem dX5_chance_27 : decode cX5_chance 27 = .ok (.ldc2_w 227, 3) := by decide +kernel
theorem dX5_chance_30 : decode cX5_chance 30 = .ok (.aload_n 0, 1) := by decide +kernel
theorem dX5_chance_31 : decode cX5_chance 31 = .ok (.bipush (-4), 2) := by decide +kernel
theorem dX5_chance_33 : decode cX5_chance 33 = .ok (.invokevirtual 53, 3) := by decide +kernel
theorem dX5_chance_36 : decode cX5_chance 36 = .ok (.i2l, 1) := by decide +kernel
theorem dX5_chance_37 : decode cX5_chance 37 = .ok (.lsub, 1) := by decide +kernel
theorem dX5_chance_38 : decode cX5_chance 38 = .ok (.lreturn, 1) := by decide +kernel
theorem dX5_chance_39 : decode cX5_chance 39 = .ok (.iload_n 2, 1) := by decide +kernel
theorem dX5_chance_40 : decode cX5_chance 40 = .ok (.iconst 2, 1) := by decide +kernel
theorem dX5_chance_41 : decode cX5_chance 41 = .ok (.if_icmp .gt 9, 3) := by decide +kernel
theorem dX5_chance_44 : decode cX5_chance 44 = .ok (.iload_n 3, 1) := by decide +kernel
theorem dX5_chance_45 : decode cX5_chance 45 = .ok (.bipush 40, 2) := by decide +kernel
theorem dX5_chance_47 : decode cX5_chance 47 = .ok (.if_icmp .le 15, 3) := by decide +kernel
theorem dX5_chance_50 : decode cX5_chance 50 = .ok (.ldc2_w 227, 3) := by decide +kernel
theorem dX5_chance_53 : decode cX5_chance 53 = .ok (.aload_n 0, 1) := by decide +kernel
theorem dX5_chance_54 : decode cX5_chance 54 = .ok (.bipush (-6), 2) := by decide +kernel
theorem dX5_chance_56 : decode cX5_chance 56 = .ok (.invokevirtual 53, 3) := by decide +kernel
theorem dX5_chance_59 : decode cX5_chance 59 = .ok (.i2l, 1) := by decide +kernel
theorem dX5_chance_60 : decode cX5_chance 60 = .ok (.lsub, 1) := by decide +kernel
theorem dX5_chance_61 : decode cX5_chance 61 = .ok (.lreturn, 1) := by decide +kernel
theorem dX5_chance_62 : decode cX5_chance 62 = .ok (.iload 4, 2) := by decide +kernel
theorem dX5_chance_64 : decode cX5_chance 64 = .ok (.invokestatic 125, 3) := by decide +kernel
theorem dX5_chance_67 : decode cX5_chance 67 = .ok (.ifCond .ne 15, 3) := by decide +kernel
theorem dX5_chance_70 : decode cX5_chance 70 = .ok (.ldc2_w 227, 3) := by decide +kernel
theorem dX5_chance_73 : decode cX5_chance 73 = .ok (.aload_n 0, 1) := by decide +kernel
theorem dX5_chance_74 : decode cX5_chance 74 = .ok (.bipush (-2), 2) := by decide +kernel
theorem dX5_chance_76 : decode cX5_chance 76 = .ok (.invokevirtual 53, 3) := by decide +kernel
theorem dX5_chance_79 : decode cX5_chance 79 = .ok (.i2l, 1) := by decide +kernel
theorem dX5_chance_80 : decode cX5_chance 80 = .ok (.lsub, 1) := by decide +kernel
theorem dX5_chance_81 : decode cX5_chance 81 = .ok (.lreturn, 1) := by decide +kernel
theorem dX5_chance_82 : decode cX5_chance 82 = .ok (.aload_n 0, 1) := by decide +kernel
theorem dX5_chance_83 : decode cX5_chance 83 = .ok (.getfield 10, 3) := by decide +kernel
theorem dX5_chance_86 : decode cX5_chance 86 = .ok (.getfield 76, 3) := by decide +kernel
theorem dX5_chance_89 : decode cX5_chance 89 = .ok (.invokestatic 84, 3) := by decide +kernel
theorem dX5_chance_92 : decode cX5_chance 92 = .ok (.istore 5, 2) := by decide +kernel
theorem dX5_chance_94 : decode cX5_chance 94 = .ok (.iload_n 2, 1) := by decide +kernel
theorem dX5_chance_95 : decode cX5_chance 95 = .ok (.iload 5, 2) := by decide +kernel
theorem dX5_chance_97 : decode cX5_chance 97 = .ok (.invokestatic 174, 3) := by decide +kernel
theorem dX5_chance_100 : decode cX5_chance 100 = .ok (.istore 6, 2) := by decide +kernel
theorem dX5_chance_102 : decode cX5_chance 102 = .ok (.iload 6, 2) := by decide +kernel
theorem dX5_chance_104 : decode cX5_chance 104 = .ok (.ifCond .ne 31, 3) := by decide +kernel
theorem dX5_chance_107 : decode cX5_chance 107 = .ok (.aload_n 0, 1) := by decide +kernel
theorem dX5_chance_108 : decode cX5_chance 108 = .ok (.iload_n 1, 1) := by decide +kernel
theorem dX5_chance_109 : decode cX5_chance 109 = .ok (.aload_n 0, 1) := by decide +kernel
theorem dX5_chance_110 : decode cX5_chance 110 = .ok (.getfield 10, 3) := by decide +kernel
theorem dX5_chance_113 : decode cX5_chance 113 = .ok (.getfield 76, 3) := by decide +kernel
theorem dX5_chance_116 : decode cX5_chance 116 = .ok (.invokevirtual 102, 3) := by decide +kernel
theorem dX5_chance_119 : decode cX5_chance 119 = .ok (.iload_n 3, 1) := by decide +kernel
theorem dX5_chance_120 : decode cX5_chance 120 = .ok (.if_icmp .lt 7, 3) := by decide +kernel
theorem dX5_chance_123 : decode cX5_chance 123 = .ok (.iconst 1, 1) := by decide +kernel
theorem dX5_chance_124 : decode cX5_chance 124 = .ok (.goto 4, 3) := by decide +kernel
theorem dX5_chance_127 : decode cX5_chance 127 = .ok (.iconst 0, 1) := by decide +kernel
theorem dX5_chance_128 : decode cX5_chance 128 = .ok (.iconst 1, 1) := by decide +kernel
theorem dX5_chance_129 : decode cX5_chance 129 = .ok (.iload 4, 2) := by decide +kernel
theorem dX5_chance_131 : decode cX5_chance 131 = .ok (.invokestatic 229, 3) := by decide +kernel
theorem dX5_chance_134 : decode cX5_chance 134 = .ok (.lreturn, 1) := by decide +kernel
theorem dX5_chance_135 : decode cX5_chance 135 = .ok (.iload 6, 2) := by decide +kernel
theorem dX5_chance_137 : decode cX5_chance 137 = .ok (.iconst 1, 1) := by decide +kernel
theorem dX5_chance_138 : decode cX5_chance 138 = .ok (.if_icmp .ne 25, 3) := by decide +kernel
theorem dX5_chance_141 : decode cX5_chance 141 = .ok (.aload_n 0, 1) := by decide +kernel
theorem dX5_chance_142 : decode cX5_chance 142 = .ok (.iload_n 1, 1) := by decide +kernel
theorem dX5_chance_143 : decode cX5_chance 143 = .ok (.iload_n 3, 1) := by decide +kernel
theorem dX5_chance_144 : decode cX5_chance 144 = .ok (.aload_n 0, 1) := by decide +kernel
theorem dX5_chance_145 : decode cX5_chance 145 = .ok (.getfield 10, 3) := by decide +kernel
theorem dX5_chance_148 : decode cX5_chance 148 = .ok (.getfield 76, 3) := by decide +kernel
theorem dX5_chance_151 : decode cX5_chance 151 = .ok (.iconst 0, 1) := by decide +kernel
theorem dX5_chance_152 : decode cX5_chance 152 = .ok (.invokevirtual 233, 3) := by decide +kernel
theorem dX5_chance_155 : decode cX5_chance 155 = .ok (.iload 5, 2) := by decide +kernel
theorem dX5_chance_157 : decode cX5_chance 157 = .ok (.iload 4, 2) := by decide +kernel
theorem dX5_chance_159 : decode cX5_chance 159 = .ok (.invokestatic 229, 3) := by decide +kernel
theorem dX5_chance_162 : decode cX5_chance 162 = .ok (.lreturn, 1) := by decide +kernel
theorem dX5_chance_163 : decode cX5_chance 163 = .ok (.aload_n 0, 1) := by decide +kernel
theorem dX5_chance_164 : decode cX5_chance 164 = .ok (.iload_n 1, 1) := by decide +kernel
theorem dX5_chance_165 : decode cX5_chance 165 = .ok (.iload_n 3, 1) := by decide +kernel
theorem dX5_chance_166 : decode cX5_chance 166 = .ok (.invokevirtual 236, 3) := by decide +kernel
theorem dX5_chance_169 : decode cX5_chance 169 = .ok (.iload 5, 2) := by decide +kernel
theorem dX5_chance_171 : decode cX5_chance 171 = .ok (.iload 5, 2) := by decide +kernel
theorem dX5_chance_173 : decode cX5_chance 173 = .ok (.iconst 1, 1) := by decide +kernel
theorem dX5_chance_174 : decode cX5_chance 174 = .ok (.isub, 1) := by decide +kernel
theorem dX5_chance_175 : decode cX5_chance 175 = .ok (.imul, 1) := by decide +kernel
theorem dX5_chance_176 : decode cX5_chance 176 = .ok (.iconst 2, 1) := by decide +kernel
theorem dX5_chance_177 : decode cX5_chance 177 = .ok (.idiv, 1) := by decide +kernel
theorem dX5_chance_178 : decode cX5_chance 178 = .ok (.iload 4, 2) := by decide +kernel
theorem dX5_chance_180 : decode cX5_chance 180 = .ok (.invokestatic 229, 3) := by decide +kernel
theorem dX5_chance_183 : decode cX5_chance 183 = .ok (.lreturn, 1) := by decide +kernel
theorem dX5_mean_0 : decode cX5_mean 0 = .ok (.iload_n 1, 1) := by decide +kernel
theorem dX5_mean_1 : decode cX5_mean 1 = .ok (.invokestatic 125, 3) := by decide +kernel
theorem dX5_mean_4 : decode cX5_mean 4 = .ok (.ifCond .ne 15, 3) := by decide +kernel
theorem dX5_mean_7 : decode cX5_mean 7 = .ok (.ldc2_w 227, 3) := by decide +kernel
theorem dX5_mean_10 : decode cX5_mean 10 = .ok (.aload_n 0, 1) := by decide +kernel
theorem dX5_mean_11 : decode cX5_mean 11 = .ok (.bipush (-2), 2) := by decide +kernel
theorem dX5_mean_13 : decode cX5_mean 13 = .ok (.invokevirtual 53, 3) := by decide +kernel
theorem dX5_mean_16 : decode cX5_mean 16 = .ok (.i2l, 1) := by decide +kernel
theorem dX5_mean_17 : decode cX5_mean 17 = .ok (.lsub, 1) := by decide +kernel
theorem dX5_mean_18 : decode cX5_mean 18 = .ok (.lreturn, 1) := by decide +kernel
theorem dX5_mean_19 : decode cX5_mean 19 = .ok (.aload_n 0, 1) := by decide +kernel
theorem dX5_mean_20 : decode cX5_mean 20 = .ok (.aload_n 0, 1) := by decide +kernel
theorem dX5_mean_21 : decode cX5_mean 21 = .ok (.getfield 10, 3) := by decide +kernel
theorem dX5_mean_24 : decode cX5_mean 24 = .ok (.getfield 76, 3) := by decide +kernel
theorem dX5_mean_27 : decode cX5_mean 27 = .ok (.invokevirtual 128, 3) := by decide +kernel
theorem dX5_mean_30 : decode cX5_mean 30 = .ok (.iconst 1, 1) := by decide +kernel
theorem dX5_mean_31 : decode cX5_mean 31 = .ok (.aload_n 0, 1) := by decide +kernel
theorem dX5_mean_32 : decode cX5_mean 32 = .ok (.getfield 10, 3) := by decide +kernel
theorem dX5_mean_35 : decode cX5_mean 35 = .ok (.getfield 217, 3) := by decide +kernel
theorem dX5_mean_38 : decode cX5_mean 38 = .ok (.invokestatic 239, 3) := by decide +kernel
theorem dX5_mean_41 : decode cX5_mean 41 = .ok (.iload_n 1, 1) := by decide +kernel
theorem dX5_mean_42 : decode cX5_mean 42 = .ok (.invokestatic 229, 3) := by decide +kernel
theorem dX5_mean_45 : decode cX5_mean 45 = .ok (.lreturn, 1) := by decide +kernel
theorem dX5_whatIs_0 : decode cX5_whatIs 0 = .ok (.aload_n 0, 1) := by decide +kernel
theorem dX5_whatIs_1 : decode cX5_whatIs 1 = .ok (.iload_n 1, 1) := by decide +kernel
theorem dX5_whatIs_2 : decode cX5_whatIs 2 = .ok (.invokevirtual 93, 3) := by decide +kernel
theorem dX5_whatIs_5 : decode cX5_whatIs 5 = .ok (.ifCond .ne 9, 3) := by decide +kernel
theorem dX5_whatIs_8 : decode cX5_whatIs 8 = .ok (.aload_n 0, 1) := by decide +kernel
theorem dX5_whatIs_9 : decode cX5_whatIs 9 = .ok (.iconst (-1), 1) := by decide +kernel
theorem dX5_whatIs_10 : decode cX5_whatIs 10 = .ok (.invokevirtual 53, 3) := by decide +kernel
theorem dX5_whatIs_13 : decode cX5_whatIs 13 = .ok (.ireturn, 1) := by decide +kernel
theorem dX5_whatIs_14 : decode cX5_whatIs 14 = .ok (.iload_n 2, 1) := by decide +kernel
theorem dX5_whatIs_15 : decode cX5_whatIs 15 = .ok (.invokestatic 125, 3) := by decide +kernel
theorem dX5_whatIs_18 : decode cX5_whatIs 18 = .ok (.ifCond .ne 10, 3) := by decide +kernel
theorem dX5_whatIs_21 : decode cX5_whatIs 21 = .ok (.aload_n 0, 1) := by decide +kernel
theorem dX5_whatIs_22 : decode cX5_whatIs 22 = .ok (.bipush (-2), 2) := by decide +kernel
theorem dX5_whatIs_24 : decode cX5_whatIs 24 = .ok (.invokevirtual 53, 3) := by decide +kernel
theorem dX5_whatIs_27 : decode cX5_whatIs 27 = .ok (.ireturn, 1) := by decide +kernel
theorem dX5_whatIs_28 : decode cX5_whatIs 28 = .ok (.iconst 0, 1) := by decide +kernel
theorem dX5_whatIs_29 : decode cX5_whatIs 29 = .ok (.istore_n 3, 1) := by decide +kernel
theorem dX5_whatIs_30 : decode cX5_whatIs 30 = .ok (.iload_n 2, 1) := by decide +kernel
theorem dX5_whatIs_31 : decode cX5_whatIs 31 = .ok (.ifCond .ne 8, 3) := by decide +kernel
theorem dX5_whatIs_34 : decode cX5_whatIs 34 = .ok (.bipush 6, 2) := by decide +kernel
theorem dX5_whatIs_36 : decode cX5_whatIs 36 = .ok (.goto 5, 3) := by decide +kernel
theorem dX5_whatIs_39 : decode cX5_whatIs 39 = .ok (.bipush 10, 2) := by decide +kernel
theorem dX5_whatIs_41 : decode cX5_whatIs 41 = .ok (.istore 4, 2) := by decide +kernel
theorem dX5_whatIs_43 : decode cX5_whatIs 43 = .ok (.iconst 0, 1) := by decide +kernel
theorem dX5_whatIs_44 : decode cX5_whatIs 44 = .ok (.istore 5, 2) := by decide +kernel
theorem dX5_whatIs_46 : decode cX5_whatIs 46 = .ok (.iload 5, 2) := by decide +kernel
theorem dX5_whatIs_48 : decode cX5_whatIs 48 = .ok (.iload 4, 2) := by decide +kernel
theorem dX5_whatIs_50 : decode cX5_whatIs 50 = .ok (.if_icmp .ge 67, 3) := by decide +kernel
theorem dX5_whatIs_53 : decode cX5_whatIs 53 = .ok (.iload_n 2, 1) := by decide +kernel
theorem dX5_whatIs_54 : decode cX5_whatIs 54 = .ok (.ifCond .ne 8, 3) := by decide +kernel
theorem dX5_whatIs_57 : decode cX5_whatIs 57 = .ok (.iload 5, 2) := by decide +kernel
theorem dX5_whatIs_59 : decode cX5_whatIs 59 = .ok (.goto 12, 3) := by decide +kernel
theorem dX5_whatIs_62 : decode cX5_whatIs 62 = .ok (.aload_n 0, 1) := by decide +kernel
theorem dX5_whatIs_63 : decode cX5_whatIs 63 = .ok (.getfield 10, 3) := by decide +kernel
theorem dX5_whatIs_66 : decode cX5_whatIs 66 = .ok (.getfield 96, 3) := by decide +kernel
theorem dX5_whatIs_69 : decode cX5_whatIs 69 = .ok (.iload_n 1, 1) := by decide +kernel
theorem dX5_whatIs_70 : decode cX5_whatIs 70 = .ok (.iaload, 1) := by decide +kernel
theorem dX5_whatIs_71 : decode cX5_whatIs 71 = .ok (.istore 6, 2) := by decide +kernel
theorem dX5_whatIs_73 : decode cX5_whatIs 73 = .ok (.iload_n 2, 1) := by decide +kernel
theorem dX5_whatIs_74 : decode cX5_whatIs 74 = .ok (.ifCond .ne 15, 3) := by decide +kernel
theorem dX5_whatIs_77 : decode cX5_whatIs 77 = .ok (.aload_n 0, 1) := by decide +kernel
theorem dX5_whatIs_78 : decode cX5_whatIs 78 = .ok (.getfield 10, 3) := by decide +kernel
theorem dX5_whatIs_81 : decode cX5_whatIs 81 = .ok (.getfield 99, 3) := by decide +kernel
theorem dX5_whatIs_84 : decode cX5_whatIs 84 = .ok (.iload_n 1, 1) := by decide +kernel
theorem dX5_whatIs_85 : decode cX5_whatIs 85 = .ok (.iaload, 1) := by decide +kernel
theorem dX5_whatIs_86 : decode cX5_whatIs 86 = .ok (.goto 5, 3) := by decide +kernel
theorem dX5_whatIs_89 : decode cX5_whatIs 89 = .ok (.iload 5, 2) := by decide +kernel
theorem dX5_whatIs_91 : decode cX5_whatIs 91 = .ok (.istore 7, 2) := by decide +kernel
theorem dX5_whatIs_93 : decode cX5_whatIs 93 = .ok (.aload_n 0, 1) := by decide +kernel
theorem dX5_whatIs_94 : decode cX5_whatIs 94 = .ok (.iload 6, 2) := by decide +kernel
theorem dX5_whatIs_96 : decode cX5_whatIs 96 = .ok (.iload 7, 2) := by decide +kernel
theorem dX5_whatIs_98 : decode cX5_whatIs 98 = .ok (.invokevirtual 242, 3) := by decide +kernel
theorem dX5_whatIs_101 : decode cX5_whatIs 101 = .ok (.ifCond .eq 10, 3) := by decide +kernel
theorem dX5_whatIs_104 : decode cX5_whatIs 104 = .ok (.iload_n 3, 1) := by decide +kernel
theorem dX5_whatIs_105 : decode cX5_whatIs 105 = .ok (.iconst 1, 1) := by decide +kernel
theorem dX5_whatIs_106 : decode cX5_whatIs 106 = .ok (.iload 5, 2) := by decide +kernel
theorem dX5_whatIs_108 : decode cX5_whatIs 108 = .ok (.ishl, 1) := by decide +kernel
theorem dX5_whatIs_109 : decode cX5_whatIs 109 = .ok (.ior, 1) := by decide +kernel
theorem dX5_whatIs_110 : decode cX5_whatIs 110 = .ok (.istore_n 3, 1) := by decide +kernel
theorem dX5_whatIs_111 : decode cX5_whatIs 111 = .ok (.iinc 5 1, 3) := by decide +kernel
theorem dX5_whatIs_114 : decode cX5_whatIs 114 = .ok (.goto (-68), 3) := by decide +kernel
theorem dX5_whatIs_117 : decode cX5_whatIs 117 = .ok (.iload_n 3, 1) := by decide +kernel
theorem dX5_whatIs_118 : decode cX5_whatIs 118 = .ok (.ireturn, 1) := by decide +kernel
theorem dX5_row_0 : decode cX5_row 0 = .ok (.iload_n 1, 1) := by decide +kernel
theorem dX5_row_1 : decode cX5_row 1 = .ok (.ifCond .ge 10, 3) := by decide +kernel
theorem dX5_row_4 : decode cX5_row 4 = .ok (.aload_n 0, 1) := by decide +kernel
theorem dX5_row_5 : decode cX5_row 5 = .ok (.bipush (-4), 2) := by decide +kernel
theorem dX5_row_7 : decode cX5_row 7 = .ok (.invokevirtual 53, 3) := by decide +kernel
theorem dX5_row_10 : decode cX5_row 10 = .ok (.ireturn, 1) := by decide +kernel
theorem dX5_row_11 : decode cX5_row 11 = .ok (.iload_n 1, 1) := by decide +kernel
theorem dX5_row_12 : decode cX5_row 12 = .ok (.bipush 99, 2) := by decide +kernel
theorem dX5_row_14 : decode cX5_row 14 = .ok (.if_icmp .gt 12, 3) := by decide +kernel
theorem dX5_row_17 : decode cX5_row 17 = .ok (.aload_n 0, 1) := by decide +kernel
theorem dX5_row_18 : decode cX5_row 18 = .ok (.getfield 245, 3) := by decide +kernel
theorem dX5_row_21 : decode cX5_row 21 = .ok (.bipush 16, 2) := by decide +kernel
theorem dX5_row_23 : decode cX5_row 23 = .ok (.if_icmp .lt 10, 3) := by decide +kernel
theorem dX5_row_26 : decode cX5_row 26 = .ok (.aload_n 0, 1) := by decide +kernel
theorem dX5_row_27 : decode cX5_row 27 = .ok (.bipush (-6), 2) := by decide +kernel
theorem dX5_row_29 : decode cX5_row 29 = .ok (.invokevirtual 53, 3) := by decide +kernel
theorem dX5_row_32 : decode cX5_row 32 = .ok (.ireturn, 1) := by decide +kernel
theorem dX5_row_33 : decode cX5_row 33 = .ok (.aload_n 0, 1) := by decide +kernel
theorem dX5_row_34 : decode cX5_row 34 = .ok (.getfield 43, 3) := by decide +kernel
theorem dX5_row_37 : decode cX5_row 37 = .ok (.aload_n 0, 1) := by decide +kernel
theorem dX5_row_38 : decode cX5_row 38 = .ok (.getfield 245, 3) := by decide +kernel
theorem dX5_row_41 : decode cX5_row 41 = .ok (.iload_n 1, 1) := by decide +kernel
theorem dX5_row_42 : decode cX5_row 42 = .ok (.iastore, 1) := by decide +kernel
theorem dX5_row_43 : decode cX5_row 43 = .ok (.aload_n 0, 1) := by decide +kernel
theorem dX5_row_44 : decode cX5_row 44 = .ok (.dup, 1) := by decide +kernel
theorem dX5_row_45 : decode cX5_row 45 = .ok (.getfield 245, 3) := by decide +kernel
theorem dX5_row_48 : decode cX5_row 48 = .ok (.iconst 1, 1) := by decide +kernel
theorem dX5_row_49 : decode cX5_row 49 = .ok (.iadd, 1) := by decide +kernel
theorem dX5_row_50 : decode cX5_row 50 = .ok (.putfield 245, 3) := by decide +kernel
theorem dX5_row_53 : decode cX5_row 53 = .ok (.aload_n 0, 1) := by decide +kernel
theorem dX5_row_54 : decode cX5_row 54 = .ok (.getfield 245, 3) := by decide +kernel
theorem dX5_row_57 : decode cX5_row 57 = .ok (.ireturn, 1) := by decide +kernel
theorem dX5_judge_0 : decode cX5_judge 0 = .ok (.aload_n 0, 1) := by decide +kernel
theorem dX5_judge_1 : decode cX5_judge 1 = .ok (.invokevirtual 248, 3) := by decide +kernel
theorem dX5_judge_4 : decode cX5_judge 4 = .ok (.istore_n 1, 1) := by decide +kernel
theorem dX5_judge_5 : decode cX5_judge 5 = .ok (.aload_n 0, 1) := by decide +kernel
theorem dX5_judge_6 : decode cX5_judge 6 = .ok (.iconst 0, 1) := by decide +kernel
theorem dX5_judge_7 : decode cX5_judge 7 = .ok (.putfield 245, 3) := by decide +kernel
theorem dX5_judge_10 : decode cX5_judge 10 = .ok (.iload_n 1, 1) := by decide +kernel
theorem dX5_judge_11 : decode cX5_judge 11 = .ok (.ireturn, 1) := by decide +kernel
theorem dX5_clear_0 : decode cX5_clear 0 = .ok (.aload_n 0, 1) := by decide +kernel
theorem dX5_clear_1 : decode cX5_clear 1 = .ok (.getfield 245, 3) := by decide +kernel
theorem dX5_clear_4 : decode cX5_clear 4 = .ok (.istore_n 1, 1) := by decide +kernel
theorem dX5_clear_5 : decode cX5_clear 5 = .ok (.aload_n 0, 1) := by decide +kernel
theorem dX5_clear_6 : decode cX5_clear 6 = .ok (.iconst 0, 1) := by decide +kernel
theorem dX5_clear_7 : decode cX5_clear 7 = .ok (.putfield 245, 3) := by decide +kernel
theorem dX5_clear_10 : decode cX5_clear 10 = .ok (.iload_n 1, 1) := by decide +kernel
theorem dX5_clear_11 : decode cX5_clear 11 = .ok (.ireturn, 1) := by decide +kernel
theorem dX5_lots_0 : decode cX5_lots 0 = .ok (.iload_n 1, 1) := by decide +kernel
theorem dX5_lots_1 : decode cX5_lots 1 = .ok (.iconst 1, 1) := by decide +kernel
theorem dX5_lots_2 : decode cX5_lots 2 = .ok (.if_icmp .ge 10, 3) := by decide +kernel
theorem dX5_lots_5 : decode cX5_lots 5 = .ok (.aload_n 0, 1) := by decide +kernel
theorem dX5_lots_6 : decode cX5_lots 6 = .ok (.bipush (-4), 2) := by decide +kernel
theorem dX5_lots_8 : decode cX5_lots 8 = .ok (.invokevirtual 53, 3) := by decide +kernel
theorem dX5_lots_11 : decode cX5_lots 11 = .ok (.ireturn, 1) := by decide +kernel
theorem dX5_lots_12 : decode cX5_lots 12 = .ok (.iload_n 1, 1) := by decide +kernel
theorem dX5_lots_13 : decode cX5_lots 13 = .ok (.bipush 20, 2) := by decide +kernel
theorem dX5_lots_15 : decode cX5_lots 15 = .ok (.if_icmp .le 10, 3) := by decide +kernel
theorem dX5_lots_18 : decode cX5_lots 18 = .ok (.aload_n 0, 1) := by decide +kernel
theorem dX5_lots_19 : decode cX5_lots 19 = .ok (.bipush (-6), 2) := by decide +kernel
theorem dX5_lots_21 : decode cX5_lots 21 = .ok (.invokevirtual 53, 3) := by decide +kernel
theorem dX5_lots_24 : decode cX5_lots 24 = .ok (.ireturn, 1) := by decide +kernel
theorem dX5_lots_25 : decode cX5_lots 25 = .ok (.iload_n 3, 1) := by decide +kernel
theorem dX5_lots_26 : decode cX5_lots 26 = .ok (.invokestatic 125, 3) := by decide +kernel
theorem dX5_lots_29 : decode cX5_lots 29 = .ok (.ifCond .ne 10, 3) := by decide +kernel
theorem dX5_lots_32 : decode cX5_lots 32 = .ok (.aload_n 0, 1) := by decide +kernel
theorem dX5_lots_33 : decode cX5_lots 33 = .ok (.bipush (-2), 2) := by decide +kernel
theorem dX5_lots_35 : decode cX5_lots 35 = .ok (.invokevirtual 53, 3) := by decide +kernel
theorem dX5_lots_38 : decode cX5_lots 38 = .ok (.ireturn, 1) := by decide +kernel
theorem dX5_lots_39 : decode cX5_lots 39 = .ok (.iload_n 2, 1) := by decide +kernel
theorem dX5_lots_40 : decode cX5_lots 40 = .ok (.istore 4, 2) := by decide +kernel
theorem dX5_lots_42 : decode cX5_lots 42 = .ok (.iconst 0, 1) := by decide +kernel
theorem dX5_lots_43 : decode cX5_lots 43 = .ok (.istore 5, 2) := by decide +kernel
theorem dX5_lots_45 : decode cX5_lots 45 = .ok (.iconst 0, 1) := by decide +kernel
theorem dX5_lots_46 : decode cX5_lots 46 = .ok (.istore 6, 2) := by decide +kernel
theorem dX5_lots_48 : decode cX5_lots 48 = .ok (.iconst 0, 1) := by decide +kernel
theorem dX5_lots_49 : decode cX5_lots 49 = .ok (.istore 7, 2) := by decide +kernel
theorem dX5_lots_51 : decode cX5_lots 51 = .ok (.iload 7, 2) := by decide +kernel
theorem dX5_lots_53 : decode cX5_lots 53 = .ok (.iload_n 1, 1) := by decide +kernel
theorem dX5_lots_54 : decode cX5_lots 54 = .ok (.if_icmp .ge 102, 3) := by decide +kernel
theorem dX5_lots_57 : decode cX5_lots 57 = .ok (.aload_n 0, 1) := by decide +kernel
theorem dX5_lots_58 : decode cX5_lots 58 = .ok (.getfield 10, 3) := by decide +kernel
theorem dX5_lots_61 : decode cX5_lots 61 = .ok (.getfield 76, 3) := by decide +kernel
theorem dX5_lots_64 : decode cX5_lots 64 = .ok (.istore 8, 2) := by decide +kernel
theorem dX5_lots_66 : decode cX5_lots 66 = .ok (.iconst 0, 1) := by decide +kernel
theorem dX5_lots_67 : decode cX5_lots 67 = .ok (.istore 9, 2) := by decide +kernel
theorem dX5_lots_69 : decode cX5_lots 69 = .ok (.iload 9, 2) := by decide +kernel
theorem dX5_lots_71 : decode cX5_lots 71 = .ok (.bipush 6, 2) := by decide +kernel
theorem dX5_lots_73 : decode cX5_lots 73 = .ok (.if_icmp .ge 53, 3) := by decide +kernel
theorem dX5_lots_76 : decode cX5_lots 76 = .ok (.iload 4, 2) := by decide +kernel
theorem dX5_lots_78 : decode cX5_lots 78 = .ok (.invokestatic 251, 3) := by decide +kernel
theorem dX5_lots_81 : decode cX5_lots 81 = .ok (.istore 10, 2) := by decide +kernel
theorem dX5_lots_83 : decode cX5_lots 83 = .ok (.iload 10, 2) := by decide +kernel
theorem dX5_lots_85 : decode cX5_lots 85 = .ok (.invokestatic 251, 3) := by decide +kernel
theorem dX5_lots_88 : decode cX5_lots 88 = .ok (.istore 4, 2) := by decide +kernel
theorem dX5_lots_90 : decode cX5_lots 90 = .ok (.iload 10, 2) := by decide +kernel
theorem dX5_lots_92 : decode cX5_lots 92 = .ok (.invokestatic 254, 3) := by decide +kernel
theorem dX5_lots_95 : decode cX5_lots 95 = .ok (.iconst 4, 1) := by decide +kernel
theorem dX5_lots_96 : decode cX5_lots 96 = .ok (.irem, 1) := by decide +kernel
theorem dX5_lots_97 : decode cX5_lots 97 = .ok (.bipush 25, 2) := by decide +kernel
theorem dX5_lots_99 : decode cX5_lots 99 = .ok (.imul, 1) := by decide +kernel
theorem dX5_lots_100 : decode cX5_lots 100 = .ok (.iload 4, 2) := by decide +kernel
theorem dX5_lots_102 : decode cX5_lots 102 = .ok (.invokestatic 254, 3) := by decide +kernel
theorem dX5_lots_105 : decode cX5_lots 105 = .ok (.bipush 25, 2) := by decide +kernel
theorem dX5_lots_107 : decode cX5_lots 107 = .ok (.irem, 1) := by decide +kernel
theorem dX5_lots_108 : decode cX5_lots 108 = .ok (.iadd, 1) := by decide +kernel
theorem dX5_lots_109 : decode cX5_lots 109 = .ok (.istore 11, 2) := by decide +kernel
theorem dX5_lots_111 : decode cX5_lots 111 = .ok (.iload 11, 2) := by decide +kernel
theorem dX5_lots_113 : decode cX5_lots 113 = .ok (.iload 8, 2) := by decide +kernel
theorem dX5_lots_115 : decode cX5_lots 115 = .ok (.invokestatic 159, 3) := by decide +kernel
theorem dX5_lots_118 : decode cX5_lots 118 = .ok (.istore 8, 2) := by decide +kernel
theorem dX5_lots_120 : decode cX5_lots 120 = .ok (.iinc 9 1, 3) := by decide +kernel
theorem dX5_lots_123 : decode cX5_lots 123 = .ok (.goto (-54), 3) := by decide +kernel
theorem dX5_lots_126 : decode cX5_lots 126 = .ok (.iload 5, 2) := by decide +kernel
theorem dX5_lots_128 : decode cX5_lots 128 = .ok (.aload_n 0, 1) := by decide +kernel
theorem dX5_lots_129 : decode cX5_lots 129 = .ok (.iload 8, 2) := by decide +kernel
theorem dX5_lots_131 : decode cX5_lots 131 = .ok (.invokevirtual 128, 3) := by decide +kernel
theorem dX5_lots_134 : decode cX5_lots 134 = .ok (.iadd, 1) := by decide +kernel
theorem dX5_lots_135 : decode cX5_lots 135 = .ok (.istore 5, 2) := by decide +kernel
theorem dX5_lots_137 : decode cX5_lots 137 = .ok (.aload_n 0, 1) := by decide +kernel
theorem dX5_lots_138 : decode cX5_lots 138 = .ok (.getfield 25, 3) := by decide +kernel
theorem dX5_lots_141 : decode cX5_lots 141 = .ok (.invokevirtual 144, 3) := by decide +kernel
theorem dX5_lots_144 : decode cX5_lots 144 = .ok (.ifCond .eq 6, 3) := by decide +kernel
theorem dX5_lots_147 : decode cX5_lots 147 = .ok (.iinc 6 1, 3) := by decide +kernel
theorem dX5_lots_150 : decode cX5_lots 150 = .ok (.iinc 7 1, 3) := by decide +kernel
theorem dX5_lots_153 : decode cX5_lots 153 = .ok (.goto (-102), 3) := by decide +kernel
theorem dX5_lots_156 : decode cX5_lots 156 = .ok (.iload_n 3, 1) := by decide +kernel
theorem dX5_lots_157 : decode cX5_lots 157 = .ok (.ifCond .ne 8, 3) := by decide +kernel
theorem dX5_lots_160 : decode cX5_lots 160 = .ok (.iload 5, 2) := by decide +kernel
theorem dX5_lots_162 : decode cX5_lots 162 = .ok (.goto 5, 3) := by decide +kernel
theorem dX5_lots_165 : decode cX5_lots 165 = .ok (.iload 6, 2) := by decide +kernel
theorem dX5_lots_167 : decode cX5_lots 167 = .ok (.ireturn, 1) := by decide +kernel
theorem dX5_image_0 : decode cX5_image 0 = .ok (.aload_n 0, 1) := by decide +kernel
theorem dX5_image_1 : decode cX5_image 1 = .ok (.getfield 16, 3) := by decide +kernel
theorem dX5_image_4 : decode cX5_image 4 = .ok (.aload_n 0, 1) := by decide +kernel
theorem dX5_image_5 : decode cX5_image 5 = .ok (.getfield 10, 3) := by decide +kernel
theorem dX5_image_8 : decode cX5_image 8 = .ok (.invokevirtual 68, 3) := by decide +kernel
theorem dX5_image_11 : decode cX5_image 11 = .ok (.aload_n 0, 1) := by decide +kernel
theorem dX5_image_12 : decode cX5_image 12 = .ok (.iconst 1, 1) := by decide +kernel
theorem dX5_image_13 : decode cX5_image 13 = .ok (.putfield 257, 3) := by decide +kernel
theorem dX5_image_16 : decode cX5_image 16 = .ok (.aload_n 0, 1) := by decide +kernel
theorem dX5_image_17 : decode cX5_image 17 = .ok (.getfield 10, 3) := by decide +kernel
theorem dX5_image_20 : decode cX5_image 20 = .ok (.getfield 118, 3) := by decide +kernel
theorem dX5_image_23 : decode cX5_image 23 = .ok (.ireturn, 1) := by decide +kernel
theorem dX5_on_0 : decode cX5_on 0 = .ok (.aload_n 0, 1) := by decide +kernel
theorem dX5_on_1 : decode cX5_on 1 = .ok (.getfield 257, 3) := by decide +kernel
theorem dX5_on_4 : decode cX5_on 4 = .ok (.ifCond .ne 10, 3) := by decide +kernel
theorem dX5_on_7 : decode cX5_on 7 = .ok (.aload_n 0, 1) := by decide +kernel
theorem dX5_on_8 : decode cX5_on 8 = .ok (.bipush (-3), 2) := by decide +kernel
theorem dX5_on_10 : decode cX5_on 10 = .ok (.invokevirtual 53, 3) := by decide +kernel
theorem dX5_on_13 : decode cX5_on 13 = .ok (.ireturn, 1) := by decide +kernel
theorem dX5_on_14 : decode cX5_on 14 = .ok (.aload_n 0, 1) := by decide +kernel
theorem dX5_on_15 : decode cX5_on 15 = .ok (.getfield 10, 3) := by decide +kernel
theorem dX5_on_18 : decode cX5_on 18 = .ok (.aload_n 0, 1) := by decide +kernel
theorem dX5_on_19 : decode cX5_on 19 = .ok (.getfield 16, 3) := by decide +kernel
theorem dX5_on_22 : decode cX5_on 22 = .ok (.invokevirtual 68, 3) := by decide +kernel
theorem dX5_on_25 : decode cX5_on 25 = .ok (.aload_n 0, 1) := by decide +kernel
theorem dX5_on_26 : decode cX5_on 26 = .ok (.getfield 10, 3) := by decide +kernel
theorem dX5_on_29 : decode cX5_on 29 = .ok (.getfield 118, 3) := by decide +kernel
theorem dX5_on_32 : decode cX5_on 32 = .ok (.ireturn, 1) := by decide +kernel
theorem dX5_count_0 : decode cX5_count 0 = .ok (.iload_n 1, 1) := by decide +kernel
theorem dX5_count_1 : decode cX5_count 1 = .ok (.tableswitch 127 0 7 #[47, 55, 63, 71, 82, 94, 114, 119], 47) := by decide +kernel
theorem dX5_count_48 : decode cX5_count 48 = .ok (.aload_n 0, 1) := by decide +kernel
theorem dX5_count_49 : decode cX5_count 49 = .ok (.getfield 10, 3) := by decide +kernel
theorem dX5_count_52 : decode cX5_count 52 = .ok (.getfield 217, 3) := by decide +kernel
theorem dX5_count_55 : decode cX5_count 55 = .ok (.ireturn, 1) := by decide +kernel
theorem dX5_count_56 : decode cX5_count 56 = .ok (.aload_n 0, 1) := by decide +kernel
theorem dX5_count_57 : decode cX5_count 57 = .ok (.getfield 10, 3) := by decide +kernel
theorem dX5_count_60 : decode cX5_count 60 = .ok (.getfield 118, 3) := by decide +kernel
theorem dX5_count_63 : decode cX5_count 63 = .ok (.ireturn, 1) := by decide +kernel
theorem dX5_count_64 : decode cX5_count 64 = .ok (.aload_n 0, 1) := by decide +kernel
theorem dX5_count_65 : decode cX5_count 65 = .ok (.getfield 10, 3) := by decide +kernel
theorem dX5_count_68 : decode cX5_count 68 = .ok (.getfield 76, 3) := by decide +kernel
theorem dX5_count_71 : decode cX5_count 71 = .ok (.ireturn, 1) := by decide +kernel
theorem dX5_count_72 : decode cX5_count 72 = .ok (.aload_n 0, 1) := by decide +kernel
theorem dX5_count_73 : decode cX5_count 73 = .ok (.getfield 10, 3) := by decide +kernel
theorem dX5_count_76 : decode cX5_count 76 = .ok (.getfield 76, 3) := by decide +kernel
theorem dX5_count_79 : decode cX5_count 79 = .ok (.invokestatic 84, 3) := by decide +kernel
theorem dX5_count_82 : decode cX5_count 82 = .ok (.ireturn, 1) := by decide +kernel
theorem dX5_count_83 : decode cX5_count 83 = .ok (.aload_n 0, 1) := by decide +kernel
theorem dX5_count_84 : decode cX5_count 84 = .ok (.aload_n 0, 1) := by decide +kernel
theorem dX5_count_85 : decode cX5_count 85 = .ok (.getfield 10, 3) := by decide +kernel
theorem dX5_count_88 : decode cX5_count 88 = .ok (.getfield 76, 3) := by decide +kernel
theorem dX5_count_91 : decode cX5_count 91 = .ok (.invokevirtual 128, 3) := by decide +kernel
theorem dX5_count_94 : decode cX5_count 94 = .ok (.ireturn, 1) := by decide +kernel
theorem dX5_count_95 : decode cX5_count 95 = .ok (.aload_n 0, 1) := by decide +kernel
theorem dX5_count_96 : decode cX5_count 96 = .ok (.aload_n 0, 1) := by decide +kernel
theorem dX5_count_97 : decode cX5_count 97 = .ok (.getfield 10, 3) := by decide +kernel
theorem dX5_count_100 : decode cX5_count 100 = .ok (.getfield 76, 3) := by decide +kernel
theorem dX5_count_103 : decode cX5_count 103 = .ok (.invokevirtual 179, 3) := by decide +kernel
theorem dX5_count_106 : decode cX5_count 106 = .ok (.ifCond .eq 7, 3) := by decide +kernel
theorem dX5_count_109 : decode cX5_count 109 = .ok (.iconst 0, 1) := by decide +kernel
theorem dX5_count_110 : decode cX5_count 110 = .ok (.goto 4, 3) := by decide +kernel
theorem dX5_count_113 : decode cX5_count 113 = .ok (.iconst 1, 1) := by decide +kernel
theorem dX5_count_114 : decode cX5_count 114 = .ok (.ireturn, 1) := by decide +kernel
theorem dX5_count_115 : decode cX5_count 115 = .ok (.aload_n 0, 1) := by decide +kernel
theorem dX5_count_116 : decode cX5_count 116 = .ok (.getfield 245, 3) := by decide +kernel
theorem dX5_count_119 : decode cX5_count 119 = .ok (.ireturn, 1) := by decide +kernel
theorem dX5_count_120 : decode cX5_count 120 = .ok (.aload_n 0, 1) := by decide +kernel
theorem dX5_count_121 : decode cX5_count 121 = .ok (.getfield 39, 3) := by decide +kernel
theorem dX5_count_124 : decode cX5_count 124 = .ok (.getfield 57, 3) := by decide +kernel
theorem dX5_count_127 : decode cX5_count 127 = .ok (.ireturn, 1) := by decide +kernel
