theorem dX0_init_0 : decode cX0_init 0 = .ok (.aload_n 0, 1) := by decide +kernel
theorem dX0_init_1 : decode cX0_init 1 = .ok (.invokespecial 3, 3) := by decide +kernel
theorem dX0_init_4 : decode cX0_init 4 = .ok (.aload_n 0, 1) := by decide +kernel
theorem dX0_init_5 : decode cX0_init 5 = .ok (.bipush 50, 2) := by decide +kernel
theorem dX0_init_7 : decode cX0_init 7 = .ok (.newarray .int, 2) := by decide +kernel
theorem dX0_init_9 : decode cX0_init 9 = .ok (.putfield 11, 3) := by decide +kernel
theorem dX0_init_12 : decode cX0_init 12 = .ok (.aload_n 0, 1) := by decide +kernel
theorem dX0_init_13 : decode cX0_init 13 = .ok (.bipush 24, 2) := by decide +kernel
theorem dX0_init_15 : decode cX0_init 15 = .ok (.newarray .int, 2) := by decide +kernel
theorem dX0_init_17 : decode cX0_init 17 = .ok (.putfield 15, 3) := by decide +kernel
theorem dX0_init_20 : decode cX0_init 20 = .ok (.return_, 1) := by decide +kernel
theorem dX0_add_0 : decode cX0_add 0 = .ok (.iload_n 1, 1) := by decide +kernel
theorem dX0_add_1 : decode cX0_add 1 = .ok (.invokestatic 18, 3) := by decide +kernel
theorem dX0_add_4 : decode cX0_add 4 = .ok (.ifCond .ne 5, 3) := by decide +kernel
theorem dX0_add_7 : decode cX0_add 7 = .ok (.iconst (-1), 1) := by decide +kernel
theorem dX0_add_8 : decode cX0_add 8 = .ok (.ireturn, 1) := by decide +kernel
theorem dX0_add_9 : decode cX0_add 9 = .ok (.aload_n 0, 1) := by decide +kernel
theorem dX0_add_10 : decode cX0_add 10 = .ok (.getfield 22, 3) := by decide +kernel
theorem dX0_add_13 : decode cX0_add 13 = .ok (.bipush 50, 2) := by decide +kernel
theorem dX0_add_15 : decode cX0_add 15 = .ok (.if_icmp .lt 6, 3) := by decide +kernel
theorem dX0_add_18 : decode cX0_add 18 = .ok (.bipush (-3), 2) := by decide +kernel
theorem dX0_add_20 : decode cX0_add 20 = .ok (.ireturn, 1) := by decide +kernel
theorem dX0_add_21 : decode cX0_add 21 = .ok (.aload_n 0, 1) := by decide +kernel
theorem dX0_add_22 : decode cX0_add 22 = .ok (.getfield 11, 3) := by decide +kernel
theorem dX0_add_25 : decode cX0_add 25 = .ok (.aload_n 0, 1) := by decide +kernel
theorem dX0_add_26 : decode cX0_add 26 = .ok (.getfield 22, 3) := by decide +kernel
theorem dX0_add_29 : decode cX0_add 29 = .ok (.iload_n 1, 1) := by decide +kernel
theorem dX0_add_30 : decode cX0_add 30 = .ok (.iastore, 1) := by decide +kernel
theorem dX0_add_31 : decode cX0_add 31 = .ok (.aload_n 0, 1) := by decide +kernel
theorem dX0_add_32 : decode cX0_add 32 = .ok (.dup, 1) := by decide +kernel
theorem dX0_add_33 : decode cX0_add 33 = .ok (.getfield 22, 3) := by decide +kernel
theorem dX0_add_36 : decode cX0_add 36 = .ok (.iconst 1, 1) := by decide +kernel
theorem dX0_add_37 : decode cX0_add 37 = .ok (.iadd, 1) := by decide +kernel
theorem dX0_add_38 : decode cX0_add 38 = .ok (.putfield 22, 3) := by decide +kernel
theorem dX0_add_41 : decode cX0_add 41 = .ok (.aload_n 0, 1) := by decide +kernel
theorem dX0_add_42 : decode cX0_add 42 = .ok (.getfield 22, 3) := by decide +kernel
theorem dX0_add_45 : decode cX0_add 45 = .ok (.iconst 1, 1) := by decide +kernel
theorem dX0_add_46 : decode cX0_add 46 = .ok (.isub, 1) := by decide +kernel
theorem dX0_add_47 : decode cX0_add 47 = .ok (.ireturn, 1) := by decide +kernel
theorem dX0_isKind_0 : decode cX0_isKind 0 = .ok (.iload_n 0, 1) := by decide +kernel
theorem dX0_isKind_1 : decode cX0_isKind 1 = .ok (.ifCond .lt 13, 3) := by decide +kernel
theorem dX0_isKind_4 : decode cX0_isKind 4 = .ok (.iload_n 0, 1) := by decide +kernel
theorem dX0_isKind_5 : decode cX0_isKind 5 = .ok (.bipush 8, 2) := by decide +kernel
theorem dX0_isKind_7 : decode cX0_isKind 7 = .ok (.if_icmp .ge 7, 3) := by decide +kernel
theorem dX0_isKind_10 : decode cX0_isKind 10 = .ok (.iconst 1, 1) := by decide +kernel
theorem dX0_isKind_11 : decode cX0_isKind 11 = .ok (.goto 4, 3) := by decide +kernel
theorem dX0_isKind_14 : decode cX0_isKind 14 = .ok (.iconst 0, 1) := by decide +kernel
theorem dX0_isKind_15 : decode cX0_isKind 15 = .ok (.ireturn, 1) := by decide +kernel
theorem dX0_isBody_0 : decode cX0_isBody 0 = .ok (.iload_n 1, 1) := by decide +kernel
theorem dX0_isBody_1 : decode cX0_isBody 1 = .ok (.ifCond .lt 15, 3) := by decide +kernel
theorem dX0_isBody_4 : decode cX0_isBody 4 = .ok (.iload_n 1, 1) := by decide +kernel
theorem dX0_isBody_5 : decode cX0_isBody 5 = .ok (.aload_n 0, 1) := by decide +kernel
theorem dX0_isBody_6 : decode cX0_isBody 6 = .ok (.getfield 22, 3) := by decide +kernel
theorem dX0_isBody_9 : decode cX0_isBody 9 = .ok (.if_icmp .ge 7, 3) := by decide +kernel
theorem dX0_isBody_12 : decode cX0_isBody 12 = .ok (.iconst 1, 1) := by decide +kernel
theorem dX0_isBody_13 : decode cX0_isBody 13 = .ok (.goto 4, 3) := by decide +kernel
theorem dX0_isBody_16 : decode cX0_isBody 16 = .ok (.iconst 0, 1) := by decide +kernel
theorem dX0_isBody_17 : decode cX0_isBody 17 = .ok (.ireturn, 1) := by decide +kernel
theorem dX0_kindOf_0 : decode cX0_kindOf 0 = .ok (.aload_n 0, 1) := by decide +kernel
theorem dX0_kindOf_1 : decode cX0_kindOf 1 = .ok (.iload_n 1, 1) := by decide +kernel
theorem dX0_kindOf_2 : decode cX0_kindOf 2 = .ok (.invokevirtual 26, 3) := by decide +kernel
theorem dX0_kindOf_5 : decode cX0_kindOf 5 = .ok (.ifCond .eq 12, 3) := by decide +kernel
theorem dX0_kindOf_8 : decode cX0_kindOf 8 = .ok (.aload_n 0, 1) := by decide +kernel
theorem dX0_kindOf_9 : decode cX0_kindOf 9 = .ok (.getfield 11, 3) := by decide +kernel
theorem dX0_kindOf_12 : decode cX0_kindOf 12 = .ok (.iload_n 1, 1) := by decide +kernel
theorem dX0_kindOf_13 : decode cX0_kindOf 13 = .ok (.iaload, 1) := by decide +kernel
theorem dX0_kindOf_14 : decode cX0_kindOf 14 = .ok (.goto 4, 3) := by decide +kernel
theorem dX0_kindOf_17 : decode cX0_kindOf 17 = .ok (.iconst (-1), 1) := by decide +kernel
theorem dX0_kindOf_18 : decode cX0_kindOf 18 = .ok (.ireturn, 1) := by decide +kernel
theorem dX0_isUnder_0 : decode cX0_isUnder 0 = .ok (.iload_n 1, 1) := by decide +kernel
theorem dX0_isUnder_1 : decode cX0_isUnder 1 = .ok (.istore_n 3, 1) := by decide +kernel
theorem dX0_isUnder_2 : decode cX0_isUnder 2 = .ok (.iconst 0, 1) := by decide +kernel
theorem dX0_isUnder_3 : decode cX0_isUnder 3 = .ok (.istore 4, 2) := by decide +kernel
theorem dX0_isUnder_5 : decode cX0_isUnder 5 = .ok (.iload 4, 2) := by decide +kernel
theorem dX0_isUnder_7 : decode cX0_isUnder 7 = .ok (.bipush 8, 2) := by decide +kernel
theorem dX0_isUnder_9 : decode cX0_isUnder 9 = .ok (.if_icmp .ge 29, 3) := by decide +kernel
theorem dX0_isUnder_12 : decode cX0_isUnder 12 = .ok (.iload_n 3, 1) := by decide +kernel
theorem dX0_isUnder_13 : decode cX0_isUnder 13 = .ok (.invokestatic 18, 3) := by decide +kernel
theorem dX0_isUnder_16 : decode cX0_isUnder 16 = .ok (.ifCond .eq 22, 3) := by decide +kernel
theorem dX0_isUnder_19 : decode cX0_isUnder 19 = .ok (.iload_n 3, 1) := by decide +kernel
theorem dX0_isUnder_20 : decode cX0_isUnder 20 = .ok (.iload_n 2, 1) := by decide +kernel
theorem dX0_isUnder_21 : decode cX0_isUnder 21 = .ok (.if_icmp .ne 5, 3) := by decide +kernel
theorem dX0_isUnder_24 : decode cX0_isUnder 24 = .ok (.iconst 1, 1) := by decide +kernel
theorem dX0_isUnder_25 : decode cX0_isUnder 25 = .ok (.ireturn, 1) := by decide +kernel
theorem dX0_isUnder_26 : decode cX0_isUnder 26 = .ok (.getstatic 29, 3) := by decide +kernel
theorem dX0_isUnder_29 : decode cX0_isUnder 29 = .ok (.iload_n 3, 1) := by decide +kernel
theorem dX0_isUnder_30 : decode cX0_isUnder 30 = .ok (.iaload, 1) := by decide +kernel
theorem dX0_isUnder_31 : decode cX0_isUnder 31 = .ok (.istore_n 3, 1) := by decide +kernel
theorem dX0_isUnder_32 : decode cX0_isUnder 32 = .ok (.iinc 4 1, 3) := by decide +kernel
theorem dX0_isUnder_35 : decode cX0_isUnder 35 = .ok (.goto (-30), 3) := by decide +kernel
theorem dX0_isUnder_38 : decode cX0_isUnder 38 = .ok (.iconst 0, 1) := by decide +kernel
theorem dX0_isUnder_39 : decode cX0_isUnder 39 = .ok (.ireturn, 1) := by decide +kernel
theorem dX0_traceAt_0 : decode cX0_traceAt 0 = .ok (.iload_n 1, 1) := by decide +kernel
theorem dX0_traceAt_1 : decode cX0_traceAt 1 = .ok (.ifCond .lt 26, 3) := by decide +kernel
theorem dX0_traceAt_4 : decode cX0_traceAt 4 = .ok (.iload_n 1, 1) := by decide +kernel
theorem dX0_traceAt_5 : decode cX0_traceAt 5 = .ok (.aload_n 0, 1) := by decide +kernel
theorem dX0_traceAt_6 : decode cX0_traceAt 6 = .ok (.getfield 32, 3) := by decide +kernel
theorem dX0_traceAt_9 : decode cX0_traceAt 9 = .ok (.if_icmp .ge 18, 3) := by decide +kernel
theorem dX0_traceAt_12 : decode cX0_traceAt 12 = .ok (.iload_n 1, 1) := by decide +kernel
theorem dX0_traceAt_13 : decode cX0_traceAt 13 = .ok (.bipush 24, 2) := by decide +kernel
theorem dX0_traceAt_15 : decode cX0_traceAt 15 = .ok (.if_icmp .ge 12, 3) := by decide +kernel
theorem dX0_traceAt_18 : decode cX0_traceAt 18 = .ok (.aload_n 0, 1) := by decide +kernel
theorem dX0_traceAt_19 : decode cX0_traceAt 19 = .ok (.getfield 15, 3) := by decide +kernel
theorem dX0_traceAt_22 : decode cX0_traceAt 22 = .ok (.iload_n 1, 1) := by decide +kernel
theorem dX0_traceAt_23 : decode cX0_traceAt 23 = .ok (.iaload, 1) := by decide +kernel
theorem dX0_traceAt_24 : decode cX0_traceAt 24 = .ok (.goto 4, 3) := by decide +kernel
theorem dX0_traceAt_27 : decode cX0_traceAt 27 = .ok (.iconst (-1), 1) := by decide +kernel
theorem dX0_traceAt_28 : decode cX0_traceAt 28 = .ok (.ireturn, 1) := by decide +kernel
theorem dX0_perform_0 : decode cX0_perform 0 = .ok (.aload_n 0, 1) := by decide +kernel
theorem dX0_perform_1 : decode cX0_perform 1 = .ok (.iconst 0, 1) := by decide +kernel
theorem dX0_perform_2 : decode cX0_perform 2 = .ok (.putfield 32, 3) := by decide +kernel
theorem dX0_perform_5 : decode cX0_perform 5 = .ok (.aload_n 0, 1) := by decide +kernel
theorem dX0_perform_6 : decode cX0_perform 6 = .ok (.iload_n 1, 1) := by decide +kernel
theorem dX0_perform_7 : decode cX0_perform 7 = .ok (.invokevirtual 26, 3) := by decide +kernel
theorem dX0_perform_10 : decode cX0_perform 10 = .ok (.ifCond .eq 12, 3) := by decide +kernel
theorem dX0_perform_13 : decode cX0_perform 13 = .ok (.iload_n 2, 1) := by decide +kernel
theorem dX0_perform_14 : decode cX0_perform 14 = .ok (.ifCond .lt 8, 3) := by decide +kernel
theorem dX0_perform_17 : decode cX0_perform 17 = .ok (.iload_n 2, 1) := by decide +kernel
theorem dX0_perform_18 : decode cX0_perform 18 = .ok (.iconst 4, 1) := by decide +kernel
theorem dX0_perform_19 : decode cX0_perform 19 = .ok (.if_icmp .lt 5, 3) := by decide +kernel
theorem dX0_perform_22 : decode cX0_perform 22 = .ok (.iconst 0, 1) := by decide +kernel
theorem dX0_perform_23 : decode cX0_perform 23 = .ok (.ireturn, 1) := by decide +kernel
theorem dX0_perform_24 : decode cX0_perform 24 = .ok (.aload_n 0, 1) := by decide +kernel
theorem dX0_perform_25 : decode cX0_perform 25 = .ok (.iload_n 1, 1) := by decide +kernel
theorem dX0_perform_26 : decode cX0_perform 26 = .ok (.iload_n 2, 1) := by decide +kernel
theorem dX0_perform_27 : decode cX0_perform 27 = .ok (.iload_n 3, 1) := by decide +kernel
theorem dX0_perform_28 : decode cX0_perform 28 = .ok (.iconst 0, 1) := by decide +kernel
theorem dX0_perform_29 : decode cX0_perform 29 = .ok (.invokevirtual 35, 3) := by decide +kernel
theorem dX0_perform_32 : decode cX0_perform 32 = .ok (.ireturn, 1) := by decide +kernel
theorem dX0_bodyFrom_0 : decode cX0_bodyFrom 0 = .ok (.iload_n 0, 1) := by decide +kernel
theorem dX0_bodyFrom_1 : decode cX0_bodyFrom 1 = .ok (.istore_n 2, 1) := by decide +kernel
theorem dX0_bodyFrom_2 : decode cX0_bodyFrom 2 = .ok (.iconst 0, 1) := by decide +kernel
theorem dX0_bodyFrom_3 : decode cX0_bodyFrom 3 = .ok (.istore_n 3, 1) := by decide +kernel
theorem dX0_bodyFrom_4 : decode cX0_bodyFrom 4 = .ok (.iload_n 3, 1) := by decide +kernel
theorem dX0_bodyFrom_5 : decode cX0_bodyFrom 5 = .ok (.bipush 8, 2) := by decide +kernel
theorem dX0_bodyFrom_7 : decode cX0_bodyFrom 7 = .ok (.if_icmp .ge 41, 3) := by decide +kernel
theorem dX0_bodyFrom_10 : decode cX0_bodyFrom 10 = .ok (.iload_n 2, 1) := by decide +kernel
theorem dX0_bodyFrom_11 : decode cX0_bodyFrom 11 = .ok (.invokestatic 18, 3) := by decide +kernel
theorem dX0_bodyFrom_14 : decode cX0_bodyFrom 14 = .ok (.ifCond .eq 34, 3) := by decide +kernel
theorem dX0_bodyFrom_17 : decode cX0_bodyFrom 17 = .ok (.getstatic 39, 3) := by decide +kernel
theorem dX0_bodyFrom_20 : decode cX0_bodyFrom 20 = .ok (.iload_n 2, 1) := by decide +kernel
theorem dX0_bodyFrom_21 : decode cX0_bodyFrom 21 = .ok (.iconst 4, 1) := by decide +kernel
theorem dX0_bodyFrom_22 : decode cX0_bodyFrom 22 = .ok (.imul, 1) := by decide +kernel
theorem dX0_bodyFrom_23 : decode cX0_bodyFrom 23 = .ok (.iload_n 1, 1) := by decide +kernel
theorem dX0_bodyFrom_24 : decode cX0_bodyFrom 24 = .ok (.iadd, 1) := by decide +kernel
theorem dX0_bodyFrom_25 : decode cX0_bodyFrom 25 = .ok (.iaload, 1) := by decide +kernel
theorem dX0_bodyFrom_26 : decode cX0_bodyFrom 26 = .ok (.istore 4, 2) := by decide +kernel
theorem dX0_bodyFrom_28 : decode cX0_bodyFrom 28 = .ok (.iload 4, 2) := by decide +kernel
theorem dX0_bodyFrom_30 : decode cX0_bodyFrom 30 = .ok (.ifCond .eq 6, 3) := by decide +kernel
theorem dX0_bodyFrom_33 : decode cX0_bodyFrom 33 = .ok (.iload 4, 2) := by decide +kernel
theorem dX0_bodyFrom_35 : decode cX0_bodyFrom 35 = .ok (.ireturn, 1) := by decide +kernel
theorem dX0_bodyFrom_36 : decode cX0_bodyFrom 36 = .ok (.getstatic 29, 3) := by decide +kernel
theorem dX0_bodyFrom_39 : decode cX0_bodyFrom 39 = .ok (.iload_n 2, 1) := by decide +kernel
theorem dX0_bodyFrom_40 : decode cX0_bodyFrom 40 = .ok (.iaload, 1) := by decide +kernel
theorem dX0_bodyFrom_41 : decode cX0_bodyFrom 41 = .ok (.istore_n 2, 1) := by decide +kernel
theorem dX0_bodyFrom_42 : decode cX0_bodyFrom 42 = .ok (.iinc 3 1, 3) := by decide +kernel
theorem dX0_bodyFrom_45 : decode cX0_bodyFrom 45 = .ok (.goto (-41), 3) := by decide +kernel
theorem dX0_bodyFrom_48 : decode cX0_bodyFrom 48 = .ok (.iconst 0, 1) := by decide +kernel
theorem dX0_bodyFrom_49 : decode cX0_bodyFrom 49 = .ok (.ireturn, 1) := by decide +kernel
theorem dX0_own_0 : decode cX0_own 0 = .ok (.aload_n 0, 1) := by decide +kernel
theorem dX0_own_1 : decode cX0_own 1 = .ok (.iload_n 1, 1) := by decide +kernel
theorem dX0_own_2 : decode cX0_own 2 = .ok (.aload_n 0, 1) := by decide +kernel
theorem dX0_own_3 : decode cX0_own 3 = .ok (.iload_n 1, 1) := by decide +kernel
theorem dX0_own_4 : decode cX0_own 4 = .ok (.invokevirtual 42, 3) := by decide +kernel
theorem dX0_own_7 : decode cX0_own 7 = .ok (.iload_n 2, 1) := by decide +kernel
theorem dX0_own_8 : decode cX0_own 8 = .ok (.invokestatic 46, 3) := by decide +kernel
theorem dX0_own_11 : decode cX0_own 11 = .ok (.iload_n 3, 1) := by decide +kernel
theorem dX0_own_12 : decode cX0_own 12 = .ok (.iload 4, 2) := by decide +kernel
theorem dX0_own_14 : decode cX0_own 14 = .ok (.iconst 1, 1) := by decide +kernel
theorem dX0_own_15 : decode cX0_own 15 = .ok (.iadd, 1) := by decide +kernel
theorem dX0_own_16 : decode cX0_own 16 = .ok (.invokevirtual 50, 3) := by decide +kernel
theorem dX0_own_19 : decode cX0_own 19 = .ok (.ireturn, 1) := by decide +kernel
theorem dX0_above_0 : decode cX0_above 0 = .ok (.aload_n 0, 1) := by decide +kernel
theorem dX0_above_1 : decode cX0_above 1 = .ok (.iload_n 1, 1) := by decide +kernel
theorem dX0_above_2 : decode cX0_above 2 = .ok (.getstatic 29, 3) := by decide +kernel
theorem dX0_above_5 : decode cX0_above 5 = .ok (.iload_n 2, 1) := by decide +kernel
theorem dX0_above_6 : decode cX0_above 6 = .ok (.iaload, 1) := by decide +kernel
theorem dX0_above_7 : decode cX0_above 7 = .ok (.iload_n 3, 1) := by decide +kernel
theorem dX0_above_8 : decode cX0_above 8 = .ok (.invokestatic 46, 3) := by decide +kernel
theorem dX0_above_11 : decode cX0_above 11 = .ok (.iload 4, 2) := by decide +kernel
theorem dX0_above_13 : decode cX0_above 13 = .ok (.iload 5, 2) := by decide +kernel
theorem dX0_above_15 : decode cX0_above 15 = .ok (.iconst 1, 1) := by decide +kernel
theorem dX0_above_16 : decode cX0_above 16 = .ok (.iadd, 1) := by decide +kernel
theorem dX0_above_17 : decode cX0_above 17 = .ok (.invokevirtual 50, 3) := by decide +kernel
theorem dX0_above_20 : decode cX0_above 20 = .ok (.ireturn, 1) := by decide +kernel
theorem dX0_run_0 : decode cX0_run 0 = .ok (.iload 4, 2) := by decide +kernel
theorem dX0_run_2 : decode cX0_run 2 = .ok (.bipush 40, 2) := by decide +kernel
theorem dX0_run_4 : decode cX0_run 4 = .ok (.if_icmp .le 5, 3) := by decide +kernel
theorem dX0_run_7 : decode cX0_run 7 = .ok (.iconst 0, 1) := by decide +kernel
theorem dX0_run_8 : decode cX0_run 8 = .ok (.ireturn, 1) := by decide +kernel
theorem dX0_run_9 : decode cX0_run 9 = .ok (.aload_n 0, 1) := by decide +kernel
theorem dX0_run_10 : decode cX0_run 10 = .ok (.getfield 32, 3) := by decide +kernel
theorem dX0_run_13 : decode cX0_run 13 = .ok (.bipush 24, 2) := by decide +kernel
theorem dX0_run_15 : decode cX0_run 15 = .ok (.if_icmp .ge 13, 3) := by decide +kernel
theorem dX0_run_18 : decode cX0_run 18 = .ok (.aload_n 0, 1) := by decide +kernel
theorem dX0_run_19 : decode cX0_run 19 = .ok (.getfield 15, 3) := by decide +kernel
theorem dX0_run_22 : decode cX0_run 22 = .ok (.aload_n 0, 1) := by decide +kernel
theorem dX0_run_23 : decode cX0_run 23 = .ok (.getfield 32, 3) := by decide +kernel
theorem dX0_run_26 : decode cX0_run 26 = .ok (.iload_n 2, 1) := by decide +kernel
theorem dX0_run_27 : decode cX0_run 27 = .ok (.iastore, 1) := by decide +kernel
theorem dX0_run_28 : decode cX0_run 28 = .ok (.aload_n 0, 1) := by decide +kernel
theorem dX0_run_29 : decode cX0_run 29 = .ok (.dup, 1) := by decide +kernel
theorem dX0_run_30 : decode cX0_run 30 = .ok (.getfield 32, 3) := by decide +kernel
theorem dX0_run_33 : decode cX0_run 33 = .ok (.iconst 1, 1) := by decide +kernel
theorem dX0_run_34 : decode cX0_run 34 = .ok (.iadd, 1) := by decide +kernel
theorem dX0_run_35 : decode cX0_run 35 = .ok (.putfield 32, 3) := by decide +kernel
theorem dX0_run_38 : decode cX0_run 38 = .ok (.iload_n 2, 1) := by decide +kernel
theorem dX0_run_39 : decode cX0_run 39 = .ok (.lookupswitch 309 #[(1, 121), (2, 125), (10, 145), (11, 157), (20, 161), (30, 174), (40, 186), (41, 199), (50, 212), (60, 225), (61, 246), (70, 259), (80, 273), (81, 295)], 121) := by decide +kernel
theorem dX0_run_160 : decode cX0_run 160 = .ok (.iload_n 3, 1) := by decide +kernel
theorem dX0_run_161 : decode cX0_run 161 = .ok (.iload_n 1, 1) := by decide +kernel
theorem dX0_run_162 : decode cX0_run 162 = .ok (.iadd, 1) := by decide +kernel
theorem dX0_run_163 : decode cX0_run 163 = .ok (.ireturn, 1) := by decide +kernel
theorem dX0_run_164 : decode cX0_run 164 = .ok (.aload_n 0, 1) := by decide +kernel
theorem dX0_run_165 : decode cX0_run 165 = .ok (.iload_n 1, 1) := by decide +kernel
theorem dX0_run_166 : decode cX0_run 166 = .ok (.iconst 1, 1) := by decide +kernel
theorem dX0_run_167 : decode cX0_run 167 = .ok (.iload_n 3, 1) := by decide +kernel
theorem dX0_run_168 : decode cX0_run 168 = .ok (.iload 4, 2) := by decide +kernel
theorem dX0_run_170 : decode cX0_run 170 = .ok (.invokevirtual 35, 3) := by decide +kernel
theorem dX0_run_173 : decode cX0_run 173 = .ok (.aload_n 0, 1) := by decide +kernel
theorem dX0_run_174 : decode cX0_run 174 = .ok (.iload_n 1, 1) := by decide +kernel
theorem dX0_run_175 : decode cX0_run 175 = .ok (.iconst 2, 1) := by decide +kernel
theorem dX0_run_176 : decode cX0_run 176 = .ok (.iconst 1, 1) := by decide +kernel
theorem dX0_run_177 : decode cX0_run 177 = .ok (.iload 4, 2) := by decide +kernel
theorem dX0_run_179 : decode cX0_run 179 = .ok (.invokevirtual 35, 3) := by decide +kernel
theorem dX0_run_182 : decode cX0_run 182 = .ok (.isub, 1) := by decide +kernel
theorem dX0_run_183 : decode cX0_run 183 = .ok (.ireturn, 1) := by decide +kernel
theorem dX0_run_184 : decode cX0_run 184 = .ok (.aload_n 0, 1) := by decide +kernel
theorem dX0_run_185 : decode cX0_run 185 = .ok (.iload_n 1, 1) := by decide +kernel
theorem dX0_run_186 : decode cX0_run 186 = .ok (.iconst 0, 1) := by decide +kernel
theorem dX0_run_187 : decode cX0_run 187 = .ok (.iload_n 3, 1) := by decide +kernel
theorem dX0_run_188 : decode cX0_run 188 = .ok (.iload 4, 2) := by decide +kernel
theorem dX0_run_190 : decode cX0_run 190 = .ok (.invokevirtual 35, 3) := by decide +kernel
theorem dX0_run_193 : decode cX0_run 193 = .ok (.iconst 2, 1) := by decide +kernel
theorem dX0_run_194 : decode cX0_run 194 = .ok (.imul, 1) := by decide +kernel
theorem dX0_run_195 : decode cX0_run 195 = .ok (.ireturn, 1) := by decide +kernel
theorem dX0_run_196 : decode cX0_run 196 = .ok (.iload_n 3, 1) := by decide +kernel
theorem dX0_run_197 : decode cX0_run 197 = .ok (.iload_n 1, 1) := by decide +kernel
theorem dX0_run_198 : decode cX0_run 198 = .ok (.ixor, 1) := by decide +kernel
theorem dX0_run_199 : decode cX0_run 199 = .ok (.ireturn, 1) := by decide +kernel
theorem dX0_run_200 : decode cX0_run 200 = .ok (.aload_n 0, 1) := by decide +kernel
theorem dX0_run_201 : decode cX0_run 201 = .ok (.iload_n 1, 1) := by decide +kernel
theorem dX0_run_202 : decode cX0_run 202 = .ok (.iconst 1, 1) := by decide +kernel
theorem dX0_run_203 : decode cX0_run 203 = .ok (.iconst 0, 1) := by decide +kernel
theorem dX0_run_204 : decode cX0_run 204 = .ok (.iload_n 3, 1) := by decide +kernel
theorem dX0_run_205 : decode cX0_run 205 = .ok (.iload 4, 2) := by decide +kernel
theorem dX0_run_207 : decode cX0_run 207 = .ok (.invokevirtual 53, 3) := by decide +kernel
theorem dX0_run_210 : decode cX0_run 210 = .ok (.iconst 3, 1) := by decide +kernel
theorem dX0_run_211 : decode cX0_run 211 = .ok (.iadd, 1) := by decide +kernel
theorem dX0_run_212 : decode cX0_run 212 = .ok (.ireturn, 1) := by decide +kernel
theorem dX0_run_213 : decode cX0_run 213 = .ok (.aload_n 0, 1) := by decide +kernel
theorem dX0_run_214 : decode cX0_run 214 = .ok (.iload_n 1, 1) := by decide +kernel
theorem dX0_run_215 : decode cX0_run 215 = .ok (.iconst 2, 1) := by decide +kernel
theorem dX0_run_216 : decode cX0_run 216 = .ok (.iconst 1, 1) := by decide +kernel
theorem dX0_run_217 : decode cX0_run 217 = .ok (.iload_n 3, 1) := by decide +kernel
theorem dX0_run_218 : decode cX0_run 218 = .ok (.iload 4, 2) := by decide +kernel
theorem dX0_run_220 : decode cX0_run 220 = .ok (.invokevirtual 53, 3) := by decide +kernel
theorem dX0_run_223 : decode cX0_run 223 = .ok (.ineg, 1) := by decide +kernel
theorem dX0_run_224 : decode cX0_run 224 = .ok (.ireturn, 1) := by decide +kernel
theorem dX0_run_225 : decode cX0_run 225 = .ok (.aload_n 0, 1) := by decide +kernel
theorem dX0_run_226 : decode cX0_run 226 = .ok (.iload_n 1, 1) := by decide +kernel
theorem dX0_run_227 : decode cX0_run 227 = .ok (.iconst 3, 1) := by decide +kernel
theorem dX0_run_228 : decode cX0_run 228 = .ok (.iconst 2, 1) := by decide +kernel
theorem dX0_run_229 : decode cX0_run 229 = .ok (.iload_n 3, 1) := by decide +kernel
theorem dX0_run_230 : decode cX0_run 230 = .ok (.iload 4, 2) := by decide +kernel
theorem dX0_run_232 : decode cX0_run 232 = .ok (.invokevirtual 53, 3) := by decide +kernel
theorem dX0_run_235 : decode cX0_run 235 = .ok (.iconst 3, 1) := by decide +kernel
theorem dX0_run_236 : decode cX0_run 236 = .ok (.imul, 1) := by decide +kernel
theorem dX0_run_237 : decode cX0_run 237 = .ok (.ireturn, 1) := by decide +kernel
theorem dX0_run_238 : decode cX0_run 238 = .ok (.aload_n 0, 1) := by decide +kernel
theorem dX0_run_239 : decode cX0_run 239 = .ok (.iload_n 1, 1) := by decide +kernel
theorem dX0_run_240 : decode cX0_run 240 = .ok (.iconst 3, 1) := by decide +kernel
theorem dX0_run_241 : decode cX0_run 241 = .ok (.iconst 1, 1) := by decide +kernel
theorem dX0_run_242 : decode cX0_run 242 = .ok (.iload_n 3, 1) := by decide +kernel
theorem dX0_run_243 : decode cX0_run 243 = .ok (.iconst 1, 1) := by decide +kernel
theorem dX0_run_244 : decode cX0_run 244 = .ok (.iadd, 1) := by decide +kernel
theorem dX0_run_245 : decode cX0_run 245 = .ok (.iload 4, 2) := by decide +kernel
theorem dX0_run_247 : decode cX0_run 247 = .ok (.invokevirtual 53, 3) := by decide +kernel
theorem dX0_run_250 : decode cX0_run 250 = .ok (.ireturn, 1) := by decide +kernel
theorem dX0_run_251 : decode cX0_run 251 = .ok (.aload_n 0, 1) := by decide +kernel
theorem dX0_run_252 : decode cX0_run 252 = .ok (.iload_n 1, 1) := by decide +kernel
theorem dX0_run_253 : decode cX0_run 253 = .ok (.iconst 4, 1) := by decide +kernel
theorem dX0_run_254 : decode cX0_run 254 = .ok (.iconst 3, 1) := by decide +kernel
theorem dX0_run_255 : decode cX0_run 255 = .ok (.iload_n 3, 1) := by decide +kernel
theorem dX0_run_256 : decode cX0_run 256 = .ok (.iload 4, 2) := by decide +kernel
theorem dX0_run_258 : decode cX0_run 258 = .ok (.invokevirtual 53, 3) := by decide +kernel
theorem dX0_run_261 : decode cX0_run 261 = .ok (.iconst 5, 1) := by decide +kernel
theorem dX0_run_262 : decode cX0_run 262 = .ok (.ixor, 1) := by decide +kernel
theorem dX0_run_263 : decode cX0_run 263 = .ok (.ireturn, 1) := by decide +kernel
theorem dX0_run_264 : decode cX0_run 264 = .ok (.aload_n 0, 1) := by decide +kernel
theorem dX0_run_265 : decode cX0_run 265 = .ok (.iload_n 1, 1) := by decide +kernel
theorem dX0_run_266 : decode cX0_run 266 = .ok (.iconst 5, 1) := by decide +kernel
theorem dX0_run_267 : decode cX0_run 267 = .ok (.iconst 2, 1) := by decide +kernel
theorem dX0_run_268 : decode cX0_run 268 = .ok (.iload_n 3, 1) := by decide +kernel
theorem dX0_run_269 : decode cX0_run 269 = .ok (.iload 4, 2) := by decide +kernel
theorem dX0_run_271 : decode cX0_run 271 = .ok (.invokevirtual 53, 3) := by decide +kernel
theorem dX0_run_274 : decode cX0_run 274 = .ok (.aload_n 0, 1) := by decide +kernel
theorem dX0_run_275 : decode cX0_run 275 = .ok (.iload_n 1, 1) := by decide +kernel
theorem dX0_run_276 : decode cX0_run 276 = .ok (.iconst 0, 1) := by decide +kernel
theorem dX0_run_277 : decode cX0_run 277 = .ok (.iconst 2, 1) := by decide +kernel
theorem dX0_run_278 : decode cX0_run 278 = .ok (.iload 4, 2) := by decide +kernel
theorem dX0_run_280 : decode cX0_run 280 = .ok (.invokevirtual 35, 3) := by decide +kernel
theorem dX0_run_283 : decode cX0_run 283 = .ok (.isub, 1) := by decide +kernel
theorem dX0_run_284 : decode cX0_run 284 = .ok (.ireturn, 1) := by decide +kernel
theorem dX0_run_285 : decode cX0_run 285 = .ok (.aload_n 0, 1) := by decide +kernel
theorem dX0_run_286 : decode cX0_run 286 = .ok (.iload_n 1, 1) := by decide +kernel
theorem dX0_run_287 : decode cX0_run 287 = .ok (.iconst 5, 1) := by decide +kernel
theorem dX0_run_288 : decode cX0_run 288 = .ok (.iconst 3, 1) := by decide +kernel
theorem dX0_run_289 : decode cX0_run 289 = .ok (.iload_n 3, 1) := by decide +kernel
theorem dX0_run_290 : decode cX0_run 290 = .ok (.iload 4, 2) := by decide +kernel
theorem dX0_run_292 : decode cX0_run 292 = .ok (.invokevirtual 53, 3) := by decide +kernel
theorem dX0_run_295 : decode cX0_run 295 = .ok (.iconst 1, 1) := by decide +kernel
theorem dX0_run_296 : decode cX0_run 296 = .ok (.iadd, 1) := by decide +kernel
theorem dX0_run_297 : decode cX0_run 297 = .ok (.ireturn, 1) := by decide +kernel
theorem dX0_run_298 : decode cX0_run 298 = .ok (.aload_n 0, 1) := by decide +kernel
theorem dX0_run_299 : decode cX0_run 299 = .ok (.iload_n 1, 1) := by decide +kernel
theorem dX0_run_300 : decode cX0_run 300 = .ok (.bipush 6, 2) := by decide +kernel
theorem dX0_run_302 : decode cX0_run 302 = .ok (.iconst 0, 1) := by decide +kernel
theorem dX0_run_303 : decode cX0_run 303 = .ok (.iload_n 3, 1) := by decide +kernel
theorem dX0_run_304 : decode cX0_run 304 = .ok (.iload 4, 2) := by decide +kernel
theorem dX0_run_306 : decode cX0_run 306 = .ok (.invokevirtual 53, 3) := by decide +kernel
theorem dX0_run_309 : decode cX0_run 309 = .ok (.iconst 2, 1) := by decide +kernel
theorem dX0_run_310 : decode cX0_run 310 = .ok (.imul, 1) := by decide +kernel
theorem dX0_run_311 : decode cX0_run 311 = .ok (.ireturn, 1) := by decide +kernel
theorem dX0_run_312 : decode cX0_run 312 = .ok (.aload_n 0, 1) := by decide +kernel
theorem dX0_run_313 : decode cX0_run 313 = .ok (.iload_n 1, 1) := by decide +kernel
theorem dX0_run_314 : decode cX0_run 314 = .ok (.bipush 7, 2) := by decide +kernel
theorem dX0_run_316 : decode cX0_run 316 = .ok (.iconst 1, 1) := by decide +kernel
theorem dX0_run_317 : decode cX0_run 317 = .ok (.iload_n 3, 1) := by decide +kernel
theorem dX0_run_318 : decode cX0_run 318 = .ok (.iload 4, 2) := by decide +kernel
theorem dX0_run_320 : decode cX0_run 320 = .ok (.invokevirtual 53, 3) := by decide +kernel
theorem dX0_run_323 : decode cX0_run 323 = .ok (.aload_n 0, 1) := by decide +kernel
theorem dX0_run_324 : decode cX0_run 324 = .ok (.iload_n 1, 1) := by decide +kernel
theorem dX0_run_325 : decode cX0_run 325 = .ok (.iconst 2, 1) := by decide +kernel
theorem dX0_run_326 : decode cX0_run 326 = .ok (.iconst 2, 1) := by decide +kernel
theorem dX0_run_327 : decode cX0_run 327 = .ok (.iload 4, 2) := by decide +kernel
theorem dX0_run_329 : decode cX0_run 329 = .ok (.invokevirtual 35, 3) := by decide +kernel
theorem dX0_run_332 : decode cX0_run 332 = .ok (.iadd, 1) := by decide +kernel
theorem dX0_run_333 : decode cX0_run 333 = .ok (.ireturn, 1) := by decide +kernel
theorem dX0_run_334 : decode cX0_run 334 = .ok (.aload_n 0, 1) := by decide +kernel
theorem dX0_run_335 : decode cX0_run 335 = .ok (.iload_n 1, 1) := by decide +kernel
theorem dX0_run_336 : decode cX0_run 336 = .ok (.bipush 7, 2) := by decide +kernel
theorem dX0_run_338 : decode cX0_run 338 = .ok (.iconst 0, 1) := by decide +kernel
theorem dX0_run_339 : decode cX0_run 339 = .ok (.iload_n 3, 1) := by decide +kernel
theorem dX0_run_340 : decode cX0_run 340 = .ok (.iload 4, 2) := by decide +kernel
theorem dX0_run_342 : decode cX0_run 342 = .ok (.invokevirtual 53, 3) := by decide +kernel
theorem dX0_run_345 : decode cX0_run 345 = .ok (.iconst 1, 1) := by decide +kernel
theorem dX0_run_346 : decode cX0_run 346 = .ok (.isub, 1) := by decide +kernel
theorem dX0_run_347 : decode cX0_run 347 = .ok (.ireturn, 1) := by decide +kernel
theorem dX0_run_348 : decode cX0_run 348 = .ok (.iconst 0, 1) := by decide +kernel
theorem dX0_run_349 : decode cX0_run 349 = .ok (.ireturn, 1) := by decide +kernel
theorem dX1_init_0 : decode cX1_init 0 = .ok (.aload_n 0, 1) := by decide +kernel
theorem dX1_init_1 : decode cX1_init 1 = .ok (.invokespecial 3, 3) := by decide +kernel
theorem dX1_init_4 : decode cX1_init 4 = .ok (.aload_n 0, 1) := by decide +kernel
theorem dX1_init_5 : decode cX1_init 5 = .ok (.bipush 40, 2) := by decide +kernel
theorem dX1_init_7 : decode cX1_init 7 = .ok (.newarray .int, 2) := by decide +kernel
theorem dX1_init_9 : decode cX1_init 9 = .ok (.putfield 11, 3) := by decide +kernel
theorem dX1_init_12 : decode cX1_init 12 = .ok (.aload_n 0, 1) := by decide +kernel
theorem dX1_init_13 : decode cX1_init 13 = .ok (.bipush 40, 2) := by decide +kernel
theorem dX1_init_15 : decode cX1_init 15 = .ok (.newarray .int, 2) := by decide +kernel
theorem dX1_init_17 : decode cX1_init 17 = .ok (.putfield 15, 3) := by decide +kernel
theorem dX1_init_20 : decode cX1_init 20 = .ok (.aload_n 0, 1) := by decide +kernel
theorem dX1_init_21 : decode cX1_init 21 = .ok (.bipush 40, 2) := by decide +kernel
theorem dX1_init_23 : decode cX1_init 23 = .ok (.newarray .int, 2) := by decide +kernel
theorem dX1_init_25 : decode cX1_init 25 = .ok (.putfield 18, 3) := by decide +kernel
theorem dX1_init_28 : decode cX1_init 28 = .ok (.aload_n 0, 1) := by decide +kernel
theorem dX1_init_29 : decode cX1_init 29 = .ok (.aload_n 1, 1) := by decide +kernel
theorem dX1_init_30 : decode cX1_init 30 = .ok (.putfield 21, 3) := by decide +kernel
theorem dX1_init_33 : decode cX1_init 33 = .ok (.return_, 1) := by decide +kernel
theorem dX1_make_0 : decode cX1_make 0 = .ok (.aload_n 0, 1) := by decide +kernel
theorem dX1_make_1 : decode cX1_make 1 = .ok (.getfield 25, 3) := by decide +kernel
theorem dX1_make_4 : decode cX1_make 4 = .ok (.bipush 40, 2) := by decide +kernel
theorem dX1_make_6 : decode cX1_make 6 = .ok (.if_icmp .lt 7, 3) := by decide +kernel
theorem dX1_make_9 : decode cX1_make 9 = .ok (.aload_n 0, 1) := by decide +kernel
theorem dX1_make_10 : decode cX1_make 10 = .ok (.invokevirtual 29, 3) := by decide +kernel
theorem dX1_make_13 : decode cX1_make 13 = .ok (.aload_n 0, 1) := by decide +kernel
theorem dX1_make_14 : decode cX1_make 14 = .ok (.getfield 11, 3) := by decide +kernel
theorem dX1_make_17 : decode cX1_make 17 = .ok (.aload_n 0, 1) := by decide +kernel
theorem dX1_make_18 : decode cX1_make 18 = .ok (.getfield 25, 3) := by decide +kernel
theorem dX1_make_21 : decode cX1_make 21 = .ok (.iload_n 1, 1) := by decide +kernel
theorem dX1_make_22 : decode cX1_make 22 = .ok (.iastore, 1) := by decide +kernel
theorem dX1_make_23 : decode cX1_make 23 = .ok (.aload_n 0, 1) := by decide +kernel
theorem dX1_make_24 : decode cX1_make 24 = .ok (.getfield 15, 3) := by decide +kernel
theorem dX1_make_27 : decode cX1_make 27 = .ok (.aload_n 0, 1) := by decide +kernel
theorem dX1_make_28 : decode cX1_make 28 = .ok (.getfield 25, 3) := by decide +kernel
theorem dX1_make_31 : decode cX1_make 31 = .ok (.aload_n 0, 1) := by decide +kernel
theorem dX1_make_32 : decode cX1_make 32 = .ok (.getfield 21, 3) := by decide +kernel
theorem dX1_make_35 : decode cX1_make 35 = .ok (.iload_n 1, 1) := by decide +kernel
theorem dX1_make_36 : decode cX1_make 36 = .ok (.invokevirtual 32, 3) := by decide +kernel
theorem dX1_make_39 : decode cX1_make 39 = .ok (.iastore, 1) := by decide +kernel
theorem dX1_make_40 : decode cX1_make 40 = .ok (.aload_n 0, 1) := by decide +kernel
theorem dX1_make_41 : decode cX1_make 41 = .ok (.getfield 18, 3) := by decide +kernel
theorem dX1_make_44 : decode cX1_make 44 = .ok (.aload_n 0, 1) := by decide +kernel
theorem dX1_make_45 : decode cX1_make 45 = .ok (.getfield 25, 3) := by decide +kernel
theorem dX1_make_48 : decode cX1_make 48 = .ok (.iload_n 2, 1) := by decide +kernel
theorem dX1_make_49 : decode cX1_make 49 = .ok (.iastore, 1) := by decide +kernel
theorem dX1_make_50 : decode cX1_make 50 = .ok (.aload_n 0, 1) := by decide +kernel
theorem dX1_make_51 : decode cX1_make 51 = .ok (.dup, 1) := by decide +kernel
theorem dX1_make_52 : decode cX1_make 52 = .ok (.getfield 25, 3) := by decide +kernel
theorem dX1_make_55 : decode cX1_make 55 = .ok (.iconst 1, 1) := by decide +kernel
theorem dX1_make_56 : decode cX1_make 56 = .ok (.iadd, 1) := by decide +kernel
theorem dX1_make_57 : decode cX1_make 57 = .ok (.putfield 25, 3) := by decide +kernel
theorem dX1_make_60 : decode cX1_make 60 = .ok (.aload_n 0, 1) := by decide +kernel
theorem dX1_make_61 : decode cX1_make 61 = .ok (.aload_n 0, 1) := by decide +kernel
theorem dX1_make_62 : decode cX1_make 62 = .ok (.getfield 25, 3) := by decide +kernel
theorem dX1_make_65 : decode cX1_make 65 = .ok (.putfield 38, 3) := by decide +kernel
theorem dX1_make_68 : decode cX1_make 68 = .ok (.aload_n 0, 1) := by decide +kernel
theorem dX1_make_69 : decode cX1_make 69 = .ok (.getfield 21, 3) := by decide +kernel
theorem dX1_make_72 : decode cX1_make 72 = .ok (.iload_n 1, 1) := by decide +kernel
theorem dX1_make_73 : decode cX1_make 73 = .ok (.iload_n 2, 1) := by decide +kernel
theorem dX1_make_74 : decode cX1_make 74 = .ok (.invokevirtual 41, 3) := by decide +kernel
theorem dX1_make_77 : decode cX1_make 77 = .ok (.return_, 1) := by decide +kernel
theorem dX1_forgetOldest_0 : decode cX1_forgetOldest 0 = .ok (.aload_n 0, 1) := by decide +kernel
theorem dX1_forgetOldest_1 : decode cX1_forgetOldest 1 = .ok (.getfield 11, 3) := by decide +kernel
theorem dX1_forgetOldest_4 : decode cX1_forgetOldest 4 = .ok (.iconst 1, 1) := by decide +kernel
theorem dX1_forgetOldest_5 : decode cX1_forgetOldest 5 = .ok (.aload_n 0, 1) := by decide +kernel
theorem dX1_forgetOldest_6 : decode cX1_forgetOldest 6 = .ok (.getfield 11, 3) := by decide +kernel
theorem dX1_forgetOldest_9 : decode cX1_forgetOldest 9 = .ok (.iconst 0, 1) := by decide +kernel
theorem dX1_forgetOldest_10 : decode cX1_forgetOldest 10 = .ok (.bipush 39, 2) := by decide +kernel
theorem dX1_forgetOldest_12 : decode cX1_forgetOldest 12 = .ok (.invokestatic 45, 3) := by decide +kernel
theorem dX1_forgetOldest_15 : decode cX1_forgetOldest 15 = .ok (.aload_n 0, 1) := by decide +kernel
theorem dX1_forgetOldest_16 : decode cX1_forgetOldest 16 = .ok (.getfield 15, 3) := by decide +kernel
theorem dX1_forgetOldest_19 : decode cX1_forgetOldest 19 = .ok (.iconst 1, 1) := by decide +kernel
theorem dX1_forgetOldest_20 : decode cX1_forgetOldest 20 = .ok (.aload_n 0, 1) := by decide +kernel
theorem dX1_forgetOldest_21 : decode cX1_forgetOldest 21 = .ok (.getfield 15, 3) := by decide +kernel
theorem dX1_forgetOldest_24 : decode cX1_forgetOldest 24 = .ok (.iconst 0, 1) := by decide +kernel
theorem dX1_forgetOldest_25 : decode cX1_forgetOldest 25 = .ok (.bipush 39, 2) := by decide +kernel
theorem dX1_forgetOldest_27 : decode cX1_forgetOldest 27 = .ok (.invokestatic 45, 3) := by decide +kernel
theorem dX1_forgetOldest_30 : decode cX1_forgetOldest 30 = .ok (.aload_n 0, 1) := by decide +kernel
theorem dX1_forgetOldest_31 : decode cX1_forgetOldest 31 = .ok (.getfield 18, 3) := by decide +kernel
theorem dX1_forgetOldest_34 : decode cX1_forgetOldest 34 = .ok (.iconst 1, 1) := by decide +kernel
theorem dX1_forgetOldest_35 : decode cX1_forgetOldest 35 = .ok (.aload_n 0, 1) := by decide +kernel
theorem dX1_forgetOldest_36 : decode cX1_forgetOldest 36 = .ok (.getfield 18, 3) := by decide +kernel
theorem dX1_forgetOldest_39 : decode cX1_forgetOldest 39 = .ok (.iconst 0, 1) := by decide +kernel
theorem dX1_forgetOldest_40 : decode cX1_forgetOldest 40 = .ok (.bipush 39, 2) := by decide +kernel
theorem dX1_forgetOldest_42 : decode cX1_forgetOldest 42 = .ok (.invokestatic 45, 3) := by decide +kernel
theorem dX1_forgetOldest_45 : decode cX1_forgetOldest 45 = .ok (.aload_n 0, 1) := by decide +kernel
theorem dX1_forgetOldest_46 : decode cX1_forgetOldest 46 = .ok (.bipush 39, 2) := by decide +kernel
theorem dX1_forgetOldest_48 : decode cX1_forgetOldest 48 = .ok (.putfield 25, 3) := by decide +kernel
theorem dX1_forgetOldest_51 : decode cX1_forgetOldest 51 = .ok (.return_, 1) := by decide +kernel
theorem dX1_takeBack_0 : decode cX1_takeBack 0 = .ok (.aload_n 0, 1) := by decide +kernel
theorem dX1_takeBack_1 : decode cX1_takeBack 1 = .ok (.getfield 25, 3) := by decide +kernel
theorem dX1_takeBack_4 : decode cX1_takeBack 4 = .ok (.ifCond .gt 6, 3) := by decide +kernel
theorem dX1_takeBack_7 : decode cX1_takeBack 7 = .ok (.bipush (-5), 2) := by decide +kernel
theorem dX1_takeBack_9 : decode cX1_takeBack 9 = .ok (.ireturn, 1) := by decide +kernel
theorem dX1_takeBack_10 : decode cX1_takeBack 10 = .ok (.aload_n 0, 1) := by decide +kernel
theorem dX1_takeBack_11 : decode cX1_takeBack 11 = .ok (.dup, 1) := by decide +kernel
theorem dX1_takeBack_12 : decode cX1_takeBack 12 = .ok (.getfield 25, 3) := by decide +kernel
theorem dX1_takeBack_15 : decode cX1_takeBack 15 = .ok (.iconst 1, 1) := by decide +kernel
theorem dX1_takeBack_16 : decode cX1_takeBack 16 = .ok (.isub, 1) := by decide +kernel
theorem dX1_takeBack_17 : decode cX1_takeBack 17 = .ok (.putfield 25, 3) := by decide +kernel
theorem dX1_takeBack_20 : decode cX1_takeBack 20 = .ok (.aload_n 0, 1) := by decide +kernel
theorem dX1_takeBack_21 : decode cX1_takeBack 21 = .ok (.getfield 21, 3) := by decide +kernel
theorem dX1_takeBack_24 : decode cX1_takeBack 24 = .ok (.aload_n 0, 1) := by decide +kernel
theorem dX1_takeBack_25 : decode cX1_takeBack 25 = .ok (.getfield 11, 3) := by decide +kernel
theorem dX1_takeBack_28 : decode cX1_takeBack 28 = .ok (.aload_n 0, 1) := by decide +kernel
theorem dX1_takeBack_29 : decode cX1_takeBack 29 = .ok (.getfield 25, 3) := by decide +kernel
theorem dX1_takeBack_32 : decode cX1_takeBack 32 = .ok (.iaload, 1) := by decide +kernel
theorem dX1_takeBack_33 : decode cX1_takeBack 33 = .ok (.aload_n 0, 1) := by decide +kernel
theorem dX1_takeBack_34 : decode cX1_takeBack 34 = .ok (.getfield 15, 3) := by decide +kernel
theorem dX1_takeBack_37 : decode cX1_takeBack 37 = .ok (.aload_n 0, 1) := by decide +kernel
theorem dX1_takeBack_38 : decode cX1_takeBack 38 = .ok (.getfield 25, 3) := by decide +kernel
theorem dX1_takeBack_41 : decode cX1_takeBack 41 = .ok (.iaload, 1) := by decide +kernel
theorem dX1_takeBack_42 : decode cX1_takeBack 42 = .ok (.invokevirtual 41, 3) := by decide +kernel
theorem dX1_takeBack_45 : decode cX1_takeBack 45 = .ok (.aload_n 0, 1) := by decide +kernel
theorem dX1_takeBack_46 : decode cX1_takeBack 46 = .ok (.getfield 25, 3) := by decide +kernel
theorem dX1_takeBack_49 : decode cX1_takeBack 49 = .ok (.ireturn, 1) := by decide +kernel
theorem dX1_makeAgain_0 : decode cX1_makeAgain 0 = .ok (.aload_n 0, 1) := by decide +kernel
theorem dX1_makeAgain_1 : decode cX1_makeAgain 1 = .ok (.getfield 25, 3) := by decide +kernel
theorem dX1_makeAgain_4 : decode cX1_makeAgain 4 = .ok (.aload_n 0, 1) := by decide +kernel
theorem dX1_makeAgain_5 : decode cX1_makeAgain 5 = .ok (.getfield 38, 3) := by decide +kernel
theorem dX1_makeAgain_8 : decode cX1_makeAgain 8 = .ok (.if_icmp .ge 12, 3) := by decide +kernel
theorem dX1_makeAgain_11 : decode cX1_makeAgain 11 = .ok (.aload_n 0, 1) := by decide +kernel
theorem dX1_makeAgain_12 : decode cX1_makeAgain 12 = .ok (.getfield 25, 3) := by decide +kernel
theorem dX1_makeAgain_15 : decode cX1_makeAgain 15 = .ok (.bipush 40, 2) := by decide +kernel
theorem dX1_makeAgain_17 : decode cX1_makeAgain 17 = .ok (.if_icmp .lt 6, 3) := by decide +kernel
theorem dX1_makeAgain_20 : decode cX1_makeAgain 20 = .ok (.bipush (-5), 2) := by decide +kernel
theorem dX1_makeAgain_22 : decode cX1_makeAgain 22 = .ok (.ireturn, 1) := by decide +kernel
theorem dX1_makeAgain_23 : decode cX1_makeAgain 23 = .ok (.aload_n 0, 1) := by decide +kernel
theorem dX1_makeAgain_24 : decode cX1_makeAgain 24 = .ok (.getfield 21, 3) := by decide +kernel
theorem dX1_makeAgain_27 : decode cX1_makeAgain 27 = .ok (.aload_n 0, 1) := by decide +kernel
theorem dX1_makeAgain_28 : decode cX1_makeAgain 28 = .ok (.getfield 11, 3) := by decide +kernel
theorem dX1_makeAgain_31 : decode cX1_makeAgain 31 = .ok (.aload_n 0, 1) := by decide +kernel
theorem dX1_makeAgain_32 : decode cX1_makeAgain 32 = .ok (.getfield 25, 3) := by decide +kernel
theorem dX1_makeAgain_35 : decode cX1_makeAgain 35 = .ok (.iaload, 1) := by decide +kernel
theorem dX1_makeAgain_36 : decode cX1_makeAgain 36 = .ok (.aload_n 0, 1) := by decide +kernel
theorem dX1_makeAgain_37 : decode cX1_makeAgain 37 = .ok (.getfield 18, 3) := by decide +kernel
theorem dX1_makeAgain_40 : decode cX1_makeAgain 40 = .ok (.aload_n 0, 1) := by decide +kernel
theorem dX1_makeAgain_41 : decode cX1_makeAgain 41 = .ok (.getfield 25, 3) := by decide +kernel
theorem dX1_makeAgain_44 : decode cX1_makeAgain 44 = .ok (.iaload, 1) := by decide +kernel
theorem dX1_makeAgain_45 : decode cX1_makeAgain 45 = .ok (.invokevirtual 41, 3) := by decide +kernel
theorem dX1_makeAgain_48 : decode cX1_makeAgain 48 = .ok (.aload_n 0, 1) := by decide +kernel
theorem dX1_makeAgain_49 : decode cX1_makeAgain 49 = .ok (.dup, 1) := by decide +kernel
theorem dX1_makeAgain_50 : decode cX1_makeAgain 50 = .ok (.getfield 25, 3) := by decide +kernel
theorem dX1_makeAgain_53 : decode cX1_makeAgain 53 = .ok (.iconst 1, 1) := by decide +kernel
theorem dX1_makeAgain_54 : decode cX1_makeAgain 54 = .ok (.iadd, 1) := by decide +kernel
theorem dX1_makeAgain_55 : decode cX1_makeAgain 55 = .ok (.putfield 25, 3) := by decide +kernel
theorem dX1_makeAgain_58 : decode cX1_makeAgain 58 = .ok (.aload_n 0, 1) := by decide +kernel
theorem dX1_makeAgain_59 : decode cX1_makeAgain 59 = .ok (.getfield 38, 3) := by decide +kernel
theorem dX1_makeAgain_62 : decode cX1_makeAgain 62 = .ok (.aload_n 0, 1) := by decide +kernel
theorem dX1_makeAgain_63 : decode cX1_makeAgain 63 = .ok (.getfield 25, 3) := by decide +kernel
theorem dX1_makeAgain_66 : decode cX1_makeAgain 66 = .ok (.isub, 1) := by decide +kernel
theorem dX1_makeAgain_67 : decode cX1_makeAgain 67 = .ok (.ireturn, 1) := by decide +kernel
theorem dX2_init_0 : decode cX2_init 0 = .ok (.aload_n 0, 1) := by decide +kernel
theorem dX2_init_1 : decode cX2_init 1 = .ok (.invokespecial 3, 3) := by decide +kernel
theorem dX2_init_4 : decode cX2_init 4 = .ok (.aload_n 0, 1) := by decide +kernel
theorem dX2_init_5 : decode cX2_init 5 = .ok (.new 9, 3) := by decide +kernel
theorem dX2_init_8 : decode cX2_init 8 = .ok (.dup, 1) := by decide +kernel
theorem dX2_init_9 : decode cX2_init 9 = .ok (.invokespecial 11, 3) := by decide +kernel
theorem dX2_init_12 : decode cX2_init 12 = .ok (.putfield 12, 3) := by decide +kernel
theorem dX2_init_15 : decode cX2_init 15 = .ok (.aload_n 0, 1) := by decide +kernel
theorem dX2_init_16 : decode cX2_init 16 = .ok (.bipush (-2), 2) := by decide +kernel
theorem dX2_init_18 : decode cX2_init 18 = .ok (.putfield 18, 3) := by decide +kernel
theorem dX2_init_21 : decode cX2_init 21 = .ok (.return_, 1) := by decide +kernel
theorem dX2_lead_0 : decode cX2_lead 0 = .ok (.aload_n 0, 1) := by decide +kernel
theorem dX2_lead_1 : decode cX2_lead 1 = .ok (.dup, 1) := by decide +kernel
theorem dX2_lead_2 : decode cX2_lead 2 = .ok (.getfield 22, 3) := by decide +kernel
theorem dX2_lead_5 : decode cX2_lead 5 = .ok (.iconst 1, 1) := by decide +kernel
theorem dX2_lead_6 : decode cX2_lead 6 = .ok (.iadd, 1) := by decide +kernel
theorem dX2_lead_7 : decode cX2_lead 7 = .ok (.putfield 22, 3) := by decide +kernel
theorem dX2_lead_10 : decode cX2_lead 10 = .ok (.aload_n 0, 1) := by decide +kernel
theorem dX2_lead_11 : decode cX2_lead 11 = .ok (.dup, 1) := by decide +kernel
theorem dX2_lead_12 : decode cX2_lead 12 = .ok (.getfield 25, 3) := by decide +kernel
theorem dX2_lead_15 : decode cX2_lead 15 = .ok (.aload_n 0, 1) := by decide +kernel
theorem dX2_lead_16 : decode cX2_lead 16 = .ok (.getfield 12, 3) := by decide +kernel
theorem dX2_lead_19 : decode cX2_lead 19 = .ok (.getfield 28, 3) := by decide +kernel
theorem dX2_lead_22 : decode cX2_lead 22 = .ok (.iadd, 1) := by decide +kernel
theorem dX2_lead_23 : decode cX2_lead 23 = .ok (.putfield 25, 3) := by decide +kernel
theorem dX2_lead_26 : decode cX2_lead 26 = .ok (.aload_n 0, 1) := by decide +kernel
theorem dX2_lead_27 : decode cX2_lead 27 = .ok (.getfield 12, 3) := by decide +kernel
theorem dX2_lead_30 : decode cX2_lead 30 = .ok (.getfield 31, 3) := by decide +kernel
theorem dX2_lead_33 : decode cX2_lead 33 = .ok (.aload_n 0, 1) := by decide +kernel
theorem dX2_lead_34 : decode cX2_lead 34 = .ok (.getfield 34, 3) := by decide +kernel
theorem dX2_lead_37 : decode cX2_lead 37 = .ok (.if_icmp .le 25, 3) := by decide +kernel
theorem dX2_lead_40 : decode cX2_lead 40 = .ok (.aload_n 0, 1) := by decide +kernel
theorem dX2_lead_41 : decode cX2_lead 41 = .ok (.aload_n 0, 1) := by decide +kernel
theorem dX2_lead_42 : decode cX2_lead 42 = .ok (.getfield 12, 3) := by decide +kernel
theorem dX2_lead_45 : decode cX2_lead 45 = .ok (.getfield 31, 3) := by decide +kernel
theorem dX2_lead_48 : decode cX2_lead 48 = .ok (.putfield 34, 3) := by decide +kernel
theorem dX2_lead_51 : decode cX2_lead 51 = .ok (.aload_n 0, 1) := by decide +kernel
theorem dX2_lead_52 : decode cX2_lead 52 = .ok (.aload_n 0, 1) := by decide +kernel
theorem dX2_lead_53 : decode cX2_lead 53 = .ok (.getfield 12, 3) := by decide +kernel
theorem dX2_lead_56 : decode cX2_lead 56 = .ok (.getfield 37, 3) := by decide +kernel
theorem dX2_lead_59 : decode cX2_lead 59 = .ok (.putfield 18, 3) := by decide +kernel
theorem dX2_lead_62 : decode cX2_lead 62 = .ok (.iload_n 1, 1) := by decide +kernel
theorem dX2_lead_63 : decode cX2_lead 63 = .ok (.ifCond .eq 18, 3) := by decide +kernel
theorem dX2_lead_66 : decode cX2_lead 66 = .ok (.aload_n 0, 1) := by decide +kernel
theorem dX2_lead_67 : decode cX2_lead 67 = .ok (.dup, 1) := by decide +kernel
theorem dX2_lead_68 : decode cX2_lead 68 = .ok (.getfield 40, 3) := by decide +kernel
theorem dX2_lead_71 : decode cX2_lead 71 = .ok (.iconst 1, 1) := by decide +kernel
theorem dX2_lead_72 : decode cX2_lead 72 = .ok (.iadd, 1) := by decide +kernel
theorem dX2_lead_73 : decode cX2_lead 73 = .ok (.putfield 40, 3) := by decide +kernel
theorem dX2_lead_76 : decode cX2_lead 76 = .ok (.aload_n 0, 1) := by decide +kernel
theorem dX2_lead_77 : decode cX2_lead 77 = .ok (.iconst 0, 1) := by decide +kernel
theorem dX2_lead_78 : decode cX2_lead 78 = .ok (.putfield 43, 3) := by decide +kernel
theorem dX2_lead_81 : decode cX2_lead 81 = .ok (.return_, 1) := by decide +kernel
theorem dX2_copy_0 : decode cX2_copy 0 = .ok (.aload_n 0, 1) := by decide +kernel
theorem dX2_copy_1 : decode cX2_copy 1 = .ok (.getfield 12, 3) := by decide +kernel
theorem dX2_copy_4 : decode cX2_copy 4 = .ok (.aload_n 1, 1) := by decide +kernel
theorem dX2_copy_5 : decode cX2_copy 5 = .ok (.getfield 12, 3) := by decide +kernel
theorem dX2_copy_8 : decode cX2_copy 8 = .ok (.invokevirtual 47, 3) := by decide +kernel
theorem dX2_copy_11 : decode cX2_copy 11 = .ok (.aload_n 0, 1) := by decide +kernel
theorem dX2_copy_12 : decode cX2_copy 12 = .ok (.aload_n 1, 1) := by decide +kernel
theorem dX2_copy_13 : decode cX2_copy 13 = .ok (.getfield 43, 3) := by decide +kernel
theorem dX2_copy_16 : decode cX2_copy 16 = .ok (.putfield 43, 3) := by decide +kernel
theorem dX2_copy_19 : decode cX2_copy 19 = .ok (.aload_n 0, 1) := by decide +kernel
theorem dX2_copy_20 : decode cX2_copy 20 = .ok (.aload_n 1, 1) := by decide +kernel
theorem dX2_copy_21 : decode cX2_copy 21 = .ok (.getfield 40, 3) := by decide +kernel
theorem dX2_copy_24 : decode cX2_copy 24 = .ok (.putfield 40, 3) := by decide +kernel
theorem dX2_copy_27 : decode cX2_copy 27 = .ok (.aload_n 0, 1) := by decide +kernel
theorem dX2_copy_28 : decode cX2_copy 28 = .ok (.aload_n 1, 1) := by decide +kernel
theorem dX2_copy_29 : decode cX2_copy 29 = .ok (.getfield 22, 3) := by decide +kernel
theorem dX2_copy_32 : decode cX2_copy 32 = .ok (.putfield 22, 3) := by decide +kernel
theorem dX2_copy_35 : decode cX2_copy 35 = .ok (.aload_n 0, 1) := by decide +kernel
theorem dX2_copy_36 : decode cX2_copy 36 = .ok (.aload_n 1, 1) := by decide +kernel
theorem dX2_copy_37 : decode cX2_copy 37 = .ok (.getfield 25, 3) := by decide +kernel
theorem dX2_copy_40 : decode cX2_copy 40 = .ok (.putfield 25, 3) := by decide +kernel
theorem dX2_copy_43 : decode cX2_copy 43 = .ok (.aload_n 0, 1) := by decide +kernel
theorem dX2_copy_44 : decode cX2_copy 44 = .ok (.aload_n 1, 1) := by decide +kernel
theorem dX2_copy_45 : decode cX2_copy 45 = .ok (.getfield 51, 3) := by decide +kernel
theorem dX2_copy_48 : decode cX2_copy 48 = .ok (.putfield 51, 3) := by decide +kernel
theorem dX2_copy_51 : decode cX2_copy 51 = .ok (.aload_n 0, 1) := by decide +kernel
theorem dX2_copy_52 : decode cX2_copy 52 = .ok (.aload_n 1, 1) := by decide +kernel
theorem dX2_copy_53 : decode cX2_copy 53 = .ok (.getfield 34, 3) := by decide +kernel
theorem dX2_copy_56 : decode cX2_copy 56 = .ok (.putfield 34, 3) := by decide +kernel
theorem dX2_copy_59 : decode cX2_copy 59 = .ok (.aload_n 0, 1) := by decide +kernel
theorem dX2_copy_60 : decode cX2_copy 60 = .ok (.aload_n 1, 1) := by decide +kernel
theorem dX2_copy_61 : decode cX2_copy 61 = .ok (.getfield 18, 3) := by decide +kernel
theorem dX2_copy_64 : decode cX2_copy 64 = .ok (.putfield 18, 3) := by decide +kernel
theorem dX2_copy_67 : decode cX2_copy 67 = .ok (.return_, 1) := by decide +kernel
theorem dX3_init_0 : decode cX3_init 0 = .ok (.aload_n 0, 1) := by decide +kernel
theorem dX3_init_1 : decode cX3_init 1 = .ok (.invokespecial 1, 3) := by decide +kernel
theorem dX3_init_4 : decode cX3_init 4 = .ok (.return_, 1) := by decide +kernel
theorem dX3_begin_0 : decode cX3_begin 0 = .ok (.aload_n 0, 1) := by decide +kernel
theorem dX3_begin_1 : decode cX3_begin 1 = .ok (.iload_n 1, 1) := by decide +kernel
theorem dX3_begin_2 : decode cX3_begin 2 = .ok (.putfield 7, 3) := by decide +kernel
theorem dX3_begin_5 : decode cX3_begin 5 = .ok (.aload_n 0, 1) := by decide +kernel
theorem dX3_begin_6 : decode cX3_begin 6 = .ok (.iload_n 2, 1) := by decide +kernel
theorem dX3_begin_7 : decode cX3_begin 7 = .ok (.putfield 13, 3) := by decide +kernel
theorem dX3_begin_10 : decode cX3_begin 10 = .ok (.return_, 1) := by decide +kernel
theorem dX3_next_0 : decode cX3_next 0 = .ok (.aload_n 0, 1) := by decide +kernel
theorem dX3_next_1 : decode cX3_next 1 = .ok (.aload_n 0, 1) := by decide +kernel
theorem dX3_next_2 : decode cX3_next 2 = .ok (.getfield 7, 3) := by decide +kernel
theorem dX3_next_5 : decode cX3_next 5 = .ok (.ldc 16, 2) := by decide +kernel
theorem dX3_next_7 : decode cX3_next 7 = .ok (.imul, 1) := by decide +kernel
theorem dX3_next_8 : decode cX3_next 8 = .ok (.sipush 12345, 3) := by decide +kernel
theorem dX3_next_11 : decode cX3_next 11 = .ok (.iadd, 1) := by decide +kernel
theorem dX3_next_12 : decode cX3_next 12 = .ok (.putfield 7, 3) := by decide +kernel
theorem dX3_next_15 : decode cX3_next 15 = .ok (.aload_n 0, 1) := by decide +kernel
theorem dX3_next_16 : decode cX3_next 16 = .ok (.getfield 7, 3) := by decide +kernel
theorem dX3_next_19 : decode cX3_next 19 = .ok (.bipush 8, 2) := by decide +kernel
theorem dX3_next_21 : decode cX3_next 21 = .ok (.iushr, 1) := by decide +kernel
theorem dX3_next_22 : decode cX3_next 22 = .ok (.bipush 12, 2) := by decide +kernel
theorem dX3_next_24 : decode cX3_next 24 = .ok (.irem, 1) := by decide +kernel
theorem dX3_next_25 : decode cX3_next 25 = .ok (.aload_n 0, 1) := by decide +kernel
theorem dX3_next_26 : decode cX3_next 26 = .ok (.getfield 13, 3) := by decide +kernel
theorem dX3_next_29 : decode cX3_next 29 = .ok (.if_icmp .ge 7, 3) := by decide +kernel
theorem dX3_next_32 : decode cX3_next 32 = .ok (.iconst 1, 1) := by decide +kernel
theorem dX3_next_33 : decode cX3_next 33 = .ok (.goto 4, 3) := by decide +kernel
theorem dX3_next_36 : decode cX3_next 36 = .ok (.iconst 0, 1) := by decide +kernel
theorem dX3_next_37 : decode cX3_next 37 = .ok (.ireturn, 1) := by decide +kernel
theorem dX4_init_0 : decode cX4_init 0 = .ok (.aload_n 0, 1) := by decide +kernel
theorem dX4_init_1 : decode cX4_init 1 = .ok (.invokespecial 5, 3) := by decide +kernel
theorem dX4_init_4 : decode cX4_init 4 = .ok (.aload_n 0, 1) := by decide +kernel
theorem dX4_init_5 : decode cX4_init 5 = .ok (.bipush 120, 2) := by decide +kernel
theorem dX4_init_7 : decode cX4_init 7 = .ok (.newarray .byte, 2) := by decide +kernel
theorem dX4_init_9 : decode cX4_init 9 = .ok (.putfield 11, 3) := by decide +kernel
theorem dX4_init_12 : decode cX4_init 12 = .ok (.aload_n 0, 1) := by decide +kernel
theorem dX4_init_13 : decode cX4_init 13 = .ok (.bipush 121, 2) := by decide +kernel
theorem dX4_init_15 : decode cX4_init 15 = .ok (.newarray .int, 2) := by decide +kernel
theorem dX4_init_17 : decode cX4_init 17 = .ok (.putfield 15, 3) := by decide +kernel
theorem dX4_init_20 : decode cX4_init 20 = .ok (.aload_n 0, 1) := by decide +kernel
theorem dX4_init_21 : decode cX4_init 21 = .ok (.bipush 121, 2) := by decide +kernel
theorem dX4_init_23 : decode cX4_init 23 = .ok (.newarray .int, 2) := by decide +kernel
theorem dX4_init_25 : decode cX4_init 25 = .ok (.putfield 19, 3) := by decide +kernel
theorem dX4_init_28 : decode cX4_init 28 = .ok (.aload_n 0, 1) := by decide +kernel
theorem dX4_init_29 : decode cX4_init 29 = .ok (.bipush 64, 2) := by decide +kernel
theorem dX4_init_31 : decode cX4_init 31 = .ok (.newarray .int, 2) := by decide +kernel
theorem dX4_init_33 : decode cX4_init 33 = .ok (.putfield 22, 3) := by decide +kernel
theorem dX4_init_36 : decode cX4_init 36 = .ok (.aload_n 0, 1) := by decide +kernel
theorem dX4_init_37 : decode cX4_init 37 = .ok (.bipush 6, 2) := by decide +kernel
theorem dX4_init_39 : decode cX4_init 39 = .ok (.newarray .int, 2) := by decide +kernel
theorem dX4_init_41 : decode cX4_init 41 = .ok (.putfield 25, 3) := by decide +kernel
theorem dX4_init_44 : decode cX4_init 44 = .ok (.return_, 1) := by decide +kernel
theorem dX4_write_0 : decode cX4_write 0 = .ok (.aload_n 0, 1) := by decide +kernel
theorem dX4_write_1 : decode cX4_write 1 = .ok (.getfield 28, 3) := by decide +kernel
theorem dX4_write_4 : decode cX4_write 4 = .ok (.bipush 120, 2) := by decide +kernel
theorem dX4_write_6 : decode cX4_write 6 = .ok (.if_icmp .lt 6, 3) := by decide +kernel
theorem dX4_write_9 : decode cX4_write 9 = .ok (.bipush (-3), 2) := by decide +kernel
theorem dX4_write_11 : decode cX4_write 11 = .ok (.ireturn, 1) := by decide +kernel
theorem dX4_write_12 : decode cX4_write 12 = .ok (.aload_n 0, 1) := by decide +kernel
theorem dX4_write_13 : decode cX4_write 13 = .ok (.getfield 11, 3) := by decide +kernel
theorem dX4_write_16 : decode cX4_write 16 = .ok (.aload_n 0, 1) := by decide +kernel
theorem dX4_write_17 : decode cX4_write 17 = .ok (.getfield 28, 3) := by decide +kernel
theorem dX4_write_20 : decode cX4_write 20 = .ok (.iload_n 1, 1) := by decide +kernel
theorem dX4_write_21 : decode cX4_write 21 = .ok (.i2b, 1) := by decide +kernel
theorem dX4_write_22 : decode cX4_write 22 = .ok (.bastore, 1) := by decide +kernel
theorem dX4_write_23 : decode cX4_write 23 = .ok (.aload_n 0, 1) := by decide +kernel
theorem dX4_write_24 : decode cX4_write 24 = .ok (.dup, 1) := by decide +kernel
theorem dX4_write_25 : decode cX4_write 25 = .ok (.getfield 28, 3) := by decide +kernel
theorem dX4_write_28 : decode cX4_write 28 = .ok (.iconst 1, 1) := by decide +kernel
theorem dX4_write_29 : decode cX4_write 29 = .ok (.iadd, 1) := by decide +kernel
theorem dX4_write_30 : decode cX4_write 30 = .ok (.putfield 28, 3) := by decide +kernel
theorem dX4_write_33 : decode cX4_write 33 = .ok (.aload_n 0, 1) := by decide +kernel
theorem dX4_write_34 : decode cX4_write 34 = .ok (.getfield 28, 3) := by decide +kernel
theorem dX4_write_37 : decode cX4_write 37 = .ok (.ireturn, 1) := by decide +kernel
theorem dX4_enact_0 : decode cX4_enact 0 = .ok (.aload_n 0, 1) := by decide +kernel
theorem dX4_enact_1 : decode cX4_enact 1 = .ok (.iconst 0, 1) := by decide +kernel
theorem dX4_enact_2 : decode cX4_enact 2 = .ok (.putfield 32, 3) := by decide +kernel
theorem dX4_enact_5 : decode cX4_enact 5 = .ok (.aload_n 0, 1) := by decide +kernel
theorem dX4_enact_6 : decode cX4_enact 6 = .ok (.iconst 0, 1) := by decide +kernel
theorem dX4_enact_7 : decode cX4_enact 7 = .ok (.putfield 35, 3) := by decide +kernel
theorem dX4_enact_10 : decode cX4_enact 10 = .ok (.aload_n 0, 1) := by decide +kernel
theorem dX4_enact_11 : decode cX4_enact 11 = .ok (.invokevirtual 38, 3) := by decide +kernel
theorem dX4_enact_14 : decode cX4_enact 14 = .ok (.istore_n 1, 1) := by decide +kernel
theorem dX4_enact_15 : decode cX4_enact 15 = .ok (.iconst 1, 1) := by decide +kernel
theorem dX4_enact_16 : decode cX4_enact 16 = .ok (.istore_n 2, 1) := by decide +kernel
theorem dX4_enact_17 : decode cX4_enact 17 = .ok (.iload_n 2, 1) := by decide +kernel
theorem dX4_enact_18 : decode cX4_enact 18 = .ok (.bipush 120, 2) := by decide +kernel
theorem dX4_enact_20 : decode cX4_enact 20 = .ok (.if_icmp .ge 37, 3) := by decide +kernel
theorem dX4_enact_23 : decode cX4_enact 23 = .ok (.iload_n 1, 1) := by decide +kernel
theorem dX4_enact_24 : decode cX4_enact 24 = .ok (.ifCond .eq 33, 3) := by decide +kernel
theorem dX4_enact_27 : decode cX4_enact 27 = .ok (.aload_n 0, 1) := by decide +kernel
theorem dX4_enact_28 : decode cX4_enact 28 = .ok (.invokevirtual 42, 3) := by decide +kernel
theorem dX4_enact_31 : decode cX4_enact 31 = .ok (.bipush 59, 2) := by decide +kernel
theorem dX4_enact_33 : decode cX4_enact 33 = .ok (.if_icmp .ne 24, 3) := by decide +kernel
theorem dX4_enact_36 : decode cX4_enact 36 = .ok (.aload_n 0, 1) := by decide +kernel
theorem dX4_enact_37 : decode cX4_enact 37 = .ok (.dup, 1) := by decide +kernel
theorem dX4_enact_38 : decode cX4_enact 38 = .ok (.getfield 32, 3) := by decide +kernel
theorem dX4_enact_41 : decode cX4_enact 41 = .ok (.iconst 1, 1) := by decide +kernel
theorem dX4_enact_42 : decode cX4_enact 42 = .ok (.iadd, 1) := by decide +kernel
theorem dX4_enact_43 : decode cX4_enact 43 = .ok (.putfield 32, 3) := by decide +kernel
theorem dX4_enact_46 : decode cX4_enact 46 = .ok (.aload_n 0, 1) := by decide +kernel
theorem dX4_enact_47 : decode cX4_enact 47 = .ok (.invokevirtual 38, 3) := by decide +kernel
theorem dX4_enact_50 : decode cX4_enact 50 = .ok (.istore_n 1, 1) := by decide +kernel
theorem dX4_enact_51 : decode cX4_enact 51 = .ok (.iinc 2 1, 3) := by decide +kernel
theorem dX4_enact_54 : decode cX4_enact 54 = .ok (.goto (-37), 3) := by decide +kernel
theorem dX4_enact_57 : decode cX4_enact 57 = .ok (.iload_n 1, 1) := by decide +kernel
theorem dX4_enact_58 : decode cX4_enact 58 = .ok (.ifCond .eq 18, 3) := by decide +kernel
theorem dX4_enact_61 : decode cX4_enact 61 = .ok (.aload_n 0, 1) := by decide +kernel
theorem dX4_enact_62 : decode cX4_enact 62 = .ok (.getfield 32, 3) := by decide +kernel
theorem dX4_enact_65 : decode cX4_enact 65 = .ok (.aload_n 0, 1) := by decide +kernel
theorem dX4_enact_66 : decode cX4_enact 66 = .ok (.getfield 28, 3) := by decide +kernel
theorem dX4_enact_69 : decode cX4_enact 69 = .ok (.if_icmp .ne 7, 3) := by decide +kernel
theorem dX4_enact_72 : decode cX4_enact 72 = .ok (.iconst 1, 1) := by decide +kernel
theorem dX4_enact_73 : decode cX4_enact 73 = .ok (.goto 4, 3) := by decide +kernel
theorem dX4_enact_76 : decode cX4_enact 76 = .ok (.iconst 0, 1) := by decide +kernel
theorem dX4_enact_77 : decode cX4_enact 77 = .ok (.istore_n 2, 1) := by decide +kernel
theorem dX4_enact_78 : decode cX4_enact 78 = .ok (.aload_n 0, 1) := by decide +kernel
theorem dX4_enact_79 : decode cX4_enact 79 = .ok (.iconst 0, 1) := by decide +kernel
theorem dX4_enact_80 : decode cX4_enact 80 = .ok (.putfield 28, 3) := by decide +kernel
theorem dX4_enact_83 : decode cX4_enact 83 = .ok (.iload_n 2, 1) := by decide +kernel
theorem dX4_enact_84 : decode cX4_enact 84 = .ok (.ifCond .ne 11, 3) := by decide +kernel
theorem dX4_enact_87 : decode cX4_enact 87 = .ok (.bipush (-100), 2) := by decide +kernel
theorem dX4_enact_89 : decode cX4_enact 89 = .ok (.aload_n 0, 1) := by decide +kernel
theorem dX4_enact_90 : decode cX4_enact 90 = .ok (.getfield 32, 3) := by decide +kernel
theorem dX4_enact_93 : decode cX4_enact 93 = .ok (.isub, 1) := by decide +kernel
theorem dX4_enact_94 : decode cX4_enact 94 = .ok (.ireturn, 1) := by decide +kernel
theorem dX4_enact_95 : decode cX4_enact 95 = .ok (.aload_n 0, 1) := by decide +kernel
theorem dX4_enact_96 : decode cX4_enact 96 = .ok (.getfield 15, 3) := by decide +kernel
theorem dX4_enact_99 : decode cX4_enact 99 = .ok (.iconst 0, 1) := by decide +kernel
theorem dX4_enact_100 : decode cX4_enact 100 = .ok (.aload_n 0, 1) := by decide +kernel
theorem dX4_enact_101 : decode cX4_enact 101 = .ok (.getfield 19, 3) := by decide +kernel
theorem dX4_enact_104 : decode cX4_enact 104 = .ok (.iconst 0, 1) := by decide +kernel
theorem dX4_enact_105 : decode cX4_enact 105 = .ok (.aload_n 0, 1) := by decide +kernel
theorem dX4_enact_106 : decode cX4_enact 106 = .ok (.getfield 35, 3) := by decide +kernel
theorem dX4_enact_109 : decode cX4_enact 109 = .ok (.invokestatic 46, 3) := by decide +kernel
theorem dX4_enact_112 : decode cX4_enact 112 = .ok (.aload_n 0, 1) := by decide +kernel
theorem dX4_enact_113 : decode cX4_enact 113 = .ok (.aload_n 0, 1) := by decide +kernel
theorem dX4_enact_114 : decode cX4_enact 114 = .ok (.getfield 35, 3) := by decide +kernel
theorem dX4_enact_117 : decode cX4_enact 117 = .ok (.putfield 52, 3) := by decide +kernel
theorem dX4_enact_120 : decode cX4_enact 120 = .ok (.iconst 1, 1) := by decide +kernel
theorem dX4_enact_121 : decode cX4_enact 121 = .ok (.ireturn, 1) := by decide +kernel
theorem dX4_readLine_0 : decode cX4_readLine 0 = .ok (.aload_n 0, 1) := by decide +kernel
theorem dX4_readLine_1 : decode cX4_readLine 1 = .ok (.iconst 0, 1) := by decide +kernel
theorem dX4_readLine_2 : decode cX4_readLine 2 = .ok (.iconst 0, 1) := by decide +kernel
theorem dX4_readLine_3 : decode cX4_readLine 3 = .ok (.invokevirtual 55, 3) := by decide +kernel
theorem dX4_readLine_6 : decode cX4_readLine 6 = .ok (.ifCond .ne 5, 3) := by decide +kernel
theorem dX4_readLine_9 : decode cX4_readLine 9 = .ok (.iconst 0, 1) := by decide +kernel
theorem dX4_readLine_10 : decode cX4_readLine 10 = .ok (.ireturn, 1) := by decide +kernel
theorem dX4_readLine_11 : decode cX4_readLine 11 = .ok (.aload_n 0, 1) := by decide +kernel
theorem dX4_readLine_12 : decode cX4_readLine 12 = .ok (.invokevirtual 42, 3) := by decide +kernel
theorem dX4_readLine_15 : decode cX4_readLine 15 = .ok (.bipush 63, 2) := by decide +kernel
theorem dX4_readLine_17 : decode cX4_readLine 17 = .ok (.if_icmp .ne 30, 3) := by decide +kernel
theorem dX4_readLine_20 : decode cX4_readLine 20 = .ok (.aload_n 0, 1) := by decide +kernel
theorem dX4_readLine_21 : decode cX4_readLine 21 = .ok (.dup, 1) := by decide +kernel
theorem dX4_readLine_22 : decode cX4_readLine 22 = .ok (.getfield 32, 3) := by decide +kernel
theorem dX4_readLine_25 : decode cX4_readLine 25 = .ok (.iconst 1, 1) := by decide +kernel
theorem dX4_readLine_26 : decode cX4_readLine 26 = .ok (.iadd, 1) := by decide +kernel
theorem dX4_readLine_27 : decode cX4_readLine 27 = .ok (.putfield 32, 3) := by decide +kernel
theorem dX4_readLine_30 : decode cX4_readLine 30 = .ok (.aload_n 0, 1) := by decide +kernel
theorem dX4_readLine_31 : decode cX4_readLine 31 = .ok (.bipush 63, 2) := by decide +kernel
theorem dX4_readLine_33 : decode cX4_readLine 33 = .ok (.invokevirtual 59, 3) := by decide +kernel
theorem dX4_readLine_36 : decode cX4_readLine 36 = .ok (.aload_n 0, 1) := by decide +kernel
theorem dX4_readLine_37 : decode cX4_readLine 37 = .ok (.iconst 0, 1) := by decide +kernel
theorem dX4_readLine_38 : decode cX4_readLine 38 = .ok (.iconst 0, 1) := by decide +kernel
theorem dX4_readLine_39 : decode cX4_readLine 39 = .ok (.invokevirtual 55, 3) := by decide +kernel
theorem dX4_readLine_42 : decode cX4_readLine 42 = .ok (.ifCond .ne 5, 3) := by decide +kernel
theorem dX4_readLine_45 : decode cX4_readLine 45 = .ok (.iconst 0, 1) := by decide +kernel
theorem dX4_readLine_46 : decode cX4_readLine 46 = .ok (.ireturn, 1) := by decide +kernel
theorem dX4_readLine_47 : decode cX4_readLine 47 = .ok (.aload_n 0, 1) := by decide +kernel
theorem dX4_readLine_48 : decode cX4_readLine 48 = .ok (.bipush 59, 2) := by decide +kernel
theorem dX4_readLine_50 : decode cX4_readLine 50 = .ok (.invokevirtual 59, 3) := by decide +kernel
theorem dX4_readLine_53 : decode cX4_readLine 53 = .ok (.iconst 1, 1) := by decide +kernel
theorem dX4_readLine_54 : decode cX4_readLine 54 = .ok (.ireturn, 1) := by decide +kernel
theorem dX4_readLevel_0 : decode cX4_readLevel 0 = .ok (.iload_n 1, 1) := by decide +kernel
theorem dX4_readLevel_1 : decode cX4_readLevel 1 = .ok (.iconst 5, 1) := by decide +kernel
theorem dX4_readLevel_2 : decode cX4_readLevel 2 = .ok (.if_icmp .lt 9, 3) := by decide +kernel
theorem dX4_readLevel_5 : decode cX4_readLevel 5 = .ok (.aload_n 0, 1) := by decide +kernel
theorem dX4_readLevel_6 : decode cX4_readLevel 6 = .ok (.iload_n 2, 1) := by decide +kernel
theorem dX4_readLevel_7 : decode cX4_readLevel 7 = .ok (.invokevirtual 63, 3) := by decide +kernel
theorem dX4_readLevel_10 : decode cX4_readLevel 10 = .ok (.ireturn, 1) := by decide +kernel
theorem dX4_readLevel_11 : decode cX4_readLevel 11 = .ok (.aload_n 0, 1) := by decide +kernel
theorem dX4_readLevel_12 : decode cX4_readLevel 12 = .ok (.iload_n 1, 1) := by decide +kernel
theorem dX4_readLevel_13 : decode cX4_readLevel 13 = .ok (.iconst 1, 1) := by decide +kernel
theorem dX4_readLevel_14 : decode cX4_readLevel 14 = .ok (.iadd, 1) := by decide +kernel
theorem dX4_readLevel_15 : decode cX4_readLevel 15 = .ok (.iload_n 2, 1) := by decide +kernel
theorem dX4_readLevel_16 : decode cX4_readLevel 16 = .ok (.invokevirtual 55, 3) := by decide +kernel
theorem dX4_readLevel_19 : decode cX4_readLevel 19 = .ok (.ifCond .ne 5, 3) := by decide +kernel
theorem dX4_readLevel_22 : decode cX4_readLevel 22 = .ok (.iconst 0, 1) := by decide +kernel
theorem dX4_readLevel_23 : decode cX4_readLevel 23 = .ok (.ireturn, 1) := by decide +kernel
theorem dX4_readLevel_24 : decode cX4_readLevel 24 = .ok (.iconst 0, 1) := by decide +kernel
theorem dX4_readLevel_25 : decode cX4_readLevel 25 = .ok (.istore_n 3, 1) := by decide +kernel
theorem dX4_readLevel_26 : decode cX4_readLevel 26 = .ok (.iload_n 3, 1) := by decide +kernel
theorem dX4_readLevel_27 : decode cX4_readLevel 27 = .ok (.bipush 120, 2) := by decide +kernel
theorem dX4_readLevel_29 : decode cX4_readLevel 29 = .ok (.if_icmp .ge 63, 3) := by decide +kernel
theorem dX4_readLevel_32 : decode cX4_readLevel 32 = .ok (.aload_n 0, 1) := by decide +kernel
theorem dX4_readLevel_33 : decode cX4_readLevel 33 = .ok (.invokevirtual 42, 3) := by decide +kernel
theorem dX4_readLevel_36 : decode cX4_readLevel 36 = .ok (.invokestatic 67, 3) := by decide +kernel
theorem dX4_readLevel_39 : decode cX4_readLevel 39 = .ok (.iload_n 1, 1) := by decide +kernel
theorem dX4_readLevel_40 : decode cX4_readLevel 40 = .ok (.if_icmp .ne 52, 3) := by decide +kernel
theorem dX4_readLevel_43 : decode cX4_readLevel 43 = .ok (.aload_n 0, 1) := by decide +kernel
theorem dX4_readLevel_44 : decode cX4_readLevel 44 = .ok (.invokevirtual 42, 3) := by decide +kernel
theorem dX4_readLevel_47 : decode cX4_readLevel 47 = .ok (.istore 4, 2) := by decide +kernel
theorem dX4_readLevel_49 : decode cX4_readLevel 49 = .ok (.aload_n 0, 1) := by decide +kernel
theorem dX4_readLevel_50 : decode cX4_readLevel 50 = .ok (.dup, 1) := by decide +kernel
theorem dX4_readLevel_51 : decode cX4_readLevel 51 = .ok (.getfield 32, 3) := by decide +kernel
theorem dX4_readLevel_54 : decode cX4_readLevel 54 = .ok (.iconst 1, 1) := by decide +kernel
theorem dX4_readLevel_55 : decode cX4_readLevel 55 = .ok (.iadd, 1) := by decide +kernel
theorem dX4_readLevel_56 : decode cX4_readLevel 56 = .ok (.putfield 32, 3) := by decide +kernel
theorem dX4_readLevel_59 : decode cX4_readLevel 59 = .ok (.aload_n 0, 1) := by decide +kernel
theorem dX4_readLevel_60 : decode cX4_readLevel 60 = .ok (.iload_n 1, 1) := by decide +kernel
theorem dX4_readLevel_61 : decode cX4_readLevel 61 = .ok (.iconst 1, 1) := by decide +kernel
theorem dX4_readLevel_62 : decode cX4_readLevel 62 = .ok (.iadd, 1) := by decide +kernel
theorem dX4_readLevel_63 : decode cX4_readLevel 63 = .ok (.iload_n 2, 1) := by decide +kernel
theorem dX4_readLevel_64 : decode cX4_readLevel 64 = .ok (.invokevirtual 55, 3) := by decide +kernel
theorem dX4_readLevel_67 : decode cX4_readLevel 67 = .ok (.ifCond .ne 5, 3) := by decide +kernel
theorem dX4_readLevel_70 : decode cX4_readLevel 70 = .ok (.iconst 0, 1) := by decide +kernel
theorem dX4_readLevel_71 : decode cX4_readLevel 71 = .ok (.ireturn, 1) := by decide +kernel
theorem dX4_readLevel_72 : decode cX4_readLevel 72 = .ok (.aload_n 0, 1) := by decide +kernel
theorem dX4_readLevel_73 : decode cX4_readLevel 73 = .ok (.iload 4, 2) := by decide +kernel
theorem dX4_readLevel_75 : decode cX4_readLevel 75 = .ok (.invokevirtual 59, 3) := by decide +kernel
theorem dX4_readLevel_78 : decode cX4_readLevel 78 = .ok (.iload_n 1, 1) := by decide +kernel
theorem dX4_readLevel_79 : decode cX4_readLevel 79 = .ok (.iconst 2, 1) := by decide +kernel
theorem dX4_readLevel_80 : decode cX4_readLevel 80 = .ok (.if_icmp .ne 6, 3) := by decide +kernel
theorem dX4_readLevel_83 : decode cX4_readLevel 83 = .ok (.goto 9, 3) := by decide +kernel
theorem dX4_readLevel_86 : decode cX4_readLevel 86 = .ok (.iinc 3 1, 3) := by decide +kernel
theorem dX4_readLevel_89 : decode cX4_readLevel 89 = .ok (.goto (-63), 3) := by decide +kernel
theorem dX4_readLevel_92 : decode cX4_readLevel 92 = .ok (.iconst 1, 1) := by decide +kernel
theorem dX4_readLevel_93 : decode cX4_readLevel 93 = .ok (.ireturn, 1) := by decide +kernel
theorem dX4_readOperand_0 : decode cX4_readOperand 0 = .ok (.aload_n 0, 1) := by decide +kernel
theorem dX4_readOperand_1 : decode cX4_readOperand 1 = .ok (.invokevirtual 42, 3) := by decide +kernel
theorem dX4_readOperand_4 : decode cX4_readOperand 4 = .ok (.istore_n 2, 1) := by decide +kernel
theorem dX4_readOperand_5 : decode cX4_readOperand 5 = .ok (.iload_n 2, 1) := by decide +kernel
theorem dX4_readOperand_6 : decode cX4_readOperand 6 = .ok (.invokestatic 71, 3) := by decide +kernel
theorem dX4_readOperand_9 : decode cX4_readOperand 9 = .ok (.ifCond .eq 9, 3) := by decide +kernel
theorem dX4_readOperand_12 : decode cX4_readOperand 12 = .ok (.aload_n 0, 1) := by decide +kernel
theorem dX4_readOperand_13 : decode cX4_readOperand 13 = .ok (.invokevirtual 74, 3) := by decide +kernel
theorem dX4_readOperand_16 : decode cX4_readOperand 16 = .ok (.iconst 1, 1) := by decide +kernel
theorem dX4_readOperand_17 : decode cX4_readOperand 17 = .ok (.ireturn, 1) := by decide +kernel
theorem dX4_readOperand_18 : decode cX4_readOperand 18 = .ok (.iload_n 2, 1) := by decide +kernel
theorem dX4_readOperand_19 : decode cX4_readOperand 19 = .ok (.ifCond .le 13, 3) := by decide +kernel
theorem dX4_readOperand_22 : decode cX4_readOperand 22 = .ok (.ldc 77, 2) := by decide +kernel
theorem dX4_readOperand_24 : decode cX4_readOperand 24 = .ok (.iload_n 2, 1) := by decide +kernel
theorem dX4_readOperand_25 : decode cX4_readOperand 25 = .ok (.i2c, 1) := by decide +kernel
theorem dX4_readOperand_26 : decode cX4_readOperand 26 = .ok (.invokevirtual 79, 3) := by decide +kernel
theorem dX4_readOperand_29 : decode cX4_readOperand 29 = .ok (.goto 4, 3) := by decide +kernel
theorem dX4_readOperand_32 : decode cX4_readOperand 32 = .ok (.iconst (-1), 1) := by decide +kernel
theorem dX4_readOperand_33 : decode cX4_readOperand 33 = .ok (.istore_n 3, 1) := by decide +kernel
theorem dX4_readOperand_34 : decode cX4_readOperand 34 = .ok (.iload_n 3, 1) := by decide +kernel
theorem dX4_readOperand_35 : decode cX4_readOperand 35 = .ok (.ifCond .lt 22, 3) := by decide +kernel
theorem dX4_readOperand_38 : decode cX4_readOperand 38 = .ok (.aload_n 0, 1) := by decide +kernel
theorem dX4_readOperand_39 : decode cX4_readOperand 39 = .ok (.dup, 1) := by decide +kernel
theorem dX4_readOperand_40 : decode cX4_readOperand 40 = .ok (.getfield 32, 3) := by decide +kernel
theorem dX4_readOperand_43 : decode cX4_readOperand 43 = .ok (.iconst 1, 1) := by decide +kernel
theorem dX4_readOperand_44 : decode cX4_readOperand 44 = .ok (.iadd, 1) := by decide +kernel
theorem dX4_readOperand_45 : decode cX4_readOperand 45 = .ok (.putfield 32, 3) := by decide +kernel
theorem dX4_readOperand_48 : decode cX4_readOperand 48 = .ok (.aload_n 0, 1) := by decide +kernel
theorem dX4_readOperand_49 : decode cX4_readOperand 49 = .ok (.iconst (-1), 1) := by decide +kernel
theorem dX4_readOperand_50 : decode cX4_readOperand 50 = .ok (.iload_n 3, 1) := by decide +kernel
theorem dX4_readOperand_51 : decode cX4_readOperand 51 = .ok (.isub, 1) := by decide +kernel
theorem dX4_readOperand_52 : decode cX4_readOperand 52 = .ok (.invokevirtual 59, 3) := by decide +kernel
theorem dX4_readOperand_55 : decode cX4_readOperand 55 = .ok (.iconst 1, 1) := by decide +kernel
theorem dX4_readOperand_56 : decode cX4_readOperand 56 = .ok (.ireturn, 1) := by decide +kernel
theorem dX4_readOperand_57 : decode cX4_readOperand 57 = .ok (.iload_n 1, 1) := by decide +kernel
theorem dX4_readOperand_58 : decode cX4_readOperand 58 = .ok (.bipush 6, 2) := by decide +kernel
theorem dX4_readOperand_60 : decode cX4_readOperand 60 = .ok (.if_icmp .lt 5, 3) := by decide +kernel
theorem dX4_readOperand_63 : decode cX4_readOperand 63 = .ok (.iconst 0, 1) := by decide +kernel
theorem dX4_readOperand_64 : decode cX4_readOperand 64 = .ok (.ireturn, 1) := by decide +kernel
theorem dX4_readOperand_65 : decode cX4_readOperand 65 = .ok (.iload_n 2, 1) := by decide +kernel
theorem dX4_readOperand_66 : decode cX4_readOperand 66 = .ok (.bipush 33, 2) := by decide +kernel
theorem dX4_readOperand_68 : decode cX4_readOperand 68 = .ok (.if_icmp .eq 9, 3) := by decide +kernel
theorem dX4_readOperand_71 : decode cX4_readOperand 71 = .ok (.iload_n 2, 1) := by decide +kernel
theorem dX4_readOperand_72 : decode cX4_readOperand 72 = .ok (.bipush 45, 2) := by decide +kernel
theorem dX4_readOperand_74 : decode cX4_readOperand 74 = .ok (.if_icmp .ne 42, 3) := by decide +kernel
theorem dX4_readOperand_77 : decode cX4_readOperand 77 = .ok (.aload_n 0, 1) := by decide +kernel
theorem dX4_readOperand_78 : decode cX4_readOperand 78 = .ok (.dup, 1) := by decide +kernel
theorem dX4_readOperand_79 : decode cX4_readOperand 79 = .ok (.getfield 32, 3) := by decide +kernel
theorem dX4_readOperand_82 : decode cX4_readOperand 82 = .ok (.iconst 1, 1) := by decide +kernel
theorem dX4_readOperand_83 : decode cX4_readOperand 83 = .ok (.iadd, 1) := by decide +kernel
theorem dX4_readOperand_84 : decode cX4_readOperand 84 = .ok (.putfield 32, 3) := by decide +kernel
theorem dX4_readOperand_87 : decode cX4_readOperand 87 = .ok (.aload_n 0, 1) := by decide +kernel
theorem dX4_readOperand_88 : decode cX4_readOperand 88 = .ok (.iload_n 1, 1) := by decide +kernel
theorem dX4_readOperand_89 : decode cX4_readOperand 89 = .ok (.iconst 1, 1) := by decide +kernel
theorem dX4_readOperand_90 : decode cX4_readOperand 90 = .ok (.iadd, 1) := by decide +kernel
theorem dX4_readOperand_91 : decode cX4_readOperand 91 = .ok (.invokevirtual 63, 3) := by decide +kernel
theorem dX4_readOperand_94 : decode cX4_readOperand 94 = .ok (.istore 4, 2) := by decide +kernel
theorem dX4_readOperand_96 : decode cX4_readOperand 96 = .ok (.aload_n 0, 1) := by decide +kernel
theorem dX4_readOperand_97 : decode cX4_readOperand 97 = .ok (.iload_n 2, 1) := by decide +kernel
theorem dX4_readOperand_98 : decode cX4_readOperand 98 = .ok (.bipush 33, 2) := by decide +kernel
theorem dX4_readOperand_100 : decode cX4_readOperand 100 = .ok (.if_icmp .ne 8, 3) := by decide +kernel
theorem dX4_readOperand_103 : decode cX4_readOperand 103 = .ok (.bipush 33, 2) := by decide +kernel
theorem dX4_readOperand_105 : decode cX4_readOperand 105 = .ok (.goto 5, 3) := by decide +kernel
theorem dX4_readOperand_108 : decode cX4_readOperand 108 = .ok (.bipush 126, 2) := by decide +kernel
theorem dX4_readOperand_110 : decode cX4_readOperand 110 = .ok (.invokevirtual 59, 3) := by decide +kernel
theorem dX4_readOperand_113 : decode cX4_readOperand 113 = .ok (.iload 4, 2) := by decide +kernel
theorem dX4_readOperand_115 : decode cX4_readOperand 115 = .ok (.ireturn, 1) := by decide +kernel
theorem dX4_readOperand_116 : decode cX4_readOperand 116 = .ok (.iload_n 2, 1) := by decide +kernel
theorem dX4_readOperand_117 : decode cX4_readOperand 117 = .ok (.bipush 40, 2) := by decide +kernel
theorem dX4_readOperand_119 : decode cX4_readOperand 119 = .ok (.if_icmp .ne 17, 3) := by decide +kernel
theorem dX4_readOperand_122 : decode cX4_readOperand 122 = .ok (.aload_n 0, 1) := by decide +kernel
theorem dX4_readOperand_123 : decode cX4_readOperand 123 = .ok (.iload_n 1, 1) := by decide +kernel
theorem dX4_readOperand_124 : decode cX4_readOperand 124 = .ok (.iconst 1, 1) := by decide +kernel
theorem dX4_readOperand_125 : decode cX4_readOperand 125 = .ok (.iadd, 1) := by decide +kernel
theorem dX4_readOperand_126 : decode cX4_readOperand 126 = .ok (.invokevirtual 84, 3) := by decide +kernel
theorem dX4_readOperand_129 : decode cX4_readOperand 129 = .ok (.ifCond .eq 7, 3) := by decide +kernel
theorem dX4_readOperand_132 : decode cX4_readOperand 132 = .ok (.iconst 1, 1) := by decide +kernel
theorem dX4_readOperand_133 : decode cX4_readOperand 133 = .ok (.goto 4, 3) := by decide +kernel
theorem dX4_readOperand_136 : decode cX4_readOperand 136 = .ok (.iconst 0, 1) := by decide +kernel
theorem dX4_readOperand_137 : decode cX4_readOperand 137 = .ok (.ireturn, 1) := by decide +kernel
theorem dX4_readBracket_0 : decode cX4_readBracket 0 = .ok (.aload_n 0, 1) := by decide +kernel
theorem dX4_readBracket_1 : decode cX4_readBracket 1 = .ok (.dup, 1) := by decide +kernel
theorem dX4_readBracket_2 : decode cX4_readBracket 2 = .ok (.getfield 32, 3) := by decide +kernel
theorem dX4_readBracket_5 : decode cX4_readBracket 5 = .ok (.iconst 1, 1) := by decide +kernel
theorem dX4_readBracket_6 : decode cX4_readBracket 6 = .ok (.iadd, 1) := by decide +kernel
theorem dX4_readBracket_7 : decode cX4_readBracket 7 = .ok (.putfield 32, 3) := by decide +kernel
theorem dX4_readBracket_10 : decode cX4_readBracket 10 = .ok (.aload_n 0, 1) := by decide +kernel
theorem dX4_readBracket_11 : decode cX4_readBracket 11 = .ok (.iconst 0, 1) := by decide +kernel
theorem dX4_readBracket_12 : decode cX4_readBracket 12 = .ok (.iload_n 1, 1) := by decide +kernel
theorem dX4_readBracket_13 : decode cX4_readBracket 13 = .ok (.invokevirtual 55, 3) := by decide +kernel
theorem dX4_readBracket_16 : decode cX4_readBracket 16 = .ok (.ifCond .eq 12, 3) := by decide +kernel
theorem dX4_readBracket_19 : decode cX4_readBracket 19 = .ok (.aload_n 0, 1) := by decide +kernel
theorem dX4_readBracket_20 : decode cX4_readBracket 20 = .ok (.invokevirtual 42, 3) := by decide +kernel
theorem dX4_readBracket_23 : decode cX4_readBracket 23 = .ok (.bipush 41, 2) := by decide +kernel
theorem dX4_readBracket_25 : decode cX4_readBracket 25 = .ok (.if_icmp .eq 5, 3) := by decide +kernel
theorem dX4_readBracket_28 : decode cX4_readBracket 28 = .ok (.iconst 0, 1) := by decide +kernel
theorem dX4_readBracket_29 : decode cX4_readBracket 29 = .ok (.ireturn, 1) := by decide +kernel
theorem dX4_readBracket_30 : decode cX4_readBracket 30 = .ok (.aload_n 0, 1) := by decide +kernel
theorem dX4_readBracket_31 : decode cX4_readBracket 31 = .ok (.dup, 1) := by decide +kernel
theorem dX4_readBracket_32 : decode cX4_readBracket 32 = .ok (.getfield 32, 3) := by decide +kernel
theorem dX4_readBracket_35 : decode cX4_readBracket 35 = .ok (.iconst 1, 1) := by decide +kernel
theorem dX4_readBracket_36 : decode cX4_readBracket 36 = .ok (.iadd, 1) := by decide +kernel
theorem dX4_readBracket_37 : decode cX4_readBracket 37 = .ok (.putfield 32, 3) := by decide +kernel
theorem dX4_readBracket_40 : decode cX4_readBracket 40 = .ok (.iconst 1, 1) := by decide +kernel
theorem dX4_readBracket_41 : decode cX4_readBracket 41 = .ok (.ireturn, 1) := by decide +kernel
theorem dX4_readNumber_0 : decode cX4_readNumber 0 = .ok (.iconst 0, 1) := by decide +kernel
theorem dX4_readNumber_1 : decode cX4_readNumber 1 = .ok (.istore_n 1, 1) := by decide +kernel
theorem dX4_readNumber_2 : decode cX4_readNumber 2 = .ok (.iconst 0, 1) := by decide +kernel
theorem dX4_readNumber_3 : decode cX4_readNumber 3 = .ok (.istore_n 2, 1) := by decide +kernel
theorem dX4_readNumber_4 : decode cX4_readNumber 4 = .ok (.iload_n 2, 1) := by decide +kernel
theorem dX4_readNumber_5 : decode cX4_readNumber 5 = .ok (.iconst 4, 1) := by decide +kernel
theorem dX4_readNumber_6 : decode cX4_readNumber 6 = .ok (.if_icmp .ge 42, 3) := by decide +kernel
theorem dX4_readNumber_9 : decode cX4_readNumber 9 = .ok (.aload_n 0, 1) := by decide +kernel
theorem dX4_readNumber_10 : decode cX4_readNumber 10 = .ok (.invokevirtual 42, 3) := by decide +kernel
theorem dX4_readNumber_13 : decode cX4_readNumber 13 = .ok (.invokestatic 71, 3) := by decide +kernel
theorem dX4_readNumber_16 : decode cX4_readNumber 16 = .ok (.ifCond .eq 32, 3) := by decide +kernel
theorem dX4_readNumber_19 : decode cX4_readNumber 19 = .ok (.iload_n 1, 1) := by decide +kernel
theorem dX4_readNumber_20 : decode cX4_readNumber 20 = .ok (.bipush 10, 2) := by decide +kernel
theorem dX4_readNumber_22 : decode cX4_readNumber 22 = .ok (.imul, 1) := by decide +kernel
theorem dX4_readNumber_23 : decode cX4_readNumber 23 = .ok (.aload_n 0, 1) := by decide +kernel
theorem dX4_readNumber_24 : decode cX4_readNumber 24 = .ok (.invokevirtual 42, 3) := by decide +kernel
theorem dX4_readNumber_27 : decode cX4_readNumber 27 = .ok (.iadd, 1) := by decide +kernel
theorem dX4_readNumber_28 : decode cX4_readNumber 28 = .ok (.bipush 48, 2) := by decide +kernel
theorem dX4_readNumber_30 : decode cX4_readNumber 30 = .ok (.isub, 1) := by decide +kernel
theorem dX4_readNumber_31 : decode cX4_readNumber 31 = .ok (.istore_n 1, 1) := by decide +kernel
theorem dX4_readNumber_32 : decode cX4_readNumber 32 = .ok (.aload_n 0, 1) := by decide +kernel
theorem dX4_readNumber_33 : decode cX4_readNumber 33 = .ok (.dup, 1) := by decide +kernel
theorem dX4_readNumber_34 : decode cX4_readNumber 34 = .ok (.getfield 32, 3) := by decide +kernel
theorem dX4_readNumber_37 : decode cX4_readNumber 37 = .ok (.iconst 1, 1) := by decide +kernel
theorem dX4_readNumber_38 : decode cX4_readNumber 38 = .ok (.iadd, 1) := by decide +kernel
theorem dX4_readNumber_39 : decode cX4_readNumber 39 = .ok (.putfield 32, 3) := by decide +kernel
theorem dX4_readNumber_42 : decode cX4_readNumber 42 = .ok (.iinc 2 1, 3) := by decide +kernel
theorem dX4_readNumber_45 : decode cX4_readNumber 45 = .ok (.goto (-41), 3) := by decide +kernel
theorem dX4_readNumber_48 : decode cX4_readNumber 48 = .ok (.aload_n 0, 1) := by decide +kernel
theorem dX4_readNumber_49 : decode cX4_readNumber 49 = .ok (.sipush 256, 3) := by decide +kernel
theorem dX4_readNumber_52 : decode cX4_readNumber 52 = .ok (.iload_n 1, 1) := by decide +kernel
theorem dX4_readNumber_53 : decode cX4_readNumber 53 = .ok (.iadd, 1) := by decide +kernel
theorem dX4_readNumber_54 : decode cX4_readNumber 54 = .ok (.invokevirtual 59, 3) := by decide +kernel
theorem dX4_readNumber_57 : decode cX4_readNumber 57 = .ok (.return_, 1) := by decide +kernel
theorem dX4_isDigit_0 : decode cX4_isDigit 0 = .ok (.iload_n 0, 1) := by decide +kernel
theorem dX4_isDigit_1 : decode cX4_isDigit 1 = .ok (.bipush 48, 2) := by decide +kernel
theorem dX4_isDigit_3 : decode cX4_isDigit 3 = .ok (.if_icmp .lt 13, 3) := by decide +kernel
theorem dX4_isDigit_6 : decode cX4_isDigit 6 = .ok (.iload_n 0, 1) := by decide +kernel
theorem dX4_isDigit_7 : decode cX4_isDigit 7 = .ok (.bipush 57, 2) := by decide +kernel
theorem dX4_isDigit_9 : decode cX4_isDigit 9 = .ok (.if_icmp .gt 7, 3) := by decide +kernel
theorem dX4_isDigit_12 : decode cX4_isDigit 12 = .ok (.iconst 1, 1) := by decide +kernel
theorem dX4_isDigit_13 : decode cX4_isDigit 13 = .ok (.goto 4, 3) := by decide +kernel
theorem dX4_isDigit_16 : decode cX4_isDigit 16 = .ok (.iconst 0, 1) := by decide +kernel
theorem dX4_isDigit_17 : decode cX4_isDigit 17 = .ok (.ireturn, 1) := by decide +kernel
theorem dX4_levelOf_0 : decode cX4_levelOf 0 = .ok (.iload_n 0, 1) := by decide +kernel
theorem dX4_levelOf_1 : decode cX4_levelOf 1 = .ok (.lookupswitch 101 #[(37, 99), (38, 93), (42, 99), (43, 97), (45, 97), (47, 99), (60, 95), (61, 95), (62, 95), (124, 91)], 91) := by decide +kernel
theorem dX4_levelOf_92 : decode cX4_levelOf 92 = .ok (.iconst 0, 1) := by decide +kernel
theorem dX4_levelOf_93 : decode cX4_levelOf 93 = .ok (.ireturn, 1) := by decide +kernel
theorem dX4_levelOf_94 : decode cX4_levelOf 94 = .ok (.iconst 1, 1) := by decide +kernel
theorem dX4_levelOf_95 : decode cX4_levelOf 95 = .ok (.ireturn, 1) := by decide +kernel
theorem dX4_levelOf_96 : decode cX4_levelOf 96 = .ok (.iconst 2, 1) := by decide +kernel
theorem dX4_levelOf_97 : decode cX4_levelOf 97 = .ok (.ireturn, 1) := by decide +kernel
theorem dX4_levelOf_98 : decode cX4_levelOf 98 = .ok (.iconst 3, 1) := by decide +kernel
theorem dX4_levelOf_99 : decode cX4_levelOf 99 = .ok (.ireturn, 1) := by decide +kernel
theorem dX4_levelOf_100 : decode cX4_levelOf 100 = .ok (.iconst 4, 1) := by decide +kernel
theorem dX4_levelOf_101 : decode cX4_levelOf 101 = .ok (.ireturn, 1) := by decide +kernel
theorem dX4_levelOf_102 : decode cX4_levelOf 102 = .ok (.iconst (-1), 1) := by decide +kernel
theorem dX4_levelOf_103 : decode cX4_levelOf 103 = .ok (.ireturn, 1) := by decide +kernel
theorem dX4_letter_0 : decode cX4_letter 0 = .ok (.aload_n 0, 1) := by decide +kernel
theorem dX4_letter_1 : decode cX4_letter 1 = .ok (.getfield 32, 3) := by decide +kernel
theorem dX4_letter_4 : decode cX4_letter 4 = .ok (.ifCond .lt 39, 3) := by decide +kernel
theorem dX4_letter_7 : decode cX4_letter 7 = .ok (.aload_n 0, 1) := by decide +kernel
theorem dX4_letter_8 : decode cX4_letter 8 = .ok (.getfield 32, 3) := by decide +kernel
theorem dX4_letter_11 : decode cX4_letter 11 = .ok (.aload_n 0, 1) := by decide +kernel
theorem dX4_letter_12 : decode cX4_letter 12 = .ok (.getfield 28, 3) := by decide +kernel
theorem dX4_letter_15 : decode cX4_letter 15 = .ok (.if_icmp .ge 28, 3) := by decide +kernel
theorem dX4_letter_18 : decode cX4_letter 18 = .ok (.aload_n 0, 1) := by decide +kernel
theorem dX4_letter_19 : decode cX4_letter 19 = .ok (.getfield 32, 3) := by decide +kernel
theorem dX4_letter_22 : decode cX4_letter 22 = .ok (.bipush 120, 2) := by decide +kernel
theorem dX4_letter_24 : decode cX4_letter 24 = .ok (.if_icmp .ge 19, 3) := by decide +kernel
theorem dX4_letter_27 : decode cX4_letter 27 = .ok (.aload_n 0, 1) := by decide +kernel
theorem dX4_letter_28 : decode cX4_letter 28 = .ok (.getfield 11, 3) := by decide +kernel
theorem dX4_letter_31 : decode cX4_letter 31 = .ok (.aload_n 0, 1) := by decide +kernel
theorem dX4_letter_32 : decode cX4_letter 32 = .ok (.getfield 32, 3) := by decide +kernel
theorem dX4_letter_35 : decode cX4_letter 35 = .ok (.baload, 1) := by decide +kernel
theorem dX4_letter_36 : decode cX4_letter 36 = .ok (.sipush 255, 3) := by decide +kernel
theorem dX4_letter_39 : decode cX4_letter 39 = .ok (.iand, 1) := by decide +kernel
theorem dX4_letter_40 : decode cX4_letter 40 = .ok (.goto 4, 3) := by decide +kernel
theorem dX4_letter_43 : decode cX4_letter 43 = .ok (.iconst (-1), 1) := by decide +kernel
theorem dX4_letter_44 : decode cX4_letter 44 = .ok (.ireturn, 1) := by decide +kernel
theorem dX4_draw_0 : decode cX4_draw 0 = .ok (.aload_n 0, 1) := by decide +kernel
theorem dX4_draw_1 : decode cX4_draw 1 = .ok (.getfield 35, 3) := by decide +kernel
theorem dX4_draw_4 : decode cX4_draw 4 = .ok (.bipush 121, 2) := by decide +kernel
theorem dX4_draw_6 : decode cX4_draw 6 = .ok (.if_icmp .ge 23, 3) := by decide +kernel
theorem dX4_draw_9 : decode cX4_draw 9 = .ok (.aload_n 0, 1) := by decide +kernel
theorem dX4_draw_10 : decode cX4_draw 10 = .ok (.getfield 15, 3) := by decide +kernel
theorem dX4_draw_13 : decode cX4_draw 13 = .ok (.aload_n 0, 1) := by decide +kernel
theorem dX4_draw_14 : decode cX4_draw 14 = .ok (.getfield 35, 3) := by decide +kernel
theorem dX4_draw_17 : decode cX4_draw 17 = .ok (.iload_n 1, 1) := by decide +kernel
theorem dX4_draw_18 : decode cX4_draw 18 = .ok (.iastore, 1) := by decide +kernel
theorem dX4_draw_19 : decode cX4_draw 19 = .ok (.aload_n 0, 1) := by decide +kernel
theorem dX4_draw_20 : decode cX4_draw 20 = .ok (.dup, 1) := by decide +kernel
theorem dX4_draw_21 : decode cX4_draw 21 = .ok (.getfield 35, 3) := by decide +kernel
theorem dX4_draw_24 : decode cX4_draw 24 = .ok (.iconst 1, 1) := by decide +kernel
theorem dX4_draw_25 : decode cX4_draw 25 = .ok (.iadd, 1) := by decide +kernel
theorem dX4_draw_26 : decode cX4_draw 26 = .ok (.putfield 35, 3) := by decide +kernel
theorem dX4_draw_29 : decode cX4_draw 29 = .ok (.return_, 1) := by decide +kernel
theorem dX4_lasting_0 : decode cX4_lasting 0 = .ok (.aload_n 0, 1) := by decide +kernel
theorem dX4_lasting_1 : decode cX4_lasting 1 = .ok (.getfield 52, 3) := by decide +kernel
theorem dX4_lasting_4 : decode cX4_lasting 4 = .ok (.ifCond .ne 11, 3) := by decide +kernel
theorem dX4_lasting_7 : decode cX4_lasting 7 = .ok (.iload_n 2, 1) := by decide +kernel
theorem dX4_lasting_8 : decode cX4_lasting 8 = .ok (.iload_n 1, 1) := by decide +kernel
theorem dX4_lasting_9 : decode cX4_lasting 9 = .ok (.iconst 3, 1) := by decide +kernel
theorem dX4_lasting_10 : decode cX4_lasting 10 = .ok (.idiv, 1) := by decide +kernel
theorem dX4_lasting_11 : decode cX4_lasting 11 = .ok (.iadd, 1) := by decide +kernel
theorem dX4_lasting_12 : decode cX4_lasting 12 = .ok (.iconst 1, 1) := by decide +kernel
theorem dX4_lasting_13 : decode cX4_lasting 13 = .ok (.iadd, 1) := by decide +kernel
theorem dX4_lasting_14 : decode cX4_lasting 14 = .ok (.ireturn, 1) := by decide +kernel
theorem dX4_lasting_15 : decode cX4_lasting 15 = .ok (.aload_n 0, 1) := by decide +kernel
theorem dX4_lasting_16 : decode cX4_lasting 16 = .ok (.getfield 25, 3) := by decide +kernel
theorem dX4_lasting_19 : decode cX4_lasting 19 = .ok (.iconst 0, 1) := by decide +kernel
theorem dX4_lasting_20 : decode cX4_lasting 20 = .ok (.iload_n 1, 1) := by decide +kernel
theorem dX4_lasting_21 : decode cX4_lasting 21 = .ok (.iastore, 1) := by decide +kernel
theorem dX4_lasting_22 : decode cX4_lasting 22 = .ok (.aload_n 0, 1) := by decide +kernel
theorem dX4_lasting_23 : decode cX4_lasting 23 = .ok (.getfield 25, 3) := by decide +kernel
theorem dX4_lasting_26 : decode cX4_lasting 26 = .ok (.iconst 1, 1) := by decide +kernel
theorem dX4_lasting_27 : decode cX4_lasting 27 = .ok (.iload_n 2, 1) := by decide +kernel
theorem dX4_lasting_28 : decode cX4_lasting 28 = .ok (.iastore, 1) := by decide +kernel
theorem dX4_lasting_29 : decode cX4_lasting 29 = .ok (.aload_n 0, 1) := by decide +kernel
theorem dX4_lasting_30 : decode cX4_lasting 30 = .ok (.getfield 25, 3) := by decide +kernel
theorem dX4_lasting_33 : decode cX4_lasting 33 = .ok (.iconst 2, 1) := by decide +kernel
theorem dX4_lasting_34 : decode cX4_lasting 34 = .ok (.iload_n 3, 1) := by decide +kernel
theorem dX4_lasting_35 : decode cX4_lasting 35 = .ok (.iastore, 1) := by decide +kernel
theorem dX4_lasting_36 : decode cX4_lasting 36 = .ok (.aload_n 0, 1) := by decide +kernel
theorem dX4_lasting_37 : decode cX4_lasting 37 = .ok (.getfield 25, 3) := by decide +kernel
theorem dX4_lasting_40 : decode cX4_lasting 40 = .ok (.iconst 3, 1) := by decide +kernel
theorem dX4_lasting_41 : decode cX4_lasting 41 = .ok (.iload 4, 2) := by decide +kernel
theorem dX4_lasting_43 : decode cX4_lasting 43 = .ok (.iastore, 1) := by decide +kernel
theorem dX4_lasting_44 : decode cX4_lasting 44 = .ok (.aload_n 0, 1) := by decide +kernel
theorem dX4_lasting_45 : decode cX4_lasting 45 = .ok (.getfield 25, 3) := by decide +kernel
theorem dX4_lasting_48 : decode cX4_lasting 48 = .ok (.iconst 4, 1) := by decide +kernel
theorem dX4_lasting_49 : decode cX4_lasting 49 = .ok (.iload 5, 2) := by decide +kernel
theorem dX4_lasting_51 : decode cX4_lasting 51 = .ok (.iastore, 1) := by decide +kernel
theorem dX4_lasting_52 : decode cX4_lasting 52 = .ok (.aload_n 0, 1) := by decide +kernel
theorem dX4_lasting_53 : decode cX4_lasting 53 = .ok (.getfield 25, 3) := by decide +kernel
theorem dX4_lasting_56 : decode cX4_lasting 56 = .ok (.iconst 5, 1) := by decide +kernel
theorem dX4_lasting_57 : decode cX4_lasting 57 = .ok (.iload 6, 2) := by decide +kernel
theorem dX4_lasting_59 : decode cX4_lasting 59 = .ok (.iastore, 1) := by decide +kernel
theorem dX4_lasting_60 : decode cX4_lasting 60 = .ok (.iconst 1, 1) := by decide +kernel
theorem dX4_lasting_61 : decode cX4_lasting 61 = .ok (.bipush 20, 2) := by decide +kernel
theorem dX4_lasting_63 : decode cX4_lasting 63 = .ok (.aload_n 0, 1) := by decide +kernel
theorem dX4_lasting_64 : decode cX4_lasting 64 = .ok (.invokevirtual 87, 3) := by decide +kernel
theorem dX4_lasting_67 : decode cX4_lasting 67 = .ok (.invokestatic 90, 3) := by decide +kernel
theorem dX4_lasting_70 : decode cX4_lasting 70 = .ok (.invokestatic 96, 3) := by decide +kernel
theorem dX4_lasting_73 : decode cX4_lasting 73 = .ok (.ireturn, 1) := by decide +kernel
theorem dX4_worth_0 : decode cX4_worth 0 = .ok (.iconst 0, 1) := by decide +kernel
theorem dX4_worth_1 : decode cX4_worth 1 = .ok (.istore_n 1, 1) := by decide +kernel
theorem dX4_worth_2 : decode cX4_worth 2 = .ok (.iconst 1, 1) := by decide +kernel
theorem dX4_worth_3 : decode cX4_worth 3 = .ok (.istore_n 2, 1) := by decide +kernel
theorem dX4_worth_4 : decode cX4_worth 4 = .ok (.iconst 0, 1) := by decide +kernel
theorem dX4_worth_5 : decode cX4_worth 5 = .ok (.istore_n 3, 1) := by decide +kernel
theorem dX4_worth_6 : decode cX4_worth 6 = .ok (.iload_n 3, 1) := by decide +kernel
theorem dX4_worth_7 : decode cX4_worth 7 = .ok (.aload_n 0, 1) := by decide +kernel
theorem dX4_worth_8 : decode cX4_worth 8 = .ok (.getfield 52, 3) := by decide +kernel
theorem dX4_worth_11 : decode cX4_worth 11 = .ok (.if_icmp .ge 215, 3) := by decide +kernel
theorem dX4_worth_14 : decode cX4_worth 14 = .ok (.aload_n 0, 1) := by decide +kernel
theorem dX4_worth_15 : decode cX4_worth 15 = .ok (.getfield 19, 3) := by decide +kernel
theorem dX4_worth_18 : decode cX4_worth 18 = .ok (.iload_n 3, 1) := by decide +kernel
theorem dX4_worth_19 : decode cX4_worth 19 = .ok (.iaload, 1) := by decide +kernel
theorem dX4_worth_20 : decode cX4_worth 20 = .ok (.istore 4, 2) := by decide +kernel
theorem dX4_worth_22 : decode cX4_worth 22 = .ok (.iload 4, 2) := by decide +kernel
theorem dX4_worth_24 : decode cX4_worth 24 = .ok (.ifCond .lt 11, 3) := by decide +kernel
theorem dX4_worth_27 : decode cX4_worth 27 = .ok (.iload 4, 2) := by decide +kernel
theorem dX4_worth_29 : decode cX4_worth 29 = .ok (.sipush 256, 3) := by decide +kernel
theorem dX4_worth_32 : decode cX4_worth 32 = .ok (.if_icmp .lt 34, 3) := by decide +kernel
theorem dX4_worth_35 : decode cX4_worth 35 = .ok (.aload_n 0, 1) := by decide +kernel
theorem dX4_worth_36 : decode cX4_worth 36 = .ok (.iload_n 1, 1) := by decide +kernel
theorem dX4_worth_37 : decode cX4_worth 37 = .ok (.iload 4, 2) := by decide +kernel
theorem dX4_worth_39 : decode cX4_worth 39 = .ok (.ifCond .ge 14, 3) := by decide +kernel
theorem dX4_worth_42 : decode cX4_worth 42 = .ok (.aload_n 0, 1) := by decide +kernel
theorem dX4_worth_43 : decode cX4_worth 43 = .ok (.iconst (-1), 1) := by decide +kernel
theorem dX4_worth_44 : decode cX4_worth 44 = .ok (.iload 4, 2) := by decide +kernel
theorem dX4_worth_46 : decode cX4_worth 46 = .ok (.isub, 1) := by decide +kernel
theorem dX4_worth_47 : decode cX4_worth 47 = .ok (.invokevirtual 99, 3) := by decide +kernel
theorem dX4_worth_50 : decode cX4_worth 50 = .ok (.goto 9, 3) := by decide +kernel
theorem dX4_worth_53 : decode cX4_worth 53 = .ok (.iload 4, 2) := by decide +kernel
theorem dX4_worth_55 : decode cX4_worth 55 = .ok (.sipush 256, 3) := by decide +kernel
theorem dX4_worth_58 : decode cX4_worth 58 = .ok (.isub, 1) := by decide +kernel
theorem dX4_worth_59 : decode cX4_worth 59 = .ok (.invokevirtual 102, 3) := by decide +kernel
theorem dX4_worth_62 : decode cX4_worth 62 = .ok (.istore_n 1, 1) := by decide +kernel
theorem dX4_worth_63 : decode cX4_worth 63 = .ok (.goto 157, 3) := by decide +kernel
theorem dX4_worth_66 : decode cX4_worth 66 = .ok (.iload_n 1, 1) := by decide +kernel
theorem dX4_worth_67 : decode cX4_worth 67 = .ok (.iconst 1, 1) := by decide +kernel
theorem dX4_worth_68 : decode cX4_worth 68 = .ok (.if_icmp .lt 9, 3) := by decide +kernel
theorem dX4_worth_71 : decode cX4_worth 71 = .ok (.iload_n 1, 1) := by decide +kernel
theorem dX4_worth_72 : decode cX4_worth 72 = .ok (.bipush 64, 2) := by decide +kernel
theorem dX4_worth_74 : decode cX4_worth 74 = .ok (.if_icmp .le 5, 3) := by decide +kernel
theorem dX4_worth_77 : decode cX4_worth 77 = .ok (.iconst 0, 1) := by decide +kernel
theorem dX4_worth_78 : decode cX4_worth 78 = .ok (.ireturn, 1) := by decide +kernel
theorem dX4_worth_79 : decode cX4_worth 79 = .ok (.aload_n 0, 1) := by decide +kernel
theorem dX4_worth_80 : decode cX4_worth 80 = .ok (.getfield 22, 3) := by decide +kernel
theorem dX4_worth_83 : decode cX4_worth 83 = .ok (.iload_n 1, 1) := by decide +kernel
theorem dX4_worth_84 : decode cX4_worth 84 = .ok (.iconst 1, 1) := by decide +kernel
theorem dX4_worth_85 : decode cX4_worth 85 = .ok (.isub, 1) := by decide +kernel
theorem dX4_worth_86 : decode cX4_worth 86 = .ok (.iaload, 1) := by decide +kernel
theorem dX4_worth_87 : decode cX4_worth 87 = .ok (.istore 5, 2) := by decide +kernel
theorem dX4_worth_89 : decode cX4_worth 89 = .ok (.iload 4, 2) := by decide +kernel
theorem dX4_worth_91 : decode cX4_worth 91 = .ok (.bipush 59, 2) := by decide +kernel
theorem dX4_worth_93 : decode cX4_worth 93 = .ok (.if_icmp .ne 10, 3) := by decide +kernel
theorem dX4_worth_96 : decode cX4_worth 96 = .ok (.iload_n 2, 1) := by decide +kernel
theorem dX4_worth_97 : decode cX4_worth 97 = .ok (.ifCond .eq 6, 3) := by decide +kernel
theorem dX4_worth_100 : decode cX4_worth 100 = .ok (.iload 5, 2) := by decide +kernel
theorem dX4_worth_102 : decode cX4_worth 102 = .ok (.ireturn, 1) := by decide +kernel
theorem dX4_worth_103 : decode cX4_worth 103 = .ok (.iload 4, 2) := by decide +kernel
theorem dX4_worth_105 : decode cX4_worth 105 = .ok (.bipush 59, 2) := by decide +kernel
theorem dX4_worth_107 : decode cX4_worth 107 = .ok (.if_icmp .eq 10, 3) := by decide +kernel
theorem dX4_worth_110 : decode cX4_worth 110 = .ok (.iload 4, 2) := by decide +kernel
theorem dX4_worth_112 : decode cX4_worth 112 = .ok (.bipush 63, 2) := by decide +kernel
theorem dX4_worth_114 : decode cX4_worth 114 = .ok (.if_icmp .ne 27, 3) := by decide +kernel
theorem dX4_worth_117 : decode cX4_worth 117 = .ok (.iload 4, 2) := by decide +kernel
theorem dX4_worth_119 : decode cX4_worth 119 = .ok (.bipush 59, 2) := by decide +kernel
theorem dX4_worth_121 : decode cX4_worth 121 = .ok (.if_icmp .eq 8, 3) := by decide +kernel
theorem dX4_worth_124 : decode cX4_worth 124 = .ok (.iload 5, 2) := by decide +kernel
theorem dX4_worth_126 : decode cX4_worth 126 = .ok (.ifCond .eq 7, 3) := by decide +kernel
theorem dX4_worth_129 : decode cX4_worth 129 = .ok (.iconst 1, 1) := by decide +kernel
theorem dX4_worth_130 : decode cX4_worth 130 = .ok (.goto 4, 3) := by decide +kernel
theorem dX4_worth_133 : decode cX4_worth 133 = .ok (.iconst 0, 1) := by decide +kernel
theorem dX4_worth_134 : decode cX4_worth 134 = .ok (.istore_n 2, 1) := by decide +kernel
theorem dX4_worth_135 : decode cX4_worth 135 = .ok (.iinc 1 (-1), 3) := by decide +kernel
theorem dX4_worth_138 : decode cX4_worth 138 = .ok (.goto 82, 3) := by decide +kernel
theorem dX4_worth_141 : decode cX4_worth 141 = .ok (.iload 4, 2) := by decide +kernel
theorem dX4_worth_143 : decode cX4_worth 143 = .ok (.bipush 33, 2) := by decide +kernel
theorem dX4_worth_145 : decode cX4_worth 145 = .ok (.if_icmp .eq 10, 3) := by decide +kernel
theorem dX4_worth_148 : decode cX4_worth 148 = .ok (.iload 4, 2) := by decide +kernel
theorem dX4_worth_150 : decode cX4_worth 150 = .ok (.bipush 126, 2) := by decide +kernel
theorem dX4_worth_152 : decode cX4_worth 152 = .ok (.if_icmp .ne 37, 3) := by decide +kernel
theorem dX4_worth_155 : decode cX4_worth 155 = .ok (.aload_n 0, 1) := by decide +kernel
theorem dX4_worth_156 : decode cX4_worth 156 = .ok (.getfield 22, 3) := by decide +kernel
theorem dX4_worth_159 : decode cX4_worth 159 = .ok (.iload_n 1, 1) := by decide +kernel
theorem dX4_worth_160 : decode cX4_worth 160 = .ok (.iconst 1, 1) := by decide +kernel
theorem dX4_worth_161 : decode cX4_worth 161 = .ok (.isub, 1) := by decide +kernel
theorem dX4_worth_162 : decode cX4_worth 162 = .ok (.iload 4, 2) := by decide +kernel
theorem dX4_worth_164 : decode cX4_worth 164 = .ok (.bipush 126, 2) := by decide +kernel
theorem dX4_worth_166 : decode cX4_worth 166 = .ok (.if_icmp .ne 9, 3) := by decide +kernel
theorem dX4_worth_169 : decode cX4_worth 169 = .ok (.iload 5, 2) := by decide +kernel
theorem dX4_worth_171 : decode cX4_worth 171 = .ok (.ineg, 1) := by decide +kernel
theorem dX4_worth_172 : decode cX4_worth 172 = .ok (.goto 13, 3) := by decide +kernel
theorem dX4_worth_175 : decode cX4_worth 175 = .ok (.iload 5, 2) := by decide +kernel
theorem dX4_worth_177 : decode cX4_worth 177 = .ok (.ifCond .ne 7, 3) := by decide +kernel
theorem dX4_worth_180 : decode cX4_worth 180 = .ok (.iconst 1, 1) := by decide +kernel
theorem dX4_worth_181 : decode cX4_worth 181 = .ok (.goto 4, 3) := by decide +kernel
theorem dX4_worth_184 : decode cX4_worth 184 = .ok (.iconst 0, 1) := by decide +kernel
theorem dX4_worth_185 : decode cX4_worth 185 = .ok (.iastore, 1) := by decide +kernel
theorem dX4_worth_186 : decode cX4_worth 186 = .ok (.goto 34, 3) := by decide +kernel
theorem dX4_worth_189 : decode cX4_worth 189 = .ok (.iload_n 1, 1) := by decide +kernel
theorem dX4_worth_190 : decode cX4_worth 190 = .ok (.iconst 2, 1) := by decide +kernel
theorem dX4_worth_191 : decode cX4_worth 191 = .ok (.if_icmp .lt 29, 3) := by decide +kernel
theorem dX4_worth_194 : decode cX4_worth 194 = .ok (.iinc 1 (-1), 3) := by decide +kernel
theorem dX4_worth_197 : decode cX4_worth 197 = .ok (.aload_n 0, 1) := by decide +kernel
theorem dX4_worth_198 : decode cX4_worth 198 = .ok (.getfield 22, 3) := by decide +kernel
theorem dX4_worth_201 : decode cX4_worth 201 = .ok (.iload_n 1, 1) := by decide +kernel
theorem dX4_worth_202 : decode cX4_worth 202 = .ok (.iconst 1, 1) := by decide +kernel
theorem dX4_worth_203 : decode cX4_worth 203 = .ok (.isub, 1) := by decide +kernel
theorem dX4_worth_204 : decode cX4_worth 204 = .ok (.iload 4, 2) := by decide +kernel
theorem dX4_worth_206 : decode cX4_worth 206 = .ok (.aload_n 0, 1) := by decide +kernel
theorem dX4_worth_207 : decode cX4_worth 207 = .ok (.getfield 22, 3) := by decide +kernel
theorem dX4_worth_210 : decode cX4_worth 210 = .ok (.iload_n 1, 1) := by decide +kernel
theorem dX4_worth_211 : decode cX4_worth 211 = .ok (.iconst 1, 1) := by decide +kernel
theorem dX4_worth_212 : decode cX4_worth 212 = .ok (.isub, 1) := by decide +kernel
theorem dX4_worth_213 : decode cX4_worth 213 = .ok (.iaload, 1) := by decide +kernel
theorem dX4_worth_214 : decode cX4_worth 214 = .ok (.iload 5, 2) := by decide +kernel
theorem dX4_worth_216 : decode cX4_worth 216 = .ok (.invokestatic 105, 3) := by decide +kernel
theorem dX4_worth_219 : decode cX4_worth 219 = .ok (.iastore, 1) := by decide +kernel
theorem dX4_worth_220 : decode cX4_worth 220 = .ok (.iinc 3 1, 3) := by decide +kernel
theorem dX4_worth_223 : decode cX4_worth 223 = .ok (.goto (-217), 3) := by decide +kernel
theorem dX4_worth_226 : decode cX4_worth 226 = .ok (.iconst 0, 1) := by decide +kernel
theorem dX4_worth_227 : decode cX4_worth 227 = .ok (.ireturn, 1) := by decide +kernel
theorem dX4_lay_0 : decode cX4_lay 0 = .ok (.iload_n 1, 1) := by decide +kernel
theorem dX4_lay_1 : decode cX4_lay 1 = .ok (.ifCond .lt 9, 3) := by decide +kernel
theorem dX4_lay_4 : decode cX4_lay 4 = .ok (.iload_n 1, 1) := by decide +kernel
theorem dX4_lay_5 : decode cX4_lay 5 = .ok (.bipush 64, 2) := by decide +kernel
theorem dX4_lay_7 : decode cX4_lay 7 = .ok (.if_icmp .lt 5, 3) := by decide +kernel
theorem dX4_lay_10 : decode cX4_lay 10 = .ok (.iload_n 1, 1) := by decide +kernel
theorem dX4_lay_11 : decode cX4_lay 11 = .ok (.ireturn, 1) := by decide +kernel
theorem dX4_lay_12 : decode cX4_lay 12 = .ok (.aload_n 0, 1) := by decide +kernel
theorem dX4_lay_13 : decode cX4_lay 13 = .ok (.getfield 22, 3) := by decide +kernel
theorem dX4_lay_16 : decode cX4_lay 16 = .ok (.iload_n 1, 1) := by decide +kernel
theorem dX4_lay_17 : decode cX4_lay 17 = .ok (.iload_n 2, 1) := by decide +kernel
theorem dX4_lay_18 : decode cX4_lay 18 = .ok (.iastore, 1) := by decide +kernel
theorem dX4_lay_19 : decode cX4_lay 19 = .ok (.iload_n 1, 1) := by decide +kernel
theorem dX4_lay_20 : decode cX4_lay 20 = .ok (.iconst 1, 1) := by decide +kernel
theorem dX4_lay_21 : decode cX4_lay 21 = .ok (.iadd, 1) := by decide +kernel
theorem dX4_lay_22 : decode cX4_lay 22 = .ok (.ireturn, 1) := by decide +kernel
theorem dX4_valueNamed_0 : decode cX4_valueNamed 0 = .ok (.iload_n 1, 1) := by decide +kernel
theorem dX4_valueNamed_1 : decode cX4_valueNamed 1 = .ok (.ifCond .lt 21, 3) := by decide +kernel
theorem dX4_valueNamed_4 : decode cX4_valueNamed 4 = .ok (.iload_n 1, 1) := by decide +kernel
theorem dX4_valueNamed_5 : decode cX4_valueNamed 5 = .ok (.aload_n 0, 1) := by decide +kernel
theorem dX4_valueNamed_6 : decode cX4_valueNamed 6 = .ok (.getfield 25, 3) := by decide +kernel
theorem dX4_valueNamed_9 : decode cX4_valueNamed 9 = .ok (.arraylength, 1) := by decide +kernel
theorem dX4_valueNamed_10 : decode cX4_valueNamed 10 = .ok (.if_icmp .ge 12, 3) := by decide +kernel
theorem dX4_valueNamed_13 : decode cX4_valueNamed 13 = .ok (.aload_n 0, 1) := by decide +kernel
theorem dX4_valueNamed_14 : decode cX4_valueNamed 14 = .ok (.getfield 25, 3) := by decide +kernel
theorem dX4_valueNamed_17 : decode cX4_valueNamed 17 = .ok (.iload_n 1, 1) := by decide +kernel
theorem dX4_valueNamed_18 : decode cX4_valueNamed 18 = .ok (.iaload, 1) := by decide +kernel
theorem dX4_valueNamed_19 : decode cX4_valueNamed 19 = .ok (.goto 4, 3) := by decide +kernel
theorem dX4_valueNamed_22 : decode cX4_valueNamed 22 = .ok (.iconst 0, 1) := by decide +kernel
theorem dX4_valueNamed_23 : decode cX4_valueNamed 23 = .ok (.ireturn, 1) := by decide +kernel
theorem dX4_joined_0 : decode cX4_joined 0 = .ok (.iload_n 0, 1) := by decide +kernel
theorem dX4_joined_1 : decode cX4_joined 1 = .ok (.lookupswitch 188 #[(37, 176), (38, 105), (42, 160), (43, 152), (45, 156), (47, 164), (60, 119), (61, 130), (62, 141), (124, 91)], 91) := by decide +kernel
theorem dX4_joined_92 : decode cX4_joined 92 = .ok (.iload_n 1, 1) := by decide +kernel
theorem dX4_joined_93 : decode cX4_joined 93 = .ok (.ifCond .ne 7, 3) := by decide +kernel
theorem dX4_joined_96 : decode cX4_joined 96 = .ok (.iload_n 2, 1) := by decide +kernel
theorem dX4_joined_97 : decode cX4_joined 97 = .ok (.ifCond .eq 7, 3) := by decide +kernel
theorem dX4_joined_100 : decode cX4_joined 100 = .ok (.iconst 1, 1) := by decide +kernel
theorem dX4_joined_101 : decode cX4_joined 101 = .ok (.goto 4, 3) := by decide +kernel
theorem dX4_joined_104 : decode cX4_joined 104 = .ok (.iconst 0, 1) := by decide +kernel
theorem dX4_joined_105 : decode cX4_joined 105 = .ok (.ireturn, 1) := by decide +kernel
theorem dX4_joined_106 : decode cX4_joined 106 = .ok (.iload_n 1, 1) := by decide +kernel
theorem dX4_joined_107 : decode cX4_joined 107 = .ok (.ifCond .eq 11, 3) := by decide +kernel
theorem dX4_joined_110 : decode cX4_joined 110 = .ok (.iload_n 2, 1) := by decide +kernel
theorem dX4_joined_111 : decode cX4_joined 111 = .ok (.ifCond .eq 7, 3) := by decide +kernel
theorem dX4_joined_114 : decode cX4_joined 114 = .ok (.iconst 1, 1) := by decide +kernel
theorem dX4_joined_115 : decode cX4_joined 115 = .ok (.goto 4, 3) := by decide +kernel
theorem dX4_joined_118 : decode cX4_joined 118 = .ok (.iconst 0, 1) := by decide +kernel
theorem dX4_joined_119 : decode cX4_joined 119 = .ok (.ireturn, 1) := by decide +kernel
theorem dX4_joined_120 : decode cX4_joined 120 = .ok (.iload_n 1, 1) := by decide +kernel
theorem dX4_joined_121 : decode cX4_joined 121 = .ok (.iload_n 2, 1) := by decide +kernel
theorem dX4_joined_122 : decode cX4_joined 122 = .ok (.if_icmp .ge 7, 3) := by decide +kernel
theorem dX4_joined_125 : decode cX4_joined 125 = .ok (.iconst 1, 1) := by decide +kernel
theorem dX4_joined_126 : decode cX4_joined 126 = .ok (.goto 4, 3) := by decide +kernel
theorem dX4_joined_129 : decode cX4_joined 129 = .ok (.iconst 0, 1) := by decide +kernel
theorem dX4_joined_130 : decode cX4_joined 130 = .ok (.ireturn, 1) := by decide +kernel
theorem dX4_joined_131 : decode cX4_joined 131 = .ok (.iload_n 1, 1) := by decide +kernel
theorem dX4_joined_132 : decode cX4_joined 132 = .ok (.iload_n 2, 1) := by decide +kernel
theorem dX4_joined_133 : decode cX4_joined 133 = .ok (.if_icmp .ne 7, 3) := by decide +kernel
theorem dX4_joined_136 : decode cX4_joined 136 = .ok (.iconst 1, 1) := by decide +kernel
theorem dX4_joined_137 : decode cX4_joined 137 = .ok (.goto 4, 3) := by decide +kernel
theorem dX4_joined_140 : decode cX4_joined 140 = .ok (.iconst 0, 1) := by decide +kernel
theorem dX4_joined_141 : decode cX4_joined 141 = .ok (.ireturn, 1) := by decide +kernel
theorem dX4_joined_142 : decode cX4_joined 142 = .ok (.iload_n 1, 1) := by decide +kernel
theorem dX4_joined_143 : decode cX4_joined 143 = .ok (.iload_n 2, 1) := by decide +kernel
theorem dX4_joined_144 : decode cX4_joined 144 = .ok (.if_icmp .le 7, 3) := by decide +kernel
theorem dX4_joined_147 : decode cX4_joined 147 = .ok (.iconst 1, 1) := by decide +kernel
theorem dX4_joined_148 : decode cX4_joined 148 = .ok (.goto 4, 3) := by decide +kernel
theorem dX4_joined_151 : decode cX4_joined 151 = .ok (.iconst 0, 1) := by decide +kernel
theorem dX4_joined_152 : decode cX4_joined 152 = .ok (.ireturn, 1) := by decide +kernel
theorem dX4_joined_153 : decode cX4_joined 153 = .ok (.iload_n 1, 1) := by decide +kernel
theorem dX4_joined_154 : decode cX4_joined 154 = .ok (.iload_n 2, 1) := by decide +kernel
theorem dX4_joined_155 : decode cX4_joined 155 = .ok (.iadd, 1) := by decide +kernel
theorem dX4_joined_156 : decode cX4_joined 156 = .ok (.ireturn, 1) := by decide +kernel
theorem dX4_joined_157 : decode cX4_joined 157 = .ok (.iload_n 1, 1) := by decide +kernel
theorem dX4_joined_158 : decode cX4_joined 158 = .ok (.iload_n 2, 1) := by decide +kernel
theorem dX4_joined_159 : decode cX4_joined 159 = .ok (.isub, 1) := by decide +kernel
theorem dX4_joined_160 : decode cX4_joined 160 = .ok (.ireturn, 1) := by decide +kernel
theorem dX4_joined_161 : decode cX4_joined 161 = .ok (.iload_n 1, 1) := by decide +kernel
theorem dX4_joined_162 : decode cX4_joined 162 = .ok (.iload_n 2, 1) := by decide +kernel
theorem dX4_joined_163 : decode cX4_joined 163 = .ok (.imul, 1) := by decide +kernel
theorem dX4_joined_164 : decode cX4_joined 164 = .ok (.ireturn, 1) := by decide +kernel
theorem dX4_joined_165 : decode cX4_joined 165 = .ok (.iload_n 2, 1) := by decide +kernel
theorem dX4_joined_166 : decode cX4_joined 166 = .ok (.ifCond .ne 7, 3) := by decide +kernel
theorem dX4_joined_169 : decode cX4_joined 169 = .ok (.iconst 0, 1) := by decide +kernel
theorem dX4_joined_170 : decode cX4_joined 170 = .ok (.goto 6, 3) := by decide +kernel
theorem dX4_joined_173 : decode cX4_joined 173 = .ok (.iload_n 1, 1) := by decide +kernel
theorem dX4_joined_174 : decode cX4_joined 174 = .ok (.iload_n 2, 1) := by decide +kernel
theorem dX4_joined_175 : decode cX4_joined 175 = .ok (.idiv, 1) := by decide +kernel
theorem dX4_joined_176 : decode cX4_joined 176 = .ok (.ireturn, 1) := by decide +kernel
theorem dX4_joined_177 : decode cX4_joined 177 = .ok (.iload_n 2, 1) := by decide +kernel
theorem dX4_joined_178 : decode cX4_joined 178 = .ok (.ifCond .ne 7, 3) := by decide +kernel
theorem dX4_joined_181 : decode cX4_joined 181 = .ok (.iconst 0, 1) := by decide +kernel
theorem dX4_joined_182 : decode cX4_joined 182 = .ok (.goto 6, 3) := by decide +kernel
theorem dX4_joined_185 : decode cX4_joined 185 = .ok (.iload_n 1, 1) := by decide +kernel
theorem dX4_joined_186 : decode cX4_joined 186 = .ok (.iload_n 2, 1) := by decide +kernel
theorem dX4_joined_187 : decode cX4_joined 187 = .ok (.irem, 1) := by decide +kernel
theorem dX4_joined_188 : decode cX4_joined 188 = .ok (.ireturn, 1) := by decide +kernel
theorem dX4_joined_189 : decode cX4_joined 189 = .ok (.iconst 0, 1) := by decide +kernel
theorem dX4_joined_190 : decode cX4_joined 190 = .ok (.ireturn, 1) := by decide +kernel
theorem dX5_init_0 : decode cX5_init 0 = .ok (.aload_n 0, 1) := by decide +kernel
theorem dX5_init_1 : decode cX5_init 1 = .ok (.invokespecial 3, 3) := by decide +kernel
theorem dX5_init_4 : decode cX5_init 4 = .ok (.aload_n 0, 1) := by decide +kernel
theorem dX5_init_5 : decode cX5_init 5 = .ok (.bipush 9, 2) := by decide +kernel
theorem dX5_init_7 : decode cX5_init 7 = .ok (.newarray .int, 2) := by decide +kernel
theorem dX5_init_9 : decode cX5_init 9 = .ok (.putfield 9, 3) := by decide +kernel
theorem dX5_init_12 : decode cX5_init 12 = .ok (.aload_n 0, 1) := by decide +kernel
theorem dX5_init_13 : decode cX5_init 13 = .ok (.bipush 9, 2) := by decide +kernel
theorem dX5_init_15 : decode cX5_init 15 = .ok (.newarray .int, 2) := by decide +kernel
theorem dX5_init_17 : decode cX5_init 17 = .ok (.putfield 15, 3) := by decide +kernel
theorem dX5_init_20 : decode cX5_init 20 = .ok (.aload_n 0, 1) := by decide +kernel
theorem dX5_init_21 : decode cX5_init 21 = .ok (.bipush 9, 2) := by decide +kernel
theorem dX5_init_23 : decode cX5_init 23 = .ok (.newarray .int, 2) := by decide +kernel
theorem dX5_init_25 : decode cX5_init 25 = .ok (.putfield 18, 3) := by decide +kernel
theorem dX5_init_28 : decode cX5_init 28 = .ok (.aload_n 0, 1) := by decide +kernel
theorem dX5_init_29 : decode cX5_init 29 = .ok (.bipush 9, 2) := by decide +kernel
theorem dX5_init_31 : decode cX5_init 31 = .ok (.newarray .int, 2) := by decide +kernel
theorem dX5_init_33 : decode cX5_init 33 = .ok (.putfield 21, 3) := by decide +kernel
theorem dX5_init_36 : decode cX5_init 36 = .ok (.aload_n 0, 1) := by decide +kernel
theorem dX5_init_37 : decode cX5_init 37 = .ok (.aload_n 1, 1) := by decide +kernel
theorem dX5_init_38 : decode cX5_init 38 = .ok (.putfield 24, 3) := by decide +kernel
theorem dX5_init_41 : decode cX5_init 41 = .ok (.aload_n 0, 1) := by decide +kernel
theorem dX5_init_42 : decode cX5_init 42 = .ok (.aload_n 2, 1) := by decide +kernel
theorem dX5_init_43 : decode cX5_init 43 = .ok (.putfield 28, 3) := by decide +kernel
theorem dX5_init_46 : decode cX5_init 46 = .ok (.aload_n 0, 1) := by decide +kernel
theorem dX5_init_47 : decode cX5_init 47 = .ok (.iload_n 3, 1) := by decide +kernel
theorem dX5_init_48 : decode cX5_init 48 = .ok (.putfield 32, 3) := by decide +kernel
theorem dX5_init_51 : decode cX5_init 51 = .ok (.return_, 1) := by decide +kernel
theorem dX5_form_0 : decode cX5_form 0 = .ok (.aload_n 0, 1) := by decide +kernel
theorem dX5_form_1 : decode cX5_form 1 = .ok (.iconst 0, 1) := by decide +kernel
theorem dX5_form_2 : decode cX5_form 2 = .ok (.putfield 36, 3) := by decide +kernel
theorem dX5_form_5 : decode cX5_form 5 = .ok (.iconst 0, 1) := by decide +kernel
theorem dX5_form_6 : decode cX5_form 6 = .ok (.istore_n 1, 1) := by decide +kernel
theorem dX5_form_7 : decode cX5_form 7 = .ok (.iload_n 1, 1) := by decide +kernel
theorem dX5_form_8 : decode cX5_form 8 = .ok (.bipush 9, 2) := by decide +kernel
theorem dX5_form_10 : decode cX5_form 10 = .ok (.if_icmp .ge 56, 3) := by decide +kernel
theorem dX5_form_13 : decode cX5_form 13 = .ok (.aload_n 0, 1) := by decide +kernel
theorem dX5_form_14 : decode cX5_form 14 = .ok (.getfield 24, 3) := by decide +kernel
theorem dX5_form_17 : decode cX5_form 17 = .ok (.iload_n 1, 1) := by decide +kernel
theorem dX5_form_18 : decode cX5_form 18 = .ok (.invokevirtual 39, 3) := by decide +kernel
theorem dX5_form_21 : decode cX5_form 21 = .ok (.ifCond .eq 39, 3) := by decide +kernel
theorem dX5_form_24 : decode cX5_form 24 = .ok (.aload_n 0, 1) := by decide +kernel
theorem dX5_form_25 : decode cX5_form 25 = .ok (.getfield 24, 3) := by decide +kernel
theorem dX5_form_28 : decode cX5_form 28 = .ok (.iload_n 1, 1) := by decide +kernel
theorem dX5_form_29 : decode cX5_form 29 = .ok (.iconst 5, 1) := by decide +kernel
theorem dX5_form_30 : decode cX5_form 30 = .ok (.invokevirtual 45, 3) := by decide +kernel
theorem dX5_form_33 : decode cX5_form 33 = .ok (.aload_n 0, 1) := by decide +kernel
theorem dX5_form_34 : decode cX5_form 34 = .ok (.getfield 32, 3) := by decide +kernel
theorem dX5_form_37 : decode cX5_form 37 = .ok (.if_icmp .ne 23, 3) := by decide +kernel
theorem dX5_form_40 : decode cX5_form 40 = .ok (.aload_n 0, 1) := by decide +kernel
theorem dX5_form_41 : decode cX5_form 41 = .ok (.getfield 9, 3) := by decide +kernel
theorem dX5_form_44 : decode cX5_form 44 = .ok (.aload_n 0, 1) := by decide +kernel
theorem dX5_form_45 : decode cX5_form 45 = .ok (.getfield 36, 3) := by decide +kernel
theorem dX5_form_48 : decode cX5_form 48 = .ok (.iload_n 1, 1) := by decide +kernel
theorem dX5_form_49 : decode cX5_form 49 = .ok (.iastore, 1) := by decide +kernel
theorem dX5_form_50 : decode cX5_form 50 = .ok (.aload_n 0, 1) := by decide +kernel
theorem dX5_form_51 : decode cX5_form 51 = .ok (.dup, 1) := by decide +kernel
theorem dX5_form_52 : decode cX5_form 52 = .ok (.getfield 36, 3) := by decide +kernel
theorem dX5_form_55 : decode cX5_form 55 = .ok (.iconst 1, 1) := by decide +kernel
theorem dX5_form_56 : decode cX5_form 56 = .ok (.iadd, 1) := by decide +kernel
theorem dX5_form_57 : decode cX5_form 57 = .ok (.putfield 36, 3) := by decide +kernel
theorem dX5_form_60 : decode cX5_form 60 = .ok (.iinc 1 1, 3) := by decide +kernel
theorem dX5_form_63 : decode cX5_form 63 = .ok (.goto (-56), 3) := by decide +kernel
theorem dX5_form_66 : decode cX5_form 66 = .ok (.aload_n 0, 1) := by decide +kernel
theorem dX5_form_67 : decode cX5_form 67 = .ok (.getfield 21, 3) := by decide +kernel
theorem dX5_form_70 : decode cX5_form 70 = .ok (.iconst 0, 1) := by decide +kernel
theorem dX5_form_71 : decode cX5_form 71 = .ok (.invokestatic 49, 3) := by decide +kernel
theorem dX5_form_74 : decode cX5_form 74 = .ok (.return_, 1) := by decide +kernel
theorem dX5_swap_0 : decode cX5_swap 0 = .ok (.aload_n 0, 1) := by decide +kernel
theorem dX5_swap_1 : decode cX5_swap 1 = .ok (.iload_n 1, 1) := by decide +kernel
theorem dX5_swap_2 : decode cX5_swap 2 = .ok (.invokevirtual 55, 3) := by decide +kernel
theorem dX5_swap_5 : decode cX5_swap 5 = .ok (.istore_n 3, 1) := by decide +kernel
theorem dX5_swap_6 : decode cX5_swap 6 = .ok (.aload_n 0, 1) := by decide +kernel
theorem dX5_swap_7 : decode cX5_swap 7 = .ok (.iload_n 2, 1) := by decide +kernel
theorem dX5_swap_8 : decode cX5_swap 8 = .ok (.invokevirtual 55, 3) := by decide +kernel
theorem dX5_swap_11 : decode cX5_swap 11 = .ok (.istore 4, 2) := by decide +kernel
theorem dX5_swap_13 : decode cX5_swap 13 = .ok (.iload_n 3, 1) := by decide +kernel
theorem dX5_swap_14 : decode cX5_swap 14 = .ok (.ifCond .lt 23, 3) := by decide +kernel
theorem dX5_swap_17 : decode cX5_swap 17 = .ok (.iload 4, 2) := by decide +kernel
theorem dX5_swap_19 : decode cX5_swap 19 = .ok (.ifCond .lt 18, 3) := by decide +kernel
theorem dX5_swap_22 : decode cX5_swap 22 = .ok (.aload_n 0, 1) := by decide +kernel
theorem dX5_swap_23 : decode cX5_swap 23 = .ok (.getfield 9, 3) := by decide +kernel
theorem dX5_swap_26 : decode cX5_swap 26 = .ok (.iload_n 3, 1) := by decide +kernel
theorem dX5_swap_27 : decode cX5_swap 27 = .ok (.iload_n 2, 1) := by decide +kernel
theorem dX5_swap_28 : decode cX5_swap 28 = .ok (.iastore, 1) := by decide +kernel
theorem dX5_swap_29 : decode cX5_swap 29 = .ok (.aload_n 0, 1) := by decide +kernel
theorem dX5_swap_30 : decode cX5_swap 30 = .ok (.getfield 9, 3) := by decide +kernel
theorem dX5_swap_33 : decode cX5_swap 33 = .ok (.iload 4, 2) := by decide +kernel
theorem dX5_swap_35 : decode cX5_swap 35 = .ok (.iload_n 1, 1) := by decide +kernel
theorem dX5_swap_36 : decode cX5_swap 36 = .ok (.iastore, 1) := by decide +kernel
theorem dX5_swap_37 : decode cX5_swap 37 = .ok (.return_, 1) := by decide +kernel
theorem dX5_foresee_0 : decode cX5_foresee 0 = .ok (.iconst 0, 1) := by decide +kernel
theorem dX5_foresee_1 : decode cX5_foresee 1 = .ok (.istore_n 1, 1) := by decide +kernel
theorem dX5_foresee_2 : decode cX5_foresee 2 = .ok (.iload_n 1, 1) := by decide +kernel
theorem dX5_foresee_3 : decode cX5_foresee 3 = .ok (.aload_n 0, 1) := by decide +kernel
theorem dX5_foresee_4 : decode cX5_foresee 4 = .ok (.getfield 36, 3) := by decide +kernel
theorem dX5_foresee_7 : decode cX5_foresee 7 = .ok (.if_icmp .ge 78, 3) := by decide +kernel
theorem dX5_foresee_10 : decode cX5_foresee 10 = .ok (.aload_n 0, 1) := by decide +kernel
theorem dX5_foresee_11 : decode cX5_foresee 11 = .ok (.getfield 36, 3) := by decide +kernel
theorem dX5_foresee_14 : decode cX5_foresee 14 = .ok (.iconst 1, 1) := by decide +kernel
theorem dX5_foresee_15 : decode cX5_foresee 15 = .ok (.if_icmp .le 16, 3) := by decide +kernel
theorem dX5_foresee_18 : decode cX5_foresee 18 = .ok (.aload_n 0, 1) := by decide +kernel
theorem dX5_foresee_19 : decode cX5_foresee 19 = .ok (.getfield 9, 3) := by decide +kernel
theorem dX5_foresee_22 : decode cX5_foresee 22 = .ok (.aload_n 0, 1) := by decide +kernel
theorem dX5_foresee_23 : decode cX5_foresee 23 = .ok (.iload_n 1, 1) := by decide +kernel
theorem dX5_foresee_24 : decode cX5_foresee 24 = .ok (.invokevirtual 59, 3) := by decide +kernel
theorem dX5_foresee_27 : decode cX5_foresee 27 = .ok (.iaload, 1) := by decide +kernel
theorem dX5_foresee_28 : decode cX5_foresee 28 = .ok (.goto 5, 3) := by decide +kernel
theorem dX5_foresee_31 : decode cX5_foresee 31 = .ok (.bipush 9, 2) := by decide +kernel
theorem dX5_foresee_33 : decode cX5_foresee 33 = .ok (.istore_n 2, 1) := by decide +kernel
theorem dX5_foresee_34 : decode cX5_foresee 34 = .ok (.aload_n 0, 1) := by decide +kernel
theorem dX5_foresee_35 : decode cX5_foresee 35 = .ok (.getfield 28, 3) := by decide +kernel
theorem dX5_foresee_38 : decode cX5_foresee 38 = .ok (.aload_n 0, 1) := by decide +kernel
theorem dX5_foresee_39 : decode cX5_foresee 39 = .ok (.getfield 32, 3) := by decide +kernel
theorem dX5_foresee_42 : decode cX5_foresee 42 = .ok (.aload_n 0, 1) := by decide +kernel
theorem dX5_foresee_43 : decode cX5_foresee 43 = .ok (.getfield 9, 3) := by decide +kernel
theorem dX5_foresee_46 : decode cX5_foresee 46 = .ok (.iload_n 1, 1) := by decide +kernel
theorem dX5_foresee_47 : decode cX5_foresee 47 = .ok (.iaload, 1) := by decide +kernel
theorem dX5_foresee_48 : decode cX5_foresee 48 = .ok (.iload_n 2, 1) := by decide +kernel
theorem dX5_foresee_49 : decode cX5_foresee 49 = .ok (.aload_n 0, 1) := by decide +kernel
theorem dX5_foresee_50 : decode cX5_foresee 50 = .ok (.getfield 36, 3) := by decide +kernel
theorem dX5_foresee_53 : decode cX5_foresee 53 = .ok (.iconst 1, 1) := by decide +kernel
theorem dX5_foresee_54 : decode cX5_foresee 54 = .ok (.isub, 1) := by decide +kernel
theorem dX5_foresee_55 : decode cX5_foresee 55 = .ok (.invokevirtual 62, 3) := by decide +kernel
theorem dX5_foresee_58 : decode cX5_foresee 58 = .ok (.astore_n 3, 1) := by decide +kernel
theorem dX5_foresee_59 : decode cX5_foresee 59 = .ok (.aload_n 0, 1) := by decide +kernel
theorem dX5_foresee_60 : decode cX5_foresee 60 = .ok (.getfield 15, 3) := by decide +kernel
theorem dX5_foresee_63 : decode cX5_foresee 63 = .ok (.iload_n 1, 1) := by decide +kernel
theorem dX5_foresee_64 : decode cX5_foresee 64 = .ok (.aload_n 3, 1) := by decide +kernel
theorem dX5_foresee_65 : decode cX5_foresee 65 = .ok (.getfield 68, 3) := by decide +kernel
theorem dX5_foresee_68 : decode cX5_foresee 68 = .ok (.iastore, 1) := by decide +kernel
theorem dX5_foresee_69 : decode cX5_foresee 69 = .ok (.aload_n 0, 1) := by decide +kernel
theorem dX5_foresee_70 : decode cX5_foresee 70 = .ok (.getfield 18, 3) := by decide +kernel
theorem dX5_foresee_73 : decode cX5_foresee 73 = .ok (.iload_n 1, 1) := by decide +kernel
theorem dX5_foresee_74 : decode cX5_foresee 74 = .ok (.aload_n 3, 1) := by decide +kernel
theorem dX5_foresee_75 : decode cX5_foresee 75 = .ok (.getfield 72, 3) := by decide +kernel
theorem dX5_foresee_78 : decode cX5_foresee 78 = .ok (.iastore, 1) := by decide +kernel
theorem dX5_foresee_79 : decode cX5_foresee 79 = .ok (.iinc 1 1, 3) := by decide +kernel
theorem dX5_foresee_82 : decode cX5_foresee 82 = .ok (.goto (-80), 3) := by decide +kernel
theorem dX5_foresee_85 : decode cX5_foresee 85 = .ok (.return_, 1) := by decide +kernel
theorem dX5_foreseePairs_0 : decode cX5_foreseePairs 0 = .ok (.iconst 0, 1) := by decide +kernel
theorem dX5_foreseePairs_1 : decode cX5_foreseePairs 1 = .ok (.istore_n 3, 1) := by decide +kernel
theorem dX5_foreseePairs_2 : decode cX5_foreseePairs 2 = .ok (.iload_n 3, 1) := by decide +kernel
theorem dX5_foreseePairs_3 : decode cX5_foreseePairs 3 = .ok (.aload_n 0, 1) := by decide +kernel
theorem dX5_foreseePairs_4 : decode cX5_foreseePairs 4 = .ok (.getfield 36, 3) := by decide +kernel
theorem dX5_foreseePairs_7 : decode cX5_foreseePairs 7 = .ok (.if_icmp .ge 96, 3) := by decide +kernel
theorem dX5_foreseePairs_10 : decode cX5_foreseePairs 10 = .ok (.iload_n 3, 1) := by decide +kernel
theorem dX5_foreseePairs_11 : decode cX5_foreseePairs 11 = .ok (.iload_n 2, 1) := by decide +kernel
theorem dX5_foreseePairs_12 : decode cX5_foreseePairs 12 = .ok (.if_icmp .ge 91, 3) := by decide +kernel
theorem dX5_foreseePairs_15 : decode cX5_foreseePairs 15 = .ok (.iconst 0, 1) := by decide +kernel
theorem dX5_foreseePairs_16 : decode cX5_foreseePairs 16 = .ok (.istore 4, 2) := by decide +kernel
theorem dX5_foreseePairs_18 : decode cX5_foreseePairs 18 = .ok (.iload 4, 2) := by decide +kernel
theorem dX5_foreseePairs_20 : decode cX5_foreseePairs 20 = .ok (.aload_n 0, 1) := by decide +kernel
theorem dX5_foreseePairs_21 : decode cX5_foreseePairs 21 = .ok (.getfield 36, 3) := by decide +kernel
theorem dX5_foreseePairs_24 : decode cX5_foreseePairs 24 = .ok (.if_icmp .ge 73, 3) := by decide +kernel
theorem dX5_foreseePairs_27 : decode cX5_foreseePairs 27 = .ok (.iload 4, 2) := by decide +kernel
theorem dX5_foreseePairs_29 : decode cX5_foreseePairs 29 = .ok (.iload_n 2, 1) := by decide +kernel
theorem dX5_foreseePairs_30 : decode cX5_foreseePairs 30 = .ok (.if_icmp .ge 67, 3) := by decide +kernel
theorem dX5_foreseePairs_33 : decode cX5_foreseePairs 33 = .ok (.iload_n 3, 1) := by decide +kernel
theorem dX5_foreseePairs_34 : decode cX5_foreseePairs 34 = .ok (.iload_n 2, 1) := by decide +kernel
theorem dX5_foreseePairs_35 : decode cX5_foreseePairs 35 = .ok (.imul, 1) := by decide +kernel
theorem dX5_foreseePairs_36 : decode cX5_foreseePairs 36 = .ok (.iload 4, 2) := by decide +kernel
theorem dX5_foreseePairs_38 : decode cX5_foreseePairs 38 = .ok (.iadd, 1) := by decide +kernel
theorem dX5_foreseePairs_39 : decode cX5_foreseePairs 39 = .ok (.istore 5, 2) := by decide +kernel
theorem dX5_foreseePairs_41 : decode cX5_foreseePairs 41 = .ok (.iload_n 3, 1) := by decide +kernel
theorem dX5_foreseePairs_42 : decode cX5_foreseePairs 42 = .ok (.iload 4, 2) := by decide +kernel
theorem dX5_foreseePairs_44 : decode cX5_foreseePairs 44 = .ok (.if_icmp .eq 47, 3) := by decide +kernel
theorem dX5_foreseePairs_47 : decode cX5_foreseePairs 47 = .ok (.iload 5, 2) := by decide +kernel
theorem dX5_foreseePairs_49 : decode cX5_foreseePairs 49 = .ok (.aload_n 1, 1) := by decide +kernel
theorem dX5_foreseePairs_50 : decode cX5_foreseePairs 50 = .ok (.arraylength, 1) := by decide +kernel
theorem dX5_foreseePairs_51 : decode cX5_foreseePairs 51 = .ok (.if_icmp .ge 40, 3) := by decide +kernel
theorem dX5_foreseePairs_54 : decode cX5_foreseePairs 54 = .ok (.aload_n 1, 1) := by decide +kernel
theorem dX5_foreseePairs_55 : decode cX5_foreseePairs 55 = .ok (.iload 5, 2) := by decide +kernel
theorem dX5_foreseePairs_57 : decode cX5_foreseePairs 57 = .ok (.aload_n 0, 1) := by decide +kernel
theorem dX5_foreseePairs_58 : decode cX5_foreseePairs 58 = .ok (.getfield 28, 3) := by decide +kernel
theorem dX5_foreseePairs_61 : decode cX5_foreseePairs 61 = .ok (.aload_n 0, 1) := by decide +kernel
theorem dX5_foreseePairs_62 : decode cX5_foreseePairs 62 = .ok (.getfield 32, 3) := by decide +kernel
theorem dX5_foreseePairs_65 : decode cX5_foreseePairs 65 = .ok (.aload_n 0, 1) := by decide +kernel
theorem dX5_foreseePairs_66 : decode cX5_foreseePairs 66 = .ok (.getfield 9, 3) := by decide +kernel
theorem dX5_foreseePairs_69 : decode cX5_foreseePairs 69 = .ok (.iload_n 3, 1) := by decide +kernel
theorem dX5_foreseePairs_70 : decode cX5_foreseePairs 70 = .ok (.iaload, 1) := by decide +kernel
theorem dX5_foreseePairs_71 : decode cX5_foreseePairs 71 = .ok (.aload_n 0, 1) := by decide +kernel
theorem dX5_foreseePairs_72 : decode cX5_foreseePairs 72 = .ok (.getfield 9, 3) := by decide +kernel
theorem dX5_foreseePairs_75 : decode cX5_foreseePairs 75 = .ok (.iload 4, 2) := by decide +kernel
theorem dX5_foreseePairs_77 : decode cX5_foreseePairs 77 = .ok (.iaload, 1) := by decide +kernel
theorem dX5_foreseePairs_78 : decode cX5_foreseePairs 78 = .ok (.aload_n 0, 1) := by decide +kernel
theorem dX5_foreseePairs_79 : decode cX5_foreseePairs 79 = .ok (.getfield 36, 3) := by decide +kernel
theorem dX5_foreseePairs_82 : decode cX5_foreseePairs 82 = .ok (.iconst 1, 1) := by decide +kernel
theorem dX5_foreseePairs_83 : decode cX5_foreseePairs 83 = .ok (.isub, 1) := by decide +kernel
theorem dX5_foreseePairs_84 : decode cX5_foreseePairs 84 = .ok (.invokevirtual 62, 3) := by decide +kernel
theorem dX5_foreseePairs_87 : decode cX5_foreseePairs 87 = .ok (.getfield 68, 3) := by decide +kernel
theorem dX5_foreseePairs_90 : decode cX5_foreseePairs 90 = .ok (.iastore, 1) := by decide +kernel
theorem dX5_foreseePairs_91 : decode cX5_foreseePairs 91 = .ok (.iinc 4 1, 3) := by decide +kernel
theorem dX5_foreseePairs_94 : decode cX5_foreseePairs 94 = .ok (.goto (-76), 3) := by decide +kernel
theorem dX5_foreseePairs_97 : decode cX5_foreseePairs 97 = .ok (.iinc 3 1, 3) := by decide +kernel
theorem dX5_foreseePairs_100 : decode cX5_foreseePairs 100 = .ok (.goto (-98), 3) := by decide +kernel
theorem dX5_foreseePairs_103 : decode cX5_foreseePairs 103 = .ok (.return_, 1) := by decide +kernel
theorem dX5_placeOf_0 : decode cX5_placeOf 0 = .ok (.iconst 0, 1) := by decide +kernel
theorem dX5_placeOf_1 : decode cX5_placeOf 1 = .ok (.istore_n 2, 1) := by decide +kernel
theorem dX5_placeOf_2 : decode cX5_placeOf 2 = .ok (.iload_n 2, 1) := by decide +kernel
theorem dX5_placeOf_3 : decode cX5_placeOf 3 = .ok (.aload_n 0, 1) := by decide +kernel
theorem dX5_placeOf_4 : decode cX5_placeOf 4 = .ok (.getfield 36, 3) := by decide +kernel
theorem dX5_placeOf_7 : decode cX5_placeOf 7 = .ok (.if_icmp .ge 21, 3) := by decide +kernel
theorem dX5_placeOf_10 : decode cX5_placeOf 10 = .ok (.aload_n 0, 1) := by decide +kernel
theorem dX5_placeOf_11 : decode cX5_placeOf 11 = .ok (.getfield 9, 3) := by decide +kernel
theorem dX5_placeOf_14 : decode cX5_placeOf 14 = .ok (.iload_n 2, 1) := by decide +kernel
theorem dX5_placeOf_15 : decode cX5_placeOf 15 = .ok (.iaload, 1) := by decide +kernel
theorem dX5_placeOf_16 : decode cX5_placeOf 16 = .ok (.iload_n 1, 1) := by decide +kernel
theorem dX5_placeOf_17 : decode cX5_placeOf 17 = .ok (.if_icmp .ne 5, 3) := by decide +kernel
theorem dX5_placeOf_20 : decode cX5_placeOf 20 = .ok (.iload_n 2, 1) := by decide +kernel
theorem dX5_placeOf_21 : decode cX5_placeOf 21 = .ok (.ireturn, 1) := by decide +kernel
theorem dX5_placeOf_22 : decode cX5_placeOf 22 = .ok (.iinc 2 1, 3) := by decide +kernel
theorem dX5_placeOf_25 : decode cX5_placeOf 25 = .ok (.goto (-23), 3) := by decide +kernel
theorem dX5_placeOf_28 : decode cX5_placeOf 28 = .ok (.iconst (-1), 1) := by decide +kernel
theorem dX5_placeOf_29 : decode cX5_placeOf 29 = .ok (.ireturn, 1) := by decide +kernel
theorem dX5_behind_0 : decode cX5_behind 0 = .ok (.iload_n 1, 1) := by decide +kernel
theorem dX5_behind_1 : decode cX5_behind 1 = .ok (.iconst 1, 1) := by decide +kernel
theorem dX5_behind_2 : decode cX5_behind 2 = .ok (.iadd, 1) := by decide +kernel
theorem dX5_behind_3 : decode cX5_behind 3 = .ok (.aload_n 0, 1) := by decide +kernel
theorem dX5_behind_4 : decode cX5_behind 4 = .ok (.getfield 36, 3) := by decide +kernel
theorem dX5_behind_7 : decode cX5_behind 7 = .ok (.if_icmp .ge 9, 3) := by decide +kernel
theorem dX5_behind_10 : decode cX5_behind 10 = .ok (.iload_n 1, 1) := by decide +kernel
theorem dX5_behind_11 : decode cX5_behind 11 = .ok (.iconst 1, 1) := by decide +kernel
theorem dX5_behind_12 : decode cX5_behind 12 = .ok (.iadd, 1) := by decide +kernel
theorem dX5_behind_13 : decode cX5_behind 13 = .ok (.goto 4, 3) := by decide +kernel
theorem dX5_behind_16 : decode cX5_behind 16 = .ok (.iconst 0, 1) := by decide +kernel
theorem dX5_behind_17 : decode cX5_behind 17 = .ok (.ireturn, 1) := by decide +kernel
theorem dX5_childAt_0 : decode cX5_childAt 0 = .ok (.iload_n 1, 1) := by decide +kernel
theorem dX5_childAt_1 : decode cX5_childAt 1 = .ok (.ifCond .lt 20, 3) := by decide +kernel
theorem dX5_childAt_4 : decode cX5_childAt 4 = .ok (.iload_n 1, 1) := by decide +kernel
theorem dX5_childAt_5 : decode cX5_childAt 5 = .ok (.aload_n 0, 1) := by decide +kernel
theorem dX5_childAt_6 : decode cX5_childAt 6 = .ok (.getfield 36, 3) := by decide +kernel
theorem dX5_childAt_9 : decode cX5_childAt 9 = .ok (.if_icmp .ge 12, 3) := by decide +kernel
theorem dX5_childAt_12 : decode cX5_childAt 12 = .ok (.aload_n 0, 1) := by decide +kernel
theorem dX5_childAt_13 : decode cX5_childAt 13 = .ok (.getfield 9, 3) := by decide +kernel
theorem dX5_childAt_16 : decode cX5_childAt 16 = .ok (.iload_n 1, 1) := by decide +kernel
theorem dX5_childAt_17 : decode cX5_childAt 17 = .ok (.iaload, 1) := by decide +kernel
theorem dX5_childAt_18 : decode cX5_childAt 18 = .ok (.goto 4, 3) := by decide +kernel
theorem dX5_childAt_21 : decode cX5_childAt 21 = .ok (.iconst (-1), 1) := by decide +kernel
theorem dX5_childAt_22 : decode cX5_childAt 22 = .ok (.ireturn, 1) := by decide +kernel
theorem dX5_oftenOf_0 : decode cX5_oftenOf 0 = .ok (.aload_n 0, 1) := by decide +kernel
theorem dX5_oftenOf_1 : decode cX5_oftenOf 1 = .ok (.iload_n 1, 1) := by decide +kernel
theorem dX5_oftenOf_2 : decode cX5_oftenOf 2 = .ok (.invokevirtual 55, 3) := by decide +kernel
theorem dX5_oftenOf_5 : decode cX5_oftenOf 5 = .ok (.istore_n 2, 1) := by decide +kernel
theorem dX5_oftenOf_6 : decode cX5_oftenOf 6 = .ok (.iload_n 2, 1) := by decide +kernel
theorem dX5_oftenOf_7 : decode cX5_oftenOf 7 = .ok (.ifCond .ge 7, 3) := by decide +kernel
theorem dX5_oftenOf_10 : decode cX5_oftenOf 10 = .ok (.iconst 0, 1) := by decide +kernel
theorem dX5_oftenOf_11 : decode cX5_oftenOf 11 = .ok (.goto 9, 3) := by decide +kernel
theorem dX5_oftenOf_14 : decode cX5_oftenOf 14 = .ok (.aload_n 0, 1) := by decide +kernel
theorem dX5_oftenOf_15 : decode cX5_oftenOf 15 = .ok (.getfield 21, 3) := by decide +kernel
theorem dX5_oftenOf_18 : decode cX5_oftenOf 18 = .ok (.iload_n 2, 1) := by decide +kernel
theorem dX5_oftenOf_19 : decode cX5_oftenOf 19 = .ok (.iaload, 1) := by decide +kernel
theorem dX5_oftenOf_20 : decode cX5_oftenOf 20 = .ok (.ireturn, 1) := by decide +kernel
theorem dX5_roundsOf_0 : decode cX5_roundsOf 0 = .ok (.aload_n 0, 1) := by decide +kernel
theorem dX5_roundsOf_1 : decode cX5_roundsOf 1 = .ok (.iload_n 1, 1) := by decide +kernel
theorem dX5_roundsOf_2 : decode cX5_roundsOf 2 = .ok (.invokevirtual 55, 3) := by decide +kernel
theorem dX5_roundsOf_5 : decode cX5_roundsOf 5 = .ok (.istore_n 2, 1) := by decide +kernel
theorem dX5_roundsOf_6 : decode cX5_roundsOf 6 = .ok (.iload_n 2, 1) := by decide +kernel
theorem dX5_roundsOf_7 : decode cX5_roundsOf 7 = .ok (.ifCond .ge 7, 3) := by decide +kernel
theorem dX5_roundsOf_10 : decode cX5_roundsOf 10 = .ok (.iconst 0, 1) := by decide +kernel
theorem dX5_roundsOf_11 : decode cX5_roundsOf 11 = .ok (.goto 9, 3) := by decide +kernel
theorem dX5_roundsOf_14 : decode cX5_roundsOf 14 = .ok (.aload_n 0, 1) := by decide +kernel
theorem dX5_roundsOf_15 : decode cX5_roundsOf 15 = .ok (.getfield 18, 3) := by decide +kernel
theorem dX5_roundsOf_18 : decode cX5_roundsOf 18 = .ok (.iload_n 2, 1) := by decide +kernel
theorem dX5_roundsOf_19 : decode cX5_roundsOf 19 = .ok (.iaload, 1) := by decide +kernel
theorem dX5_roundsOf_20 : decode cX5_roundsOf 20 = .ok (.ireturn, 1) := by decide +kernel
theorem dX5_beginOf_0 : decode cX5_beginOf 0 = .ok (.iconst 0, 1) := by decide +kernel
theorem dX5_beginOf_1 : decode cX5_beginOf 1 = .ok (.istore_n 3, 1) := by decide +kernel
theorem dX5_beginOf_2 : decode cX5_beginOf 2 = .ok (.iconst 0, 1) := by decide +kernel
theorem dX5_beginOf_3 : decode cX5_beginOf 3 = .ok (.istore 4, 2) := by decide +kernel
theorem dX5_beginOf_5 : decode cX5_beginOf 5 = .ok (.iload 4, 2) := by decide +kernel
theorem dX5_beginOf_7 : decode cX5_beginOf 7 = .ok (.aload_n 0, 1) := by decide +kernel
theorem dX5_beginOf_8 : decode cX5_beginOf 8 = .ok (.getfield 36, 3) := by decide +kernel
theorem dX5_beginOf_11 : decode cX5_beginOf 11 = .ok (.if_icmp .ge 48, 3) := by decide +kernel
theorem dX5_beginOf_14 : decode cX5_beginOf 14 = .ok (.iload_n 3, 1) := by decide +kernel
theorem dX5_beginOf_15 : decode cX5_beginOf 15 = .ok (.aload_n 0, 1) := by decide +kernel
theorem dX5_beginOf_16 : decode cX5_beginOf 16 = .ok (.getfield 15, 3) := by decide +kernel
theorem dX5_beginOf_19 : decode cX5_beginOf 19 = .ok (.iload 4, 2) := by decide +kernel
theorem dX5_beginOf_21 : decode cX5_beginOf 21 = .ok (.iaload, 1) := by decide +kernel
theorem dX5_beginOf_22 : decode cX5_beginOf 22 = .ok (.iadd, 1) := by decide +kernel
theorem dX5_beginOf_23 : decode cX5_beginOf 23 = .ok (.iload_n 2, 1) := by decide +kernel
theorem dX5_beginOf_24 : decode cX5_beginOf 24 = .ok (.if_icmp .le 6, 3) := by decide +kernel
theorem dX5_beginOf_27 : decode cX5_beginOf 27 = .ok (.bipush (-2), 2) := by decide +kernel
theorem dX5_beginOf_29 : decode cX5_beginOf 29 = .ok (.ireturn, 1) := by decide +kernel
theorem dX5_beginOf_30 : decode cX5_beginOf 30 = .ok (.aload_n 0, 1) := by decide +kernel
theorem dX5_beginOf_31 : decode cX5_beginOf 31 = .ok (.getfield 9, 3) := by decide +kernel
theorem dX5_beginOf_34 : decode cX5_beginOf 34 = .ok (.iload 4, 2) := by decide +kernel
theorem dX5_beginOf_36 : decode cX5_beginOf 36 = .ok (.iaload, 1) := by decide +kernel
theorem dX5_beginOf_37 : decode cX5_beginOf 37 = .ok (.iload_n 1, 1) := by decide +kernel
theorem dX5_beginOf_38 : decode cX5_beginOf 38 = .ok (.if_icmp .ne 5, 3) := by decide +kernel
theorem dX5_beginOf_41 : decode cX5_beginOf 41 = .ok (.iload_n 3, 1) := by decide +kernel
theorem dX5_beginOf_42 : decode cX5_beginOf 42 = .ok (.ireturn, 1) := by decide +kernel
theorem dX5_beginOf_43 : decode cX5_beginOf 43 = .ok (.iload_n 3, 1) := by decide +kernel
theorem dX5_beginOf_44 : decode cX5_beginOf 44 = .ok (.aload_n 0, 1) := by decide +kernel
theorem dX5_beginOf_45 : decode cX5_beginOf 45 = .ok (.getfield 15, 3) := by decide +kernel
theorem dX5_beginOf_48 : decode cX5_beginOf 48 = .ok (.iload 4, 2) := by decide +kernel
theorem dX5_beginOf_50 : decode cX5_beginOf 50 = .ok (.iaload, 1) := by decide +kernel
theorem dX5_beginOf_51 : decode cX5_beginOf 51 = .ok (.iadd, 1) := by decide +kernel
theorem dX5_beginOf_52 : decode cX5_beginOf 52 = .ok (.istore_n 3, 1) := by decide +kernel
theorem dX5_beginOf_53 : decode cX5_beginOf 53 = .ok (.iinc 4 1, 3) := by decide +kernel
theorem dX5_beginOf_56 : decode cX5_beginOf 56 = .ok (.goto (-51), 3) := by decide +kernel
theorem dX5_beginOf_59 : decode cX5_beginOf 59 = .ok (.bipush (-2), 2) := by decide +kernel
theorem dX5_beginOf_61 : decode cX5_beginOf 61 = .ok (.ireturn, 1) := by decide +kernel
theorem dX5_allBegin_0 : decode cX5_allBegin 0 = .ok (.aload_n 0, 1) := by decide +kernel
theorem dX5_allBegin_1 : decode cX5_allBegin 1 = .ok (.getfield 36, 3) := by decide +kernel
theorem dX5_allBegin_4 : decode cX5_allBegin 4 = .ok (.ifCond .eq 22, 3) := by decide +kernel
theorem dX5_allBegin_7 : decode cX5_allBegin 7 = .ok (.aload_n 0, 1) := by decide +kernel
theorem dX5_allBegin_8 : decode cX5_allBegin 8 = .ok (.aload_n 0, 1) := by decide +kernel
theorem dX5_allBegin_9 : decode cX5_allBegin 9 = .ok (.getfield 9, 3) := by decide +kernel
theorem dX5_allBegin_12 : decode cX5_allBegin 12 = .ok (.aload_n 0, 1) := by decide +kernel
theorem dX5_allBegin_13 : decode cX5_allBegin 13 = .ok (.getfield 36, 3) := by decide +kernel
theorem dX5_allBegin_16 : decode cX5_allBegin 16 = .ok (.iconst 1, 1) := by decide +kernel
theorem dX5_allBegin_17 : decode cX5_allBegin 17 = .ok (.isub, 1) := by decide +kernel
theorem dX5_allBegin_18 : decode cX5_allBegin 18 = .ok (.iaload, 1) := by decide +kernel
theorem dX5_allBegin_19 : decode cX5_allBegin 19 = .ok (.iload_n 1, 1) := by decide +kernel
theorem dX5_allBegin_20 : decode cX5_allBegin 20 = .ok (.invokevirtual 74, 3) := by decide +kernel
theorem dX5_allBegin_23 : decode cX5_allBegin 23 = .ok (.ifCond .lt 7, 3) := by decide +kernel
theorem dX5_allBegin_26 : decode cX5_allBegin 26 = .ok (.iconst 1, 1) := by decide +kernel
theorem dX5_allBegin_27 : decode cX5_allBegin 27 = .ok (.goto 4, 3) := by decide +kernel
theorem dX5_allBegin_30 : decode cX5_allBegin 30 = .ok (.iconst 0, 1) := by decide +kernel
theorem dX5_allBegin_31 : decode cX5_allBegin 31 = .ok (.ireturn, 1) := by decide +kernel
theorem dX5_spend_0 : decode cX5_spend 0 = .ok (.iconst 0, 1) := by decide +kernel
theorem dX5_spend_1 : decode cX5_spend 1 = .ok (.istore_n 3, 1) := by decide +kernel
theorem dX5_spend_2 : decode cX5_spend 2 = .ok (.iconst 0, 1) := by decide +kernel
theorem dX5_spend_3 : decode cX5_spend 3 = .ok (.istore 4, 2) := by decide +kernel
theorem dX5_spend_5 : decode cX5_spend 5 = .ok (.iconst 0, 1) := by decide +kernel
theorem dX5_spend_6 : decode cX5_spend 6 = .ok (.istore 5, 2) := by decide +kernel
theorem dX5_spend_8 : decode cX5_spend 8 = .ok (.iload 5, 2) := by decide +kernel
theorem dX5_spend_10 : decode cX5_spend 10 = .ok (.sipush 3600, 3) := by decide +kernel
theorem dX5_spend_13 : decode cX5_spend 13 = .ok (.if_icmp .ge 92, 3) := by decide +kernel
theorem dX5_spend_16 : decode cX5_spend 16 = .ok (.aload_n 0, 1) := by decide +kernel
theorem dX5_spend_17 : decode cX5_spend 17 = .ok (.getfield 36, 3) := by decide +kernel
theorem dX5_spend_20 : decode cX5_spend 20 = .ok (.ifCond .le 85, 3) := by decide +kernel
theorem dX5_spend_23 : decode cX5_spend 23 = .ok (.aload_n 2, 1) := by decide +kernel
theorem dX5_spend_24 : decode cX5_spend 24 = .ok (.ifnull 14, 3) := by decide +kernel
theorem dX5_spend_27 : decode cX5_spend 27 = .ok (.aload_n 2, 1) := by decide +kernel
theorem dX5_spend_28 : decode cX5_spend 28 = .ok (.invokevirtual 77, 3) := by decide +kernel
theorem dX5_spend_31 : decode cX5_spend 31 = .ok (.ifCond .eq 7, 3) := by decide +kernel
theorem dX5_spend_34 : decode cX5_spend 34 = .ok (.iconst 1, 1) := by decide +kernel
theorem dX5_spend_35 : decode cX5_spend 35 = .ok (.goto 4, 3) := by decide +kernel
theorem dX5_spend_38 : decode cX5_spend 38 = .ok (.iconst 0, 1) := by decide +kernel
theorem dX5_spend_39 : decode cX5_spend 39 = .ok (.istore 6, 2) := by decide +kernel
theorem dX5_spend_41 : decode cX5_spend 41 = .ok (.iload 6, 2) := by decide +kernel
theorem dX5_spend_43 : decode cX5_spend 43 = .ok (.ifCond .eq 11, 3) := by decide +kernel
theorem dX5_spend_46 : decode cX5_spend 46 = .ok (.aload_n 0, 1) := by decide +kernel
theorem dX5_spend_47 : decode cX5_spend 47 = .ok (.getfield 36, 3) := by decide +kernel
theorem dX5_spend_50 : decode cX5_spend 50 = .ok (.iconst 1, 1) := by decide +kernel
theorem dX5_spend_51 : decode cX5_spend 51 = .ok (.if_icmp .ne 40, 3) := by decide +kernel
theorem dX5_spend_54 : decode cX5_spend 54 = .ok (.iload_n 3, 1) := by decide +kernel
theorem dX5_spend_55 : decode cX5_spend 55 = .ok (.aload_n 0, 1) := by decide +kernel
theorem dX5_spend_56 : decode cX5_spend 56 = .ok (.getfield 15, 3) := by decide +kernel
theorem dX5_spend_59 : decode cX5_spend 59 = .ok (.iload 4, 2) := by decide +kernel
theorem dX5_spend_61 : decode cX5_spend 61 = .ok (.iaload, 1) := by decide +kernel
theorem dX5_spend_62 : decode cX5_spend 62 = .ok (.iadd, 1) := by decide +kernel
theorem dX5_spend_63 : decode cX5_spend 63 = .ok (.iload_n 1, 1) := by decide +kernel
theorem dX5_spend_64 : decode cX5_spend 64 = .ok (.if_icmp .le 6, 3) := by decide +kernel
theorem dX5_spend_67 : decode cX5_spend 67 = .ok (.goto 38, 3) := by decide +kernel
theorem dX5_spend_70 : decode cX5_spend 70 = .ok (.iload_n 3, 1) := by decide +kernel
theorem dX5_spend_71 : decode cX5_spend 71 = .ok (.aload_n 0, 1) := by decide +kernel
theorem dX5_spend_72 : decode cX5_spend 72 = .ok (.getfield 15, 3) := by decide +kernel
theorem dX5_spend_75 : decode cX5_spend 75 = .ok (.iload 4, 2) := by decide +kernel
theorem dX5_spend_77 : decode cX5_spend 77 = .ok (.iaload, 1) := by decide +kernel
theorem dX5_spend_78 : decode cX5_spend 78 = .ok (.iadd, 1) := by decide +kernel
theorem dX5_spend_79 : decode cX5_spend 79 = .ok (.istore_n 3, 1) := by decide +kernel
theorem dX5_spend_80 : decode cX5_spend 80 = .ok (.aload_n 0, 1) := by decide +kernel
theorem dX5_spend_81 : decode cX5_spend 81 = .ok (.getfield 21, 3) := by decide +kernel
theorem dX5_spend_84 : decode cX5_spend 84 = .ok (.iload 4, 2) := by decide +kernel
theorem dX5_spend_86 : decode cX5_spend 86 = .ok (.dup2, 1) := by decide +kernel
theorem dX5_spend_87 : decode cX5_spend 87 = .ok (.iaload, 1) := by decide +kernel
theorem dX5_spend_88 : decode cX5_spend 88 = .ok (.iconst 1, 1) := by decide +kernel
theorem dX5_spend_89 : decode cX5_spend 89 = .ok (.iadd, 1) := by decide +kernel
theorem dX5_spend_90 : decode cX5_spend 90 = .ok (.iastore, 1) := by decide +kernel
theorem dX5_spend_91 : decode cX5_spend 91 = .ok (.aload_n 0, 1) := by decide +kernel
theorem dX5_spend_92 : decode cX5_spend 92 = .ok (.iload 4, 2) := by decide +kernel
theorem dX5_spend_94 : decode cX5_spend 94 = .ok (.invokevirtual 59, 3) := by decide +kernel
theorem dX5_spend_97 : decode cX5_spend 97 = .ok (.istore 4, 2) := by decide +kernel
theorem dX5_spend_99 : decode cX5_spend 99 = .ok (.iinc 5 1, 3) := by decide +kernel
theorem dX5_spend_102 : decode cX5_spend 102 = .ok (.goto (-94), 3) := by decide +kernel
theorem dX5_spend_105 : decode cX5_spend 105 = .ok (.aload_n 0, 1) := by decide +kernel
theorem dX5_spend_106 : decode cX5_spend 106 = .ok (.iload_n 3, 1) := by decide +kernel
theorem dX5_spend_107 : decode cX5_spend 107 = .ok (.putfield 83, 3) := by decide +kernel
theorem dX5_spend_110 : decode cX5_spend 110 = .ok (.return_, 1) := by decide +kernel
theorem dX5_oftenWhileHeld_0 : decode cX5_oftenWhileHeld 0 = .ok (.iconst 0, 1) := by decide +kernel
theorem dX5_oftenWhileHeld_1 : decode cX5_oftenWhileHeld 1 = .ok (.istore 4, 2) := by decide +kernel
theorem dX5_oftenWhileHeld_3 : decode cX5_oftenWhileHeld 3 = .ok (.iconst 0, 1) := by decide +kernel
theorem dX5_oftenWhileHeld_4 : decode cX5_oftenWhileHeld 4 = .ok (.istore 5, 2) := by decide +kernel
theorem dX5_oftenWhileHeld_6 : decode cX5_oftenWhileHeld 6 = .ok (.iconst 0, 1) := by decide +kernel
theorem dX5_oftenWhileHeld_7 : decode cX5_oftenWhileHeld 7 = .ok (.istore 6, 2) := by decide +kernel
theorem dX5_oftenWhileHeld_9 : decode cX5_oftenWhileHeld 9 = .ok (.iconst 0, 1) := by decide +kernel
theorem dX5_oftenWhileHeld_10 : decode cX5_oftenWhileHeld 10 = .ok (.istore 7, 2) := by decide +kernel
theorem dX5_oftenWhileHeld_12 : decode cX5_oftenWhileHeld 12 = .ok (.iload 7, 2) := by decide +kernel
theorem dX5_oftenWhileHeld_14 : decode cX5_oftenWhileHeld 14 = .ok (.sipush 3600, 3) := by decide +kernel
theorem dX5_oftenWhileHeld_17 : decode cX5_oftenWhileHeld 17 = .ok (.if_icmp .ge 183, 3) := by decide +kernel
theorem dX5_oftenWhileHeld_20 : decode cX5_oftenWhileHeld 20 = .ok (.iload 6, 2) := by decide +kernel
theorem dX5_oftenWhileHeld_22 : decode cX5_oftenWhileHeld 22 = .ok (.ifCond .le 7, 3) := by decide +kernel
theorem dX5_oftenWhileHeld_25 : decode cX5_oftenWhileHeld 25 = .ok (.iload_n 1, 1) := by decide +kernel
theorem dX5_oftenWhileHeld_26 : decode cX5_oftenWhileHeld 26 = .ok (.goto 4, 3) := by decide +kernel
theorem dX5_oftenWhileHeld_29 : decode cX5_oftenWhileHeld 29 = .ok (.iconst (-1), 1) := by decide +kernel
theorem dX5_oftenWhileHeld_30 : decode cX5_oftenWhileHeld 30 = .ok (.istore 8, 2) := by decide +kernel
theorem dX5_oftenWhileHeld_32 : decode cX5_oftenWhileHeld 32 = .ok (.aload_n 0, 1) := by decide +kernel
theorem dX5_oftenWhileHeld_33 : decode cX5_oftenWhileHeld 33 = .ok (.iload 8, 2) := by decide +kernel
theorem dX5_oftenWhileHeld_35 : decode cX5_oftenWhileHeld 35 = .ok (.iconst 0, 1) := by decide +kernel
theorem dX5_oftenWhileHeld_36 : decode cX5_oftenWhileHeld 36 = .ok (.invokevirtual 86, 3) := by decide +kernel
theorem dX5_oftenWhileHeld_39 : decode cX5_oftenWhileHeld 39 = .ok (.istore 9, 2) := by decide +kernel
theorem dX5_oftenWhileHeld_41 : decode cX5_oftenWhileHeld 41 = .ok (.iload 9, 2) := by decide +kernel
theorem dX5_oftenWhileHeld_43 : decode cX5_oftenWhileHeld 43 = .ok (.aload_n 0, 1) := by decide +kernel
theorem dX5_oftenWhileHeld_44 : decode cX5_oftenWhileHeld 44 = .ok (.getfield 36, 3) := by decide +kernel
theorem dX5_oftenWhileHeld_47 : decode cX5_oftenWhileHeld 47 = .ok (.if_icmp .lt 6, 3) := by decide +kernel
theorem dX5_oftenWhileHeld_50 : decode cX5_oftenWhileHeld 50 = .ok (.goto 150, 3) := by decide +kernel
theorem dX5_oftenWhileHeld_53 : decode cX5_oftenWhileHeld 53 = .ok (.aload_n 0, 1) := by decide +kernel
theorem dX5_oftenWhileHeld_54 : decode cX5_oftenWhileHeld 54 = .ok (.iload 8, 2) := by decide +kernel
theorem dX5_oftenWhileHeld_56 : decode cX5_oftenWhileHeld 56 = .ok (.iload 9, 2) := by decide +kernel
theorem dX5_oftenWhileHeld_58 : decode cX5_oftenWhileHeld 58 = .ok (.iconst 1, 1) := by decide +kernel
theorem dX5_oftenWhileHeld_59 : decode cX5_oftenWhileHeld 59 = .ok (.iadd, 1) := by decide +kernel
theorem dX5_oftenWhileHeld_60 : decode cX5_oftenWhileHeld 60 = .ok (.invokevirtual 86, 3) := by decide +kernel
theorem dX5_oftenWhileHeld_63 : decode cX5_oftenWhileHeld 63 = .ok (.istore 10, 2) := by decide +kernel
theorem dX5_oftenWhileHeld_65 : decode cX5_oftenWhileHeld 65 = .ok (.iload 10, 2) := by decide +kernel
theorem dX5_oftenWhileHeld_67 : decode cX5_oftenWhileHeld 67 = .ok (.aload_n 0, 1) := by decide +kernel
theorem dX5_oftenWhileHeld_68 : decode cX5_oftenWhileHeld 68 = .ok (.getfield 36, 3) := by decide +kernel
theorem dX5_oftenWhileHeld_71 : decode cX5_oftenWhileHeld 71 = .ok (.if_icmp .ge 13, 3) := by decide +kernel
theorem dX5_oftenWhileHeld_74 : decode cX5_oftenWhileHeld 74 = .ok (.aload_n 0, 1) := by decide +kernel
theorem dX5_oftenWhileHeld_75 : decode cX5_oftenWhileHeld 75 = .ok (.getfield 9, 3) := by decide +kernel
theorem dX5_oftenWhileHeld_78 : decode cX5_oftenWhileHeld 78 = .ok (.iload 10, 2) := by decide +kernel
theorem dX5_oftenWhileHeld_80 : decode cX5_oftenWhileHeld 80 = .ok (.iaload, 1) := by decide +kernel
theorem dX5_oftenWhileHeld_81 : decode cX5_oftenWhileHeld 81 = .ok (.goto 5, 3) := by decide +kernel
theorem dX5_oftenWhileHeld_84 : decode cX5_oftenWhileHeld 84 = .ok (.bipush 9, 2) := by decide +kernel
theorem dX5_oftenWhileHeld_86 : decode cX5_oftenWhileHeld 86 = .ok (.istore 11, 2) := by decide +kernel
theorem dX5_oftenWhileHeld_88 : decode cX5_oftenWhileHeld 88 = .ok (.iload 8, 2) := by decide +kernel
theorem dX5_oftenWhileHeld_90 : decode cX5_oftenWhileHeld 90 = .ok (.iconst (-1), 1) := by decide +kernel
theorem dX5_oftenWhileHeld_91 : decode cX5_oftenWhileHeld 91 = .ok (.if_icmp .ne 12, 3) := by decide +kernel
theorem dX5_oftenWhileHeld_94 : decode cX5_oftenWhileHeld 94 = .ok (.aload_n 0, 1) := by decide +kernel
theorem dX5_oftenWhileHeld_95 : decode cX5_oftenWhileHeld 95 = .ok (.getfield 36, 3) := by decide +kernel
theorem dX5_oftenWhileHeld_98 : decode cX5_oftenWhileHeld 98 = .ok (.iconst 1, 1) := by decide +kernel
theorem dX5_oftenWhileHeld_99 : decode cX5_oftenWhileHeld 99 = .ok (.isub, 1) := by decide +kernel
theorem dX5_oftenWhileHeld_100 : decode cX5_oftenWhileHeld 100 = .ok (.goto 9, 3) := by decide +kernel
theorem dX5_oftenWhileHeld_103 : decode cX5_oftenWhileHeld 103 = .ok (.aload_n 0, 1) := by decide +kernel
theorem dX5_oftenWhileHeld_104 : decode cX5_oftenWhileHeld 104 = .ok (.getfield 36, 3) := by decide +kernel
theorem dX5_oftenWhileHeld_107 : decode cX5_oftenWhileHeld 107 = .ok (.iconst 2, 1) := by decide +kernel
theorem dX5_oftenWhileHeld_108 : decode cX5_oftenWhileHeld 108 = .ok (.isub, 1) := by decide +kernel
theorem dX5_oftenWhileHeld_109 : decode cX5_oftenWhileHeld 109 = .ok (.istore 12, 2) := by decide +kernel
theorem dX5_oftenWhileHeld_111 : decode cX5_oftenWhileHeld 111 = .ok (.iload 4, 2) := by decide +kernel
theorem dX5_oftenWhileHeld_113 : decode cX5_oftenWhileHeld 113 = .ok (.aload_n 0, 1) := by decide +kernel
theorem dX5_oftenWhileHeld_114 : decode cX5_oftenWhileHeld 114 = .ok (.getfield 28, 3) := by decide +kernel
theorem dX5_oftenWhileHeld_117 : decode cX5_oftenWhileHeld 117 = .ok (.aload_n 0, 1) := by decide +kernel
theorem dX5_oftenWhileHeld_118 : decode cX5_oftenWhileHeld 118 = .ok (.getfield 32, 3) := by decide +kernel
theorem dX5_oftenWhileHeld_121 : decode cX5_oftenWhileHeld 121 = .ok (.aload_n 0, 1) := by decide +kernel
theorem dX5_oftenWhileHeld_122 : decode cX5_oftenWhileHeld 122 = .ok (.getfield 9, 3) := by decide +kernel
theorem dX5_oftenWhileHeld_125 : decode cX5_oftenWhileHeld 125 = .ok (.iload 9, 2) := by decide +kernel
theorem dX5_oftenWhileHeld_127 : decode cX5_oftenWhileHeld 127 = .ok (.iaload, 1) := by decide +kernel
theorem dX5_oftenWhileHeld_128 : decode cX5_oftenWhileHeld 128 = .ok (.iload 11, 2) := by decide +kernel
theorem dX5_oftenWhileHeld_130 : decode cX5_oftenWhileHeld 130 = .ok (.iload 12, 2) := by decide +kernel
theorem dX5_oftenWhileHeld_132 : decode cX5_oftenWhileHeld 132 = .ok (.invokevirtual 62, 3) := by decide +kernel
theorem dX5_oftenWhileHeld_135 : decode cX5_oftenWhileHeld 135 = .ok (.getfield 68, 3) := by decide +kernel
theorem dX5_oftenWhileHeld_138 : decode cX5_oftenWhileHeld 138 = .ok (.iadd, 1) := by decide +kernel
theorem dX5_oftenWhileHeld_139 : decode cX5_oftenWhileHeld 139 = .ok (.istore 4, 2) := by decide +kernel
theorem dX5_oftenWhileHeld_141 : decode cX5_oftenWhileHeld 141 = .ok (.iload 4, 2) := by decide +kernel
theorem dX5_oftenWhileHeld_143 : decode cX5_oftenWhileHeld 143 = .ok (.iload_n 3, 1) := by decide +kernel
theorem dX5_oftenWhileHeld_144 : decode cX5_oftenWhileHeld 144 = .ok (.if_icmp .le 6, 3) := by decide +kernel
theorem dX5_oftenWhileHeld_147 : decode cX5_oftenWhileHeld 147 = .ok (.goto 53, 3) := by decide +kernel
theorem dX5_oftenWhileHeld_150 : decode cX5_oftenWhileHeld 150 = .ok (.aload_n 0, 1) := by decide +kernel
theorem dX5_oftenWhileHeld_151 : decode cX5_oftenWhileHeld 151 = .ok (.getfield 9, 3) := by decide +kernel
theorem dX5_oftenWhileHeld_154 : decode cX5_oftenWhileHeld 154 = .ok (.iload 9, 2) := by decide +kernel
theorem dX5_oftenWhileHeld_156 : decode cX5_oftenWhileHeld 156 = .ok (.iaload, 1) := by decide +kernel
theorem dX5_oftenWhileHeld_157 : decode cX5_oftenWhileHeld 157 = .ok (.iload_n 1, 1) := by decide +kernel
theorem dX5_oftenWhileHeld_158 : decode cX5_oftenWhileHeld 158 = .ok (.if_icmp .ne 22, 3) := by decide +kernel
theorem dX5_oftenWhileHeld_161 : decode cX5_oftenWhileHeld 161 = .ok (.iinc 5 1, 3) := by decide +kernel
theorem dX5_oftenWhileHeld_164 : decode cX5_oftenWhileHeld 164 = .ok (.iload 5, 2) := by decide +kernel
theorem dX5_oftenWhileHeld_166 : decode cX5_oftenWhileHeld 166 = .ok (.iconst 1, 1) := by decide +kernel
theorem dX5_oftenWhileHeld_167 : decode cX5_oftenWhileHeld 167 = .ok (.if_icmp .ne 7, 3) := by decide +kernel
theorem dX5_oftenWhileHeld_170 : decode cX5_oftenWhileHeld 170 = .ok (.iload_n 2, 1) := by decide +kernel
theorem dX5_oftenWhileHeld_171 : decode cX5_oftenWhileHeld 171 = .ok (.goto 4, 3) := by decide +kernel
theorem dX5_oftenWhileHeld_174 : decode cX5_oftenWhileHeld 174 = .ok (.iconst 0, 1) := by decide +kernel
theorem dX5_oftenWhileHeld_175 : decode cX5_oftenWhileHeld 175 = .ok (.istore 6, 2) := by decide +kernel
theorem dX5_oftenWhileHeld_177 : decode cX5_oftenWhileHeld 177 = .ok (.goto 11, 3) := by decide +kernel
theorem dX5_oftenWhileHeld_180 : decode cX5_oftenWhileHeld 180 = .ok (.iload 6, 2) := by decide +kernel
theorem dX5_oftenWhileHeld_182 : decode cX5_oftenWhileHeld 182 = .ok (.ifCond .le 6, 3) := by decide +kernel
theorem dX5_oftenWhileHeld_185 : decode cX5_oftenWhileHeld 185 = .ok (.iinc 6 (-1), 3) := by decide +kernel
theorem dX5_oftenWhileHeld_188 : decode cX5_oftenWhileHeld 188 = .ok (.aload_n 0, 1) := by decide +kernel
theorem dX5_oftenWhileHeld_189 : decode cX5_oftenWhileHeld 189 = .ok (.iload 9, 2) := by decide +kernel
theorem dX5_oftenWhileHeld_191 : decode cX5_oftenWhileHeld 191 = .ok (.invokevirtual 89, 3) := by decide +kernel
theorem dX5_oftenWhileHeld_194 : decode cX5_oftenWhileHeld 194 = .ok (.iinc 7 1, 3) := by decide +kernel
theorem dX5_oftenWhileHeld_197 : decode cX5_oftenWhileHeld 197 = .ok (.goto (-185), 3) := by decide +kernel
theorem dX5_oftenWhileHeld_200 : decode cX5_oftenWhileHeld 200 = .ok (.iload 5, 2) := by decide +kernel
theorem dX5_oftenWhileHeld_202 : decode cX5_oftenWhileHeld 202 = .ok (.ireturn, 1) := by decide +kernel
theorem dX5_passingOver_0 : decode cX5_passingOver 0 = .ok (.iload_n 2, 1) := by decide +kernel
theorem dX5_passingOver_1 : decode cX5_passingOver 1 = .ok (.aload_n 0, 1) := by decide +kernel
theorem dX5_passingOver_2 : decode cX5_passingOver 2 = .ok (.getfield 36, 3) := by decide +kernel
theorem dX5_passingOver_5 : decode cX5_passingOver 5 = .ok (.if_icmp .ge 19, 3) := by decide +kernel
theorem dX5_passingOver_8 : decode cX5_passingOver 8 = .ok (.aload_n 0, 1) := by decide +kernel
theorem dX5_passingOver_9 : decode cX5_passingOver 9 = .ok (.getfield 9, 3) := by decide +kernel
theorem dX5_passingOver_12 : decode cX5_passingOver 12 = .ok (.iload_n 2, 1) := by decide +kernel
theorem dX5_passingOver_13 : decode cX5_passingOver 13 = .ok (.iaload, 1) := by decide +kernel
theorem dX5_passingOver_14 : decode cX5_passingOver 14 = .ok (.iload_n 1, 1) := by decide +kernel
theorem dX5_passingOver_15 : decode cX5_passingOver 15 = .ok (.if_icmp .ne 9, 3) := by decide +kernel
theorem dX5_passingOver_18 : decode cX5_passingOver 18 = .ok (.iload_n 2, 1) := by decide +kernel
theorem dX5_passingOver_19 : decode cX5_passingOver 19 = .ok (.iconst 1, 1) := by decide +kernel
theorem dX5_passingOver_20 : decode cX5_passingOver 20 = .ok (.iadd, 1) := by decide +kernel
theorem dX5_passingOver_21 : decode cX5_passingOver 21 = .ok (.goto 4, 3) := by decide +kernel
theorem dX5_passingOver_24 : decode cX5_passingOver 24 = .ok (.iload_n 2, 1) := by decide +kernel
theorem dX5_passingOver_25 : decode cX5_passingOver 25 = .ok (.ireturn, 1) := by decide +kernel
theorem dX5_sendToEnd_0 : decode cX5_sendToEnd 0 = .ok (.aload_n 0, 1) := by decide +kernel
theorem dX5_sendToEnd_1 : decode cX5_sendToEnd 1 = .ok (.getfield 9, 3) := by decide +kernel
theorem dX5_sendToEnd_4 : decode cX5_sendToEnd 4 = .ok (.iload_n 1, 1) := by decide +kernel
theorem dX5_sendToEnd_5 : decode cX5_sendToEnd 5 = .ok (.iaload, 1) := by decide +kernel
theorem dX5_sendToEnd_6 : decode cX5_sendToEnd 6 = .ok (.istore_n 2, 1) := by decide +kernel
theorem dX5_sendToEnd_7 : decode cX5_sendToEnd 7 = .ok (.iload_n 1, 1) := by decide +kernel
theorem dX5_sendToEnd_8 : decode cX5_sendToEnd 8 = .ok (.istore_n 3, 1) := by decide +kernel
theorem dX5_sendToEnd_9 : decode cX5_sendToEnd 9 = .ok (.iload_n 3, 1) := by decide +kernel
theorem dX5_sendToEnd_10 : decode cX5_sendToEnd 10 = .ok (.iconst 1, 1) := by decide +kernel
theorem dX5_sendToEnd_11 : decode cX5_sendToEnd 11 = .ok (.iadd, 1) := by decide +kernel
theorem dX5_sendToEnd_12 : decode cX5_sendToEnd 12 = .ok (.aload_n 0, 1) := by decide +kernel
theorem dX5_sendToEnd_13 : decode cX5_sendToEnd 13 = .ok (.getfield 36, 3) := by decide +kernel
theorem dX5_sendToEnd_16 : decode cX5_sendToEnd 16 = .ok (.if_icmp .ge 23, 3) := by decide +kernel
theorem dX5_sendToEnd_19 : decode cX5_sendToEnd 19 = .ok (.aload_n 0, 1) := by decide +kernel
theorem dX5_sendToEnd_20 : decode cX5_sendToEnd 20 = .ok (.getfield 9, 3) := by decide +kernel
theorem dX5_sendToEnd_23 : decode cX5_sendToEnd 23 = .ok (.iload_n 3, 1) := by decide +kernel
theorem dX5_sendToEnd_24 : decode cX5_sendToEnd 24 = .ok (.aload_n 0, 1) := by decide +kernel
theorem dX5_sendToEnd_25 : decode cX5_sendToEnd 25 = .ok (.getfield 9, 3) := by decide +kernel
theorem dX5_sendToEnd_28 : decode cX5_sendToEnd 28 = .ok (.iload_n 3, 1) := by decide +kernel
theorem dX5_sendToEnd_29 : decode cX5_sendToEnd 29 = .ok (.iconst 1, 1) := by decide +kernel
theorem dX5_sendToEnd_30 : decode cX5_sendToEnd 30 = .ok (.iadd, 1) := by decide +kernel
theorem dX5_sendToEnd_31 : decode cX5_sendToEnd 31 = .ok (.iaload, 1) := by decide +kernel
theorem dX5_sendToEnd_32 : decode cX5_sendToEnd 32 = .ok (.iastore, 1) := by decide +kernel
theorem dX5_sendToEnd_33 : decode cX5_sendToEnd 33 = .ok (.iinc 3 1, 3) := by decide +kernel
theorem dX5_sendToEnd_36 : decode cX5_sendToEnd 36 = .ok (.goto (-27), 3) := by decide +kernel
theorem dX5_sendToEnd_39 : decode cX5_sendToEnd 39 = .ok (.aload_n 0, 1) := by decide +kernel
theorem dX5_sendToEnd_40 : decode cX5_sendToEnd 40 = .ok (.getfield 9, 3) := by decide +kernel
theorem dX5_sendToEnd_43 : decode cX5_sendToEnd 43 = .ok (.aload_n 0, 1) := by decide +kernel
theorem dX5_sendToEnd_44 : decode cX5_sendToEnd 44 = .ok (.getfield 36, 3) := by decide +kernel
theorem dX5_sendToEnd_47 : decode cX5_sendToEnd 47 = .ok (.iconst 1, 1) := by decide +kernel
theorem dX5_sendToEnd_48 : decode cX5_sendToEnd 48 = .ok (.isub, 1) := by decide +kernel
theorem dX5_sendToEnd_49 : decode cX5_sendToEnd 49 = .ok (.iload_n 2, 1) := by decide +kernel
theorem dX5_sendToEnd_50 : decode cX5_sendToEnd 50 = .ok (.iastore, 1) := by decide +kernel
theorem dX5_sendToEnd_51 : decode cX5_sendToEnd 51 = .ok (.return_, 1) := by decide +kernel
theorem dX6_init_0 : decode cX6_init 0 = .ok (.aload_n 0, 1) := by decide +kernel
theorem dX6_init_1 : decode cX6_init 1 = .ok (.invokespecial 5, 3) := by decide +kernel
theorem dX6_init_4 : decode cX6_init 4 = .ok (.aload_n 0, 1) := by decide +kernel
theorem dX6_init_5 : decode cX6_init 5 = .ok (.bipush 61, 2) := by decide +kernel
theorem dX6_init_7 : decode cX6_init 7 = .ok (.newarray .int, 2) := by decide +kernel
theorem dX6_init_9 : decode cX6_init 9 = .ok (.putfield 11, 3) := by decide +kernel
theorem dX6_init_12 : decode cX6_init 12 = .ok (.iconst 0, 1) := by decide +kernel
theorem dX6_init_13 : decode cX6_init 13 = .ok (.istore_n 1, 1) := by decide +kernel
theorem dX6_init_14 : decode cX6_init 14 = .ok (.iload_n 1, 1) := by decide +kernel
theorem dX6_init_15 : decode cX6_init 15 = .ok (.iconst 3, 1) := by decide +kernel
theorem dX6_init_16 : decode cX6_init 16 = .ok (.if_icmp .ge 20, 3) := by decide +kernel
theorem dX6_init_19 : decode cX6_init 19 = .ok (.aload_n 0, 1) := by decide +kernel
theorem dX6_init_20 : decode cX6_init 20 = .ok (.getfield 11, 3) := by decide +kernel
theorem dX6_init_23 : decode cX6_init 23 = .ok (.bipush 54, 2) := by decide +kernel
theorem dX6_init_25 : decode cX6_init 25 = .ok (.iload_n 1, 1) := by decide +kernel
theorem dX6_init_26 : decode cX6_init 26 = .ok (.iadd, 1) := by decide +kernel
theorem dX6_init_27 : decode cX6_init 27 = .ok (.bipush 6, 2) := by decide +kernel
theorem dX6_init_29 : decode cX6_init 29 = .ok (.iastore, 1) := by decide +kernel
theorem dX6_init_30 : decode cX6_init 30 = .ok (.iinc 1 1, 3) := by decide +kernel
theorem dX6_init_33 : decode cX6_init 33 = .ok (.goto (-19), 3) := by decide +kernel
theorem dX6_init_36 : decode cX6_init 36 = .ok (.aload_n 0, 1) := by decide +kernel
theorem dX6_init_37 : decode cX6_init 37 = .ok (.getfield 11, 3) := by decide +kernel
theorem dX6_init_40 : decode cX6_init 40 = .ok (.bipush 57, 2) := by decide +kernel
theorem dX6_init_42 : decode cX6_init 42 = .ok (.iconst 2, 1) := by decide +kernel
theorem dX6_init_43 : decode cX6_init 43 = .ok (.iastore, 1) := by decide +kernel
theorem dX6_init_44 : decode cX6_init 44 = .ok (.aload_n 0, 1) := by decide +kernel
theorem dX6_init_45 : decode cX6_init 45 = .ok (.getfield 11, 3) := by decide +kernel
theorem dX6_init_48 : decode cX6_init 48 = .ok (.bipush 58, 2) := by decide +kernel
theorem dX6_init_50 : decode cX6_init 50 = .ok (.bipush 20, 2) := by decide +kernel
theorem dX6_init_52 : decode cX6_init 52 = .ok (.iastore, 1) := by decide +kernel
theorem dX6_init_53 : decode cX6_init 53 = .ok (.return_, 1) := by decide +kernel
theorem dX6_isChild_0 : decode cX6_isChild 0 = .ok (.iload_n 1, 1) := by decide +kernel
theorem dX6_isChild_1 : decode cX6_isChild 1 = .ok (.ifCond .lt 15, 3) := by decide +kernel
theorem dX6_isChild_4 : decode cX6_isChild 4 = .ok (.iload_n 1, 1) := by decide +kernel
theorem dX6_isChild_5 : decode cX6_isChild 5 = .ok (.aload_n 0, 1) := by decide +kernel
theorem dX6_isChild_6 : decode cX6_isChild 6 = .ok (.getfield 15, 3) := by decide +kernel
theorem dX6_isChild_9 : decode cX6_isChild 9 = .ok (.if_icmp .ge 7, 3) := by decide +kernel
theorem dX6_isChild_12 : decode cX6_isChild 12 = .ok (.iconst 1, 1) := by decide +kernel
theorem dX6_isChild_13 : decode cX6_isChild 13 = .ok (.goto 4, 3) := by decide +kernel
theorem dX6_isChild_16 : decode cX6_isChild 16 = .ok (.iconst 0, 1) := by decide +kernel
theorem dX6_isChild_17 : decode cX6_isChild 17 = .ok (.ireturn, 1) := by decide +kernel
theorem dX6_isSwing_0 : decode cX6_isSwing 0 = .ok (.iload_n 1, 1) := by decide +kernel
theorem dX6_isSwing_1 : decode cX6_isSwing 1 = .ok (.ifCond .lt 12, 3) := by decide +kernel
theorem dX6_isSwing_4 : decode cX6_isSwing 4 = .ok (.iload_n 1, 1) := by decide +kernel
theorem dX6_isSwing_5 : decode cX6_isSwing 5 = .ok (.iconst 3, 1) := by decide +kernel
theorem dX6_isSwing_6 : decode cX6_isSwing 6 = .ok (.if_icmp .ge 7, 3) := by decide +kernel
theorem dX6_isSwing_9 : decode cX6_isSwing 9 = .ok (.iconst 1, 1) := by decide +kernel
theorem dX6_isSwing_10 : decode cX6_isSwing 10 = .ok (.goto 4, 3) := by decide +kernel
theorem dX6_isSwing_13 : decode cX6_isSwing 13 = .ok (.iconst 0, 1) := by decide +kernel
theorem dX6_isSwing_14 : decode cX6_isSwing 14 = .ok (.ireturn, 1) := by decide +kernel
theorem dX6_mayCount_0 : decode cX6_mayCount 0 = .ok (.iload_n 1, 1) := by decide +kernel
theorem dX6_mayCount_1 : decode cX6_mayCount 1 = .ok (.bipush 9, 2) := by decide +kernel
theorem dX6_mayCount_3 : decode cX6_mayCount 3 = .ok (.if_icmp .eq 16, 3) := by decide +kernel
theorem dX6_mayCount_6 : decode cX6_mayCount 6 = .ok (.iload_n 1, 1) := by decide +kernel
theorem dX6_mayCount_7 : decode cX6_mayCount 7 = .ok (.iload_n 2, 1) := by decide +kernel
theorem dX6_mayCount_8 : decode cX6_mayCount 8 = .ok (.if_icmp .eq 15, 3) := by decide +kernel
theorem dX6_mayCount_11 : decode cX6_mayCount 11 = .ok (.aload_n 0, 1) := by decide +kernel
theorem dX6_mayCount_12 : decode cX6_mayCount 12 = .ok (.iload_n 1, 1) := by decide +kernel
theorem dX6_mayCount_13 : decode cX6_mayCount 13 = .ok (.invokevirtual 19, 3) := by decide +kernel
theorem dX6_mayCount_16 : decode cX6_mayCount 16 = .ok (.ifCond .eq 7, 3) := by decide +kernel
theorem dX6_mayCount_19 : decode cX6_mayCount 19 = .ok (.iconst 1, 1) := by decide +kernel
theorem dX6_mayCount_20 : decode cX6_mayCount 20 = .ok (.goto 4, 3) := by decide +kernel
theorem dX6_mayCount_23 : decode cX6_mayCount 23 = .ok (.iconst 0, 1) := by decide +kernel
theorem dX6_mayCount_24 : decode cX6_mayCount 24 = .ok (.ireturn, 1) := by decide +kernel
theorem dX6_placeOf_0 : decode cX6_placeOf 0 = .ok (.iload_n 2, 1) := by decide +kernel
theorem dX6_placeOf_1 : decode cX6_placeOf 1 = .ok (.ifCond .lt 9, 3) := by decide +kernel
theorem dX6_placeOf_4 : decode cX6_placeOf 4 = .ok (.iload_n 2, 1) := by decide +kernel
theorem dX6_placeOf_5 : decode cX6_placeOf 5 = .ok (.bipush 10, 2) := by decide +kernel
theorem dX6_placeOf_7 : decode cX6_placeOf 7 = .ok (.if_icmp .le 5, 3) := by decide +kernel
theorem dX6_placeOf_10 : decode cX6_placeOf 10 = .ok (.iconst (-1), 1) := by decide +kernel
theorem dX6_placeOf_11 : decode cX6_placeOf 11 = .ok (.ireturn, 1) := by decide +kernel
theorem dX6_placeOf_12 : decode cX6_placeOf 12 = .ok (.iload_n 2, 1) := by decide +kernel
theorem dX6_placeOf_13 : decode cX6_placeOf 13 = .ok (.bipush 6, 2) := by decide +kernel
theorem dX6_placeOf_15 : decode cX6_placeOf 15 = .ok (.if_icmp .ge 22, 3) := by decide +kernel
theorem dX6_placeOf_18 : decode cX6_placeOf 18 = .ok (.aload_n 0, 1) := by decide +kernel
theorem dX6_placeOf_19 : decode cX6_placeOf 19 = .ok (.iload_n 1, 1) := by decide +kernel
theorem dX6_placeOf_20 : decode cX6_placeOf 20 = .ok (.invokevirtual 19, 3) := by decide +kernel
theorem dX6_placeOf_23 : decode cX6_placeOf 23 = .ok (.ifCond .eq 12, 3) := by decide +kernel
theorem dX6_placeOf_26 : decode cX6_placeOf 26 = .ok (.iload_n 1, 1) := by decide +kernel
theorem dX6_placeOf_27 : decode cX6_placeOf 27 = .ok (.bipush 6, 2) := by decide +kernel
theorem dX6_placeOf_29 : decode cX6_placeOf 29 = .ok (.imul, 1) := by decide +kernel
theorem dX6_placeOf_30 : decode cX6_placeOf 30 = .ok (.iload_n 2, 1) := by decide +kernel
theorem dX6_placeOf_31 : decode cX6_placeOf 31 = .ok (.iadd, 1) := by decide +kernel
theorem dX6_placeOf_32 : decode cX6_placeOf 32 = .ok (.goto 4, 3) := by decide +kernel
theorem dX6_placeOf_35 : decode cX6_placeOf 35 = .ok (.iconst (-1), 1) := by decide +kernel
theorem dX6_placeOf_36 : decode cX6_placeOf 36 = .ok (.ireturn, 1) := by decide +kernel
theorem dX6_placeOf_37 : decode cX6_placeOf 37 = .ok (.iload_n 2, 1) := by decide +kernel
theorem dX6_placeOf_38 : decode cX6_placeOf 38 = .ok (.bipush 6, 2) := by decide +kernel
theorem dX6_placeOf_40 : decode cX6_placeOf 40 = .ok (.if_icmp .ne 20, 3) := by decide +kernel
theorem dX6_placeOf_43 : decode cX6_placeOf 43 = .ok (.aload_n 0, 1) := by decide +kernel
theorem dX6_placeOf_44 : decode cX6_placeOf 44 = .ok (.iload_n 1, 1) := by decide +kernel
theorem dX6_placeOf_45 : decode cX6_placeOf 45 = .ok (.invokevirtual 23, 3) := by decide +kernel
theorem dX6_placeOf_48 : decode cX6_placeOf 48 = .ok (.ifCond .eq 10, 3) := by decide +kernel
theorem dX6_placeOf_51 : decode cX6_placeOf 51 = .ok (.bipush 54, 2) := by decide +kernel
theorem dX6_placeOf_53 : decode cX6_placeOf 53 = .ok (.iload_n 1, 1) := by decide +kernel
theorem dX6_placeOf_54 : decode cX6_placeOf 54 = .ok (.iadd, 1) := by decide +kernel
theorem dX6_placeOf_55 : decode cX6_placeOf 55 = .ok (.goto 4, 3) := by decide +kernel
theorem dX6_placeOf_58 : decode cX6_placeOf 58 = .ok (.iconst (-1), 1) := by decide +kernel
theorem dX6_placeOf_59 : decode cX6_placeOf 59 = .ok (.ireturn, 1) := by decide +kernel
theorem dX6_placeOf_60 : decode cX6_placeOf 60 = .ok (.iload_n 1, 1) := by decide +kernel
theorem dX6_placeOf_61 : decode cX6_placeOf 61 = .ok (.ifCond .ne 13, 3) := by decide +kernel
theorem dX6_placeOf_64 : decode cX6_placeOf 64 = .ok (.bipush 57, 2) := by decide +kernel
theorem dX6_placeOf_66 : decode cX6_placeOf 66 = .ok (.iload_n 2, 1) := by decide +kernel
theorem dX6_placeOf_67 : decode cX6_placeOf 67 = .ok (.iadd, 1) := by decide +kernel
theorem dX6_placeOf_68 : decode cX6_placeOf 68 = .ok (.bipush 7, 2) := by decide +kernel
theorem dX6_placeOf_70 : decode cX6_placeOf 70 = .ok (.isub, 1) := by decide +kernel
theorem dX6_placeOf_71 : decode cX6_placeOf 71 = .ok (.goto 4, 3) := by decide +kernel
theorem dX6_placeOf_74 : decode cX6_placeOf 74 = .ok (.iconst (-1), 1) := by decide +kernel
theorem dX6_placeOf_75 : decode cX6_placeOf 75 = .ok (.ireturn, 1) := by decide +kernel
theorem dX6_isWithin_0 : decode cX6_isWithin 0 = .ok (.iload_n 1, 1) := by decide +kernel
theorem dX6_isWithin_1 : decode cX6_isWithin 1 = .ok (.ifCond .lt 31, 3) := by decide +kernel
theorem dX6_isWithin_4 : decode cX6_isWithin 4 = .ok (.iload_n 1, 1) := by decide +kernel
theorem dX6_isWithin_5 : decode cX6_isWithin 5 = .ok (.bipush 10, 2) := by decide +kernel
theorem dX6_isWithin_7 : decode cX6_isWithin 7 = .ok (.if_icmp .gt 25, 3) := by decide +kernel
theorem dX6_isWithin_10 : decode cX6_isWithin 10 = .ok (.iload_n 2, 1) := by decide +kernel
theorem dX6_isWithin_11 : decode cX6_isWithin 11 = .ok (.getstatic 26, 3) := by decide +kernel
theorem dX6_isWithin_14 : decode cX6_isWithin 14 = .ok (.iload_n 1, 1) := by decide +kernel
theorem dX6_isWithin_15 : decode cX6_isWithin 15 = .ok (.iaload, 1) := by decide +kernel
theorem dX6_isWithin_16 : decode cX6_isWithin 16 = .ok (.if_icmp .lt 16, 3) := by decide +kernel
theorem dX6_isWithin_19 : decode cX6_isWithin 19 = .ok (.iload_n 2, 1) := by decide +kernel
theorem dX6_isWithin_20 : decode cX6_isWithin 20 = .ok (.getstatic 29, 3) := by decide +kernel
theorem dX6_isWithin_23 : decode cX6_isWithin 23 = .ok (.iload_n 1, 1) := by decide +kernel
theorem dX6_isWithin_24 : decode cX6_isWithin 24 = .ok (.iaload, 1) := by decide +kernel
theorem dX6_isWithin_25 : decode cX6_isWithin 25 = .ok (.if_icmp .gt 7, 3) := by decide +kernel
theorem dX6_isWithin_28 : decode cX6_isWithin 28 = .ok (.iconst 1, 1) := by decide +kernel
theorem dX6_isWithin_29 : decode cX6_isWithin 29 = .ok (.goto 4, 3) := by decide +kernel
theorem dX6_isWithin_32 : decode cX6_isWithin 32 = .ok (.iconst 0, 1) := by decide +kernel
theorem dX6_isWithin_33 : decode cX6_isWithin 33 = .ok (.ireturn, 1) := by decide +kernel
theorem dX6_mayBe_0 : decode cX6_mayBe 0 = .ok (.aload_n 0, 1) := by decide +kernel
theorem dX6_mayBe_1 : decode cX6_mayBe 1 = .ok (.iload_n 2, 1) := by decide +kernel
theorem dX6_mayBe_2 : decode cX6_mayBe 2 = .ok (.iload_n 3, 1) := by decide +kernel
theorem dX6_mayBe_3 : decode cX6_mayBe 3 = .ok (.invokevirtual 32, 3) := by decide +kernel
theorem dX6_mayBe_6 : decode cX6_mayBe 6 = .ok (.ifCond .eq 21, 3) := by decide +kernel
theorem dX6_mayBe_9 : decode cX6_mayBe 9 = .ok (.iload_n 2, 1) := by decide +kernel
theorem dX6_mayBe_10 : decode cX6_mayBe 10 = .ok (.iconst 4, 1) := by decide +kernel
theorem dX6_mayBe_11 : decode cX6_mayBe 11 = .ok (.if_icmp .ne 12, 3) := by decide +kernel
theorem dX6_mayBe_14 : decode cX6_mayBe 14 = .ok (.aload_n 0, 1) := by decide +kernel
theorem dX6_mayBe_15 : decode cX6_mayBe 15 = .ok (.iload_n 3, 1) := by decide +kernel
theorem dX6_mayBe_16 : decode cX6_mayBe 16 = .ok (.iload_n 1, 1) := by decide +kernel
theorem dX6_mayBe_17 : decode cX6_mayBe 17 = .ok (.invokevirtual 36, 3) := by decide +kernel
theorem dX6_mayBe_20 : decode cX6_mayBe 20 = .ok (.ifCond .eq 7, 3) := by decide +kernel
theorem dX6_mayBe_23 : decode cX6_mayBe 23 = .ok (.iconst 1, 1) := by decide +kernel
theorem dX6_mayBe_24 : decode cX6_mayBe 24 = .ok (.goto 4, 3) := by decide +kernel
theorem dX6_mayBe_27 : decode cX6_mayBe 27 = .ok (.iconst 0, 1) := by decide +kernel
theorem dX6_mayBe_28 : decode cX6_mayBe 28 = .ok (.ireturn, 1) := by decide +kernel
theorem dX6_valueAt_0 : decode cX6_valueAt 0 = .ok (.iload_n 1, 1) := by decide +kernel
theorem dX6_valueAt_1 : decode cX6_valueAt 1 = .ok (.ifCond .lt 18, 3) := by decide +kernel
theorem dX6_valueAt_4 : decode cX6_valueAt 4 = .ok (.iload_n 1, 1) := by decide +kernel
theorem dX6_valueAt_5 : decode cX6_valueAt 5 = .ok (.bipush 61, 2) := by decide +kernel
theorem dX6_valueAt_7 : decode cX6_valueAt 7 = .ok (.if_icmp .ge 12, 3) := by decide +kernel
theorem dX6_valueAt_10 : decode cX6_valueAt 10 = .ok (.aload_n 0, 1) := by decide +kernel
theorem dX6_valueAt_11 : decode cX6_valueAt 11 = .ok (.getfield 11, 3) := by decide +kernel
theorem dX6_valueAt_14 : decode cX6_valueAt 14 = .ok (.iload_n 1, 1) := by decide +kernel
theorem dX6_valueAt_15 : decode cX6_valueAt 15 = .ok (.iaload, 1) := by decide +kernel
theorem dX6_valueAt_16 : decode cX6_valueAt 16 = .ok (.goto 4, 3) := by decide +kernel
theorem dX6_valueAt_19 : decode cX6_valueAt 19 = .ok (.iconst 0, 1) := by decide +kernel
theorem dX6_valueAt_20 : decode cX6_valueAt 20 = .ok (.ireturn, 1) := by decide +kernel
theorem dX6_setAt_0 : decode cX6_setAt 0 = .ok (.iload_n 1, 1) := by decide +kernel
theorem dX6_setAt_1 : decode cX6_setAt 1 = .ok (.ifCond .lt 16, 3) := by decide +kernel
theorem dX6_setAt_4 : decode cX6_setAt 4 = .ok (.iload_n 1, 1) := by decide +kernel
theorem dX6_setAt_5 : decode cX6_setAt 5 = .ok (.bipush 61, 2) := by decide +kernel
theorem dX6_setAt_7 : decode cX6_setAt 7 = .ok (.if_icmp .ge 10, 3) := by decide +kernel
theorem dX6_setAt_10 : decode cX6_setAt 10 = .ok (.aload_n 0, 1) := by decide +kernel
theorem dX6_setAt_11 : decode cX6_setAt 11 = .ok (.getfield 11, 3) := by decide +kernel
theorem dX6_setAt_14 : decode cX6_setAt 14 = .ok (.iload_n 1, 1) := by decide +kernel
theorem dX6_setAt_15 : decode cX6_setAt 15 = .ok (.iload_n 2, 1) := by decide +kernel
theorem dX6_setAt_16 : decode cX6_setAt 16 = .ok (.iastore, 1) := by decide +kernel
theorem dX6_setAt_17 : decode cX6_setAt 17 = .ok (.return_, 1) := by decide +kernel
theorem dX6_valueOf_0 : decode cX6_valueOf 0 = .ok (.aload_n 0, 1) := by decide +kernel
theorem dX6_valueOf_1 : decode cX6_valueOf 1 = .ok (.aload_n 0, 1) := by decide +kernel
theorem dX6_valueOf_2 : decode cX6_valueOf 2 = .ok (.iload_n 1, 1) := by decide +kernel
theorem dX6_valueOf_3 : decode cX6_valueOf 3 = .ok (.iload_n 2, 1) := by decide +kernel
theorem dX6_valueOf_4 : decode cX6_valueOf 4 = .ok (.invokevirtual 39, 3) := by decide +kernel
theorem dX6_valueOf_7 : decode cX6_valueOf 7 = .ok (.invokevirtual 43, 3) := by decide +kernel
theorem dX6_valueOf_10 : decode cX6_valueOf 10 = .ok (.ireturn, 1) := by decide +kernel
theorem dX6_bentFor_0 : decode cX6_bentFor 0 = .ok (.aload_n 0, 1) := by decide +kernel
theorem dX6_bentFor_1 : decode cX6_bentFor 1 = .ok (.iload_n 1, 1) := by decide +kernel
theorem dX6_bentFor_2 : decode cX6_bentFor 2 = .ok (.invokevirtual 19, 3) := by decide +kernel
theorem dX6_bentFor_5 : decode cX6_bentFor 5 = .ok (.ifCond .ne 5, 3) := by decide +kernel
theorem dX6_bentFor_8 : decode cX6_bentFor 8 = .ok (.iconst 0, 1) := by decide +kernel
theorem dX6_bentFor_9 : decode cX6_bentFor 9 = .ok (.ireturn, 1) := by decide +kernel
theorem dX6_bentFor_10 : decode cX6_bentFor 10 = .ok (.iload_n 1, 1) := by decide +kernel
theorem dX6_bentFor_11 : decode cX6_bentFor 11 = .ok (.bipush 6, 2) := by decide +kernel
theorem dX6_bentFor_13 : decode cX6_bentFor 13 = .ok (.imul, 1) := by decide +kernel
theorem dX6_bentFor_14 : decode cX6_bentFor 14 = .ok (.istore_n 3, 1) := by decide +kernel
theorem dX6_bentFor_15 : decode cX6_bentFor 15 = .ok (.aload_n 0, 1) := by decide +kernel
theorem dX6_bentFor_16 : decode cX6_bentFor 16 = .ok (.getfield 11, 3) := by decide +kernel
theorem dX6_bentFor_19 : decode cX6_bentFor 19 = .ok (.iload_n 3, 1) := by decide +kernel
theorem dX6_bentFor_20 : decode cX6_bentFor 20 = .ok (.iconst 4, 1) := by decide +kernel
theorem dX6_bentFor_21 : decode cX6_bentFor 21 = .ok (.iadd, 1) := by decide +kernel
theorem dX6_bentFor_22 : decode cX6_bentFor 22 = .ok (.iaload, 1) := by decide +kernel
theorem dX6_bentFor_23 : decode cX6_bentFor 23 = .ok (.iload_n 2, 1) := by decide +kernel
theorem dX6_bentFor_24 : decode cX6_bentFor 24 = .ok (.if_icmp .ne 7, 3) := by decide +kernel
theorem dX6_bentFor_27 : decode cX6_bentFor 27 = .ok (.iconst 1, 1) := by decide +kernel
theorem dX6_bentFor_28 : decode cX6_bentFor 28 = .ok (.goto 11, 3) := by decide +kernel
theorem dX6_bentFor_31 : decode cX6_bentFor 31 = .ok (.aload_n 0, 1) := by decide +kernel
theorem dX6_bentFor_32 : decode cX6_bentFor 32 = .ok (.getfield 11, 3) := by decide +kernel
theorem dX6_bentFor_35 : decode cX6_bentFor 35 = .ok (.iload_n 3, 1) := by decide +kernel
theorem dX6_bentFor_36 : decode cX6_bentFor 36 = .ok (.iconst 3, 1) := by decide +kernel
theorem dX6_bentFor_37 : decode cX6_bentFor 37 = .ok (.iadd, 1) := by decide +kernel
theorem dX6_bentFor_38 : decode cX6_bentFor 38 = .ok (.iaload, 1) := by decide +kernel
theorem dX6_bentFor_39 : decode cX6_bentFor 39 = .ok (.ireturn, 1) := by decide +kernel
theorem dX6_welcome_0 : decode cX6_welcome 0 = .ok (.aload_n 0, 1) := by decide +kernel
theorem dX6_welcome_1 : decode cX6_welcome 1 = .ok (.iconst 0, 1) := by decide +kernel
theorem dX6_welcome_2 : decode cX6_welcome 2 = .ok (.iload_n 1, 1) := by decide +kernel
theorem dX6_welcome_3 : decode cX6_welcome 3 = .ok (.invokevirtual 32, 3) := by decide +kernel
theorem dX6_welcome_6 : decode cX6_welcome 6 = .ok (.ifCond .eq 21, 3) := by decide +kernel
theorem dX6_welcome_9 : decode cX6_welcome 9 = .ok (.aload_n 0, 1) := by decide +kernel
theorem dX6_welcome_10 : decode cX6_welcome 10 = .ok (.iconst 1, 1) := by decide +kernel
theorem dX6_welcome_11 : decode cX6_welcome 11 = .ok (.iload_n 2, 1) := by decide +kernel
theorem dX6_welcome_12 : decode cX6_welcome 12 = .ok (.invokevirtual 32, 3) := by decide +kernel
theorem dX6_welcome_15 : decode cX6_welcome 15 = .ok (.ifCond .eq 12, 3) := by decide +kernel
theorem dX6_welcome_18 : decode cX6_welcome 18 = .ok (.aload_n 0, 1) := by decide +kernel
theorem dX6_welcome_19 : decode cX6_welcome 19 = .ok (.iconst 5, 1) := by decide +kernel
theorem dX6_welcome_20 : decode cX6_welcome 20 = .ok (.iload_n 3, 1) := by decide +kernel
theorem dX6_welcome_21 : decode cX6_welcome 21 = .ok (.invokevirtual 32, 3) := by decide +kernel
theorem dX6_welcome_24 : decode cX6_welcome 24 = .ok (.ifCond .ne 5, 3) := by decide +kernel
theorem dX6_welcome_27 : decode cX6_welcome 27 = .ok (.iconst (-1), 1) := by decide +kernel
theorem dX6_welcome_28 : decode cX6_welcome 28 = .ok (.ireturn, 1) := by decide +kernel
theorem dX6_welcome_29 : decode cX6_welcome 29 = .ok (.aload_n 0, 1) := by decide +kernel
theorem dX6_welcome_30 : decode cX6_welcome 30 = .ok (.getfield 15, 3) := by decide +kernel
theorem dX6_welcome_33 : decode cX6_welcome 33 = .ok (.bipush 9, 2) := by decide +kernel
theorem dX6_welcome_35 : decode cX6_welcome 35 = .ok (.if_icmp .lt 6, 3) := by decide +kernel
theorem dX6_welcome_38 : decode cX6_welcome 38 = .ok (.bipush (-3), 2) := by decide +kernel
theorem dX6_welcome_40 : decode cX6_welcome 40 = .ok (.ireturn, 1) := by decide +kernel
theorem dX6_welcome_41 : decode cX6_welcome 41 = .ok (.aload_n 0, 1) := by decide +kernel
theorem dX6_welcome_42 : decode cX6_welcome 42 = .ok (.getfield 15, 3) := by decide +kernel
theorem dX6_welcome_45 : decode cX6_welcome 45 = .ok (.istore 4, 2) := by decide +kernel
theorem dX6_welcome_47 : decode cX6_welcome 47 = .ok (.aload_n 0, 1) := by decide +kernel
theorem dX6_welcome_48 : decode cX6_welcome 48 = .ok (.dup, 1) := by decide +kernel
theorem dX6_welcome_49 : decode cX6_welcome 49 = .ok (.getfield 15, 3) := by decide +kernel
theorem dX6_welcome_52 : decode cX6_welcome 52 = .ok (.iconst 1, 1) := by decide +kernel
theorem dX6_welcome_53 : decode cX6_welcome 53 = .ok (.iadd, 1) := by decide +kernel
theorem dX6_welcome_54 : decode cX6_welcome 54 = .ok (.putfield 15, 3) := by decide +kernel
theorem dX6_welcome_57 : decode cX6_welcome 57 = .ok (.aload_n 0, 1) := by decide +kernel
theorem dX6_welcome_58 : decode cX6_welcome 58 = .ok (.aload_n 0, 1) := by decide +kernel
theorem dX6_welcome_59 : decode cX6_welcome 59 = .ok (.iload 4, 2) := by decide +kernel
theorem dX6_welcome_61 : decode cX6_welcome 61 = .ok (.iconst 0, 1) := by decide +kernel
theorem dX6_welcome_62 : decode cX6_welcome 62 = .ok (.invokevirtual 39, 3) := by decide +kernel
theorem dX6_welcome_65 : decode cX6_welcome 65 = .ok (.iload_n 1, 1) := by decide +kernel
theorem dX6_welcome_66 : decode cX6_welcome 66 = .ok (.invokevirtual 47, 3) := by decide +kernel
theorem dX6_welcome_69 : decode cX6_welcome 69 = .ok (.aload_n 0, 1) := by decide +kernel
theorem dX6_welcome_70 : decode cX6_welcome 70 = .ok (.aload_n 0, 1) := by decide +kernel
theorem dX6_welcome_71 : decode cX6_welcome 71 = .ok (.iload 4, 2) := by decide +kernel
theorem dX6_welcome_73 : decode cX6_welcome 73 = .ok (.iconst 1, 1) := by decide +kernel
theorem dX6_welcome_74 : decode cX6_welcome 74 = .ok (.invokevirtual 39, 3) := by decide +kernel
theorem dX6_welcome_77 : decode cX6_welcome 77 = .ok (.iload_n 2, 1) := by decide +kernel
theorem dX6_welcome_78 : decode cX6_welcome 78 = .ok (.invokevirtual 47, 3) := by decide +kernel
theorem dX6_welcome_81 : decode cX6_welcome 81 = .ok (.aload_n 0, 1) := by decide +kernel
theorem dX6_welcome_82 : decode cX6_welcome 82 = .ok (.aload_n 0, 1) := by decide +kernel
theorem dX6_welcome_83 : decode cX6_welcome 83 = .ok (.iload 4, 2) := by decide +kernel
theorem dX6_welcome_85 : decode cX6_welcome 85 = .ok (.iconst 2, 1) := by decide +kernel
theorem dX6_welcome_86 : decode cX6_welcome 86 = .ok (.invokevirtual 39, 3) := by decide +kernel
theorem dX6_welcome_89 : decode cX6_welcome 89 = .ok (.bipush 9, 2) := by decide +kernel
theorem dX6_welcome_91 : decode cX6_welcome 91 = .ok (.invokevirtual 47, 3) := by decide +kernel
theorem dX6_welcome_94 : decode cX6_welcome 94 = .ok (.aload_n 0, 1) := by decide +kernel
theorem dX6_welcome_95 : decode cX6_welcome 95 = .ok (.aload_n 0, 1) := by decide +kernel
theorem dX6_welcome_96 : decode cX6_welcome 96 = .ok (.iload 4, 2) := by decide +kernel
theorem dX6_welcome_98 : decode cX6_welcome 98 = .ok (.iconst 3, 1) := by decide +kernel
theorem dX6_welcome_99 : decode cX6_welcome 99 = .ok (.invokevirtual 39, 3) := by decide +kernel
theorem dX6_welcome_102 : decode cX6_welcome 102 = .ok (.iconst 0, 1) := by decide +kernel
theorem dX6_welcome_103 : decode cX6_welcome 103 = .ok (.invokevirtual 47, 3) := by decide +kernel
theorem dX6_welcome_106 : decode cX6_welcome 106 = .ok (.aload_n 0, 1) := by decide +kernel
theorem dX6_welcome_107 : decode cX6_welcome 107 = .ok (.aload_n 0, 1) := by decide +kernel
theorem dX6_welcome_108 : decode cX6_welcome 108 = .ok (.iload 4, 2) := by decide +kernel
theorem dX6_welcome_110 : decode cX6_welcome 110 = .ok (.iconst 4, 1) := by decide +kernel
theorem dX6_welcome_111 : decode cX6_welcome 111 = .ok (.invokevirtual 39, 3) := by decide +kernel
theorem dX6_welcome_114 : decode cX6_welcome 114 = .ok (.bipush 9, 2) := by decide +kernel
theorem dX6_welcome_116 : decode cX6_welcome 116 = .ok (.invokevirtual 47, 3) := by decide +kernel
theorem dX6_welcome_119 : decode cX6_welcome 119 = .ok (.aload_n 0, 1) := by decide +kernel
theorem dX6_welcome_120 : decode cX6_welcome 120 = .ok (.aload_n 0, 1) := by decide +kernel
theorem dX6_welcome_121 : decode cX6_welcome 121 = .ok (.iload 4, 2) := by decide +kernel
theorem dX6_welcome_123 : decode cX6_welcome 123 = .ok (.iconst 5, 1) := by decide +kernel
theorem dX6_welcome_124 : decode cX6_welcome 124 = .ok (.invokevirtual 39, 3) := by decide +kernel
theorem dX6_welcome_127 : decode cX6_welcome 127 = .ok (.iload_n 3, 1) := by decide +kernel
theorem dX6_welcome_128 : decode cX6_welcome 128 = .ok (.invokevirtual 47, 3) := by decide +kernel
theorem dX6_welcome_131 : decode cX6_welcome 131 = .ok (.iload 4, 2) := by decide +kernel
theorem dX6_welcome_133 : decode cX6_welcome 133 = .ok (.ireturn, 1) := by decide +kernel
theorem dX6_waitingBehind_0 : decode cX6_waitingBehind 0 = .ok (.iconst 0, 1) := by decide +kernel
theorem dX6_waitingBehind_1 : decode cX6_waitingBehind 1 = .ok (.istore_n 3, 1) := by decide +kernel
theorem dX6_waitingBehind_2 : decode cX6_waitingBehind 2 = .ok (.iconst 0, 1) := by decide +kernel
theorem dX6_waitingBehind_3 : decode cX6_waitingBehind 3 = .ok (.istore 4, 2) := by decide +kernel
theorem dX6_waitingBehind_5 : decode cX6_waitingBehind 5 = .ok (.iload 4, 2) := by decide +kernel
theorem dX6_waitingBehind_7 : decode cX6_waitingBehind 7 = .ok (.aload_n 0, 1) := by decide +kernel
theorem dX6_waitingBehind_8 : decode cX6_waitingBehind 8 = .ok (.getfield 15, 3) := by decide +kernel
theorem dX6_waitingBehind_11 : decode cX6_waitingBehind 11 = .ok (.if_icmp .ge 29, 3) := by decide +kernel
theorem dX6_waitingBehind_14 : decode cX6_waitingBehind 14 = .ok (.iload 4, 2) := by decide +kernel
theorem dX6_waitingBehind_16 : decode cX6_waitingBehind 16 = .ok (.iload_n 2, 1) := by decide +kernel
theorem dX6_waitingBehind_17 : decode cX6_waitingBehind 17 = .ok (.if_icmp .eq 17, 3) := by decide +kernel
theorem dX6_waitingBehind_20 : decode cX6_waitingBehind 20 = .ok (.aload_n 0, 1) := by decide +kernel
theorem dX6_waitingBehind_21 : decode cX6_waitingBehind 21 = .ok (.iload 4, 2) := by decide +kernel
theorem dX6_waitingBehind_23 : decode cX6_waitingBehind 23 = .ok (.iconst 5, 1) := by decide +kernel
theorem dX6_waitingBehind_24 : decode cX6_waitingBehind 24 = .ok (.invokevirtual 51, 3) := by decide +kernel
theorem dX6_waitingBehind_27 : decode cX6_waitingBehind 27 = .ok (.iload_n 1, 1) := by decide +kernel
theorem dX6_waitingBehind_28 : decode cX6_waitingBehind 28 = .ok (.if_icmp .ne 6, 3) := by decide +kernel
theorem dX6_waitingBehind_31 : decode cX6_waitingBehind 31 = .ok (.iinc 3 1, 3) := by decide +kernel
theorem dX6_waitingBehind_34 : decode cX6_waitingBehind 34 = .ok (.iinc 4 1, 3) := by decide +kernel
theorem dX6_waitingBehind_37 : decode cX6_waitingBehind 37 = .ok (.goto (-32), 3) := by decide +kernel
theorem dX6_waitingBehind_40 : decode cX6_waitingBehind 40 = .ok (.iload_n 3, 1) := by decide +kernel
theorem dX6_waitingBehind_41 : decode cX6_waitingBehind 41 = .ok (.ireturn, 1) := by decide +kernel
theorem dX7_init_0 : decode cX7_init 0 = .ok (.aload_n 0, 1) := by decide +kernel
theorem dX7_init_1 : decode cX7_init 1 = .ok (.invokespecial 1, 3) := by decide +kernel
theorem dX7_init_4 : decode cX7_init 4 = .ok (.aload_n 0, 1) := by decide +kernel
theorem dX7_init_5 : decode cX7_init 5 = .ok (.bipush 25, 2) := by decide +kernel
theorem dX7_init_7 : decode cX7_init 7 = .ok (.newarray .int, 2) := by decide +kernel
theorem dX7_init_9 : decode cX7_init 9 = .ok (.putfield 9, 3) := by decide +kernel
theorem dX7_init_12 : decode cX7_init 12 = .ok (.aload_n 0, 1) := by decide +kernel
theorem dX7_init_13 : decode cX7_init 13 = .ok (.iconst 5, 1) := by decide +kernel
theorem dX7_init_14 : decode cX7_init 14 = .ok (.newarray .int, 2) := by decide +kernel
theorem dX7_init_16 : decode cX7_init 16 = .ok (.putfield 13, 3) := by decide +kernel
theorem dX7_init_19 : decode cX7_init 19 = .ok (.aload_n 0, 1) := by decide +kernel
theorem dX7_init_20 : decode cX7_init 20 = .ok (.iconst 5, 1) := by decide +kernel
theorem dX7_init_21 : decode cX7_init 21 = .ok (.newarray .int, 2) := by decide +kernel
theorem dX7_init_23 : decode cX7_init 23 = .ok (.putfield 16, 3) := by decide +kernel
theorem dX7_init_26 : decode cX7_init 26 = .ok (.return_, 1) := by decide +kernel
theorem dX7_begin_0 : decode cX7_begin 0 = .ok (.aload_n 0, 1) := by decide +kernel
theorem dX7_begin_1 : decode cX7_begin 1 = .ok (.iload_n 1, 1) := by decide +kernel
theorem dX7_begin_2 : decode cX7_begin 2 = .ok (.iconst 5, 1) := by decide +kernel
theorem dX7_begin_3 : decode cX7_begin 3 = .ok (.invokestatic 19, 3) := by decide +kernel
theorem dX7_begin_6 : decode cX7_begin 6 = .ok (.putfield 25, 3) := by decide +kernel
theorem dX7_begin_9 : decode cX7_begin 9 = .ok (.iconst 0, 1) := by decide +kernel
theorem dX7_begin_10 : decode cX7_begin 10 = .ok (.istore_n 2, 1) := by decide +kernel
theorem dX7_begin_11 : decode cX7_begin 11 = .ok (.iload_n 2, 1) := by decide +kernel
theorem dX7_begin_12 : decode cX7_begin 12 = .ok (.aload_n 0, 1) := by decide +kernel
theorem dX7_begin_13 : decode cX7_begin 13 = .ok (.getfield 25, 3) := by decide +kernel
theorem dX7_begin_16 : decode cX7_begin 16 = .ok (.if_icmp .ge 16, 3) := by decide +kernel
theorem dX7_begin_19 : decode cX7_begin 19 = .ok (.aload_n 0, 1) := by decide +kernel
theorem dX7_begin_20 : decode cX7_begin 20 = .ok (.getfield 13, 3) := by decide +kernel
theorem dX7_begin_23 : decode cX7_begin 23 = .ok (.iload_n 2, 1) := by decide +kernel
theorem dX7_begin_24 : decode cX7_begin 24 = .ok (.iload_n 2, 1) := by decide +kernel
theorem dX7_begin_25 : decode cX7_begin 25 = .ok (.iastore, 1) := by decide +kernel
theorem dX7_begin_26 : decode cX7_begin 26 = .ok (.iinc 2 1, 3) := by decide +kernel
theorem dX7_begin_29 : decode cX7_begin 29 = .ok (.goto (-18), 3) := by decide +kernel
theorem dX7_begin_32 : decode cX7_begin 32 = .ok (.return_, 1) := by decide +kernel
theorem dX7_seek_0 : decode cX7_seek 0 = .ok (.iconst 1, 1) := by decide +kernel
theorem dX7_seek_1 : decode cX7_seek 1 = .ok (.istore_n 1, 1) := by decide +kernel
theorem dX7_seek_2 : decode cX7_seek 2 = .ok (.iconst 0, 1) := by decide +kernel
theorem dX7_seek_3 : decode cX7_seek 3 = .ok (.istore_n 2, 1) := by decide +kernel
theorem dX7_seek_4 : decode cX7_seek 4 = .ok (.iload_n 2, 1) := by decide +kernel
theorem dX7_seek_5 : decode cX7_seek 5 = .ok (.bipush 120, 2) := by decide +kernel
theorem dX7_seek_7 : decode cX7_seek 7 = .ok (.if_icmp .ge 57, 3) := by decide +kernel
theorem dX7_seek_10 : decode cX7_seek 10 = .ok (.iload_n 1, 1) := by decide +kernel
theorem dX7_seek_11 : decode cX7_seek 11 = .ok (.ifCond .eq 53, 3) := by decide +kernel
theorem dX7_seek_14 : decode cX7_seek 14 = .ok (.aload_n 0, 1) := by decide +kernel
theorem dX7_seek_15 : decode cX7_seek 15 = .ok (.invokevirtual 29, 3) := by decide +kernel
theorem dX7_seek_18 : decode cX7_seek 18 = .ok (.istore_n 3, 1) := by decide +kernel
theorem dX7_seek_19 : decode cX7_seek 19 = .ok (.iload_n 2, 1) := by decide +kernel
theorem dX7_seek_20 : decode cX7_seek 20 = .ok (.ifCond .eq 11, 3) := by decide +kernel
theorem dX7_seek_23 : decode cX7_seek 23 = .ok (.iload_n 3, 1) := by decide +kernel
theorem dX7_seek_24 : decode cX7_seek 24 = .ok (.aload_n 0, 1) := by decide +kernel
theorem dX7_seek_25 : decode cX7_seek 25 = .ok (.getfield 33, 3) := by decide +kernel
theorem dX7_seek_28 : decode cX7_seek 28 = .ok (.if_icmp .ge 25, 3) := by decide +kernel
theorem dX7_seek_31 : decode cX7_seek 31 = .ok (.aload_n 0, 1) := by decide +kernel
theorem dX7_seek_32 : decode cX7_seek 32 = .ok (.iload_n 3, 1) := by decide +kernel
theorem dX7_seek_33 : decode cX7_seek 33 = .ok (.putfield 33, 3) := by decide +kernel
theorem dX7_seek_36 : decode cX7_seek 36 = .ok (.aload_n 0, 1) := by decide +kernel
theorem dX7_seek_37 : decode cX7_seek 37 = .ok (.getfield 13, 3) := by decide +kernel
theorem dX7_seek_40 : decode cX7_seek 40 = .ok (.iconst 0, 1) := by decide +kernel
theorem dX7_seek_41 : decode cX7_seek 41 = .ok (.aload_n 0, 1) := by decide +kernel
theorem dX7_seek_42 : decode cX7_seek 42 = .ok (.getfield 16, 3) := by decide +kernel
theorem dX7_seek_45 : decode cX7_seek 45 = .ok (.iconst 0, 1) := by decide +kernel
theorem dX7_seek_46 : decode cX7_seek 46 = .ok (.aload_n 0, 1) := by decide +kernel
theorem dX7_seek_47 : decode cX7_seek 47 = .ok (.getfield 25, 3) := by decide +kernel
theorem dX7_seek_50 : decode cX7_seek 50 = .ok (.invokestatic 36, 3) := by decide +kernel
theorem dX7_seek_53 : decode cX7_seek 53 = .ok (.aload_n 0, 1) := by decide +kernel
theorem dX7_seek_54 : decode cX7_seek 54 = .ok (.invokevirtual 42, 3) := by decide +kernel
theorem dX7_seek_57 : decode cX7_seek 57 = .ok (.istore_n 1, 1) := by decide +kernel
theorem dX7_seek_58 : decode cX7_seek 58 = .ok (.iinc 2 1, 3) := by decide +kernel
theorem dX7_seek_61 : decode cX7_seek 61 = .ok (.goto (-57), 3) := by decide +kernel
theorem dX7_seek_64 : decode cX7_seek 64 = .ok (.return_, 1) := by decide +kernel
theorem dX7_foundAt_0 : decode cX7_foundAt 0 = .ok (.iload_n 1, 1) := by decide +kernel
theorem dX7_foundAt_1 : decode cX7_foundAt 1 = .ok (.ifCond .lt 20, 3) := by decide +kernel
theorem dX7_foundAt_4 : decode cX7_foundAt 4 = .ok (.iload_n 1, 1) := by decide +kernel
theorem dX7_foundAt_5 : decode cX7_foundAt 5 = .ok (.aload_n 0, 1) := by decide +kernel
theorem dX7_foundAt_6 : decode cX7_foundAt 6 = .ok (.getfield 25, 3) := by decide +kernel
theorem dX7_foundAt_9 : decode cX7_foundAt 9 = .ok (.if_icmp .ge 12, 3) := by decide +kernel
theorem dX7_foundAt_12 : decode cX7_foundAt 12 = .ok (.aload_n 0, 1) := by decide +kernel
theorem dX7_foundAt_13 : decode cX7_foundAt 13 = .ok (.getfield 16, 3) := by decide +kernel
theorem dX7_foundAt_16 : decode cX7_foundAt 16 = .ok (.iload_n 1, 1) := by decide +kernel
theorem dX7_foundAt_17 : decode cX7_foundAt 17 = .ok (.iaload, 1) := by decide +kernel
theorem dX7_foundAt_18 : decode cX7_foundAt 18 = .ok (.goto 4, 3) := by decide +kernel
theorem dX7_foundAt_21 : decode cX7_foundAt 21 = .ok (.iconst 0, 1) := by decide +kernel
theorem dX7_foundAt_22 : decode cX7_foundAt 22 = .ok (.ireturn, 1) := by decide +kernel
theorem dX7_waitsTogether_0 : decode cX7_waitsTogether 0 = .ok (.iconst 0, 1) := by decide +kernel
theorem dX7_waitsTogether_1 : decode cX7_waitsTogether 1 = .ok (.istore_n 1, 1) := by decide +kernel
theorem dX7_waitsTogether_2 : decode cX7_waitsTogether 2 = .ok (.iconst 0, 1) := by decide +kernel
theorem dX7_waitsTogether_3 : decode cX7_waitsTogether 3 = .ok (.istore_n 2, 1) := by decide +kernel
theorem dX7_waitsTogether_4 : decode cX7_waitsTogether 4 = .ok (.iload_n 2, 1) := by decide +kernel
theorem dX7_waitsTogether_5 : decode cX7_waitsTogether 5 = .ok (.iconst 1, 1) := by decide +kernel
theorem dX7_waitsTogether_6 : decode cX7_waitsTogether 6 = .ok (.iadd, 1) := by decide +kernel
theorem dX7_waitsTogether_7 : decode cX7_waitsTogether 7 = .ok (.aload_n 0, 1) := by decide +kernel
theorem dX7_waitsTogether_8 : decode cX7_waitsTogether 8 = .ok (.getfield 25, 3) := by decide +kernel
theorem dX7_waitsTogether_11 : decode cX7_waitsTogether 11 = .ok (.if_icmp .ge 43, 3) := by decide +kernel
theorem dX7_waitsTogether_14 : decode cX7_waitsTogether 14 = .ok (.iload_n 1, 1) := by decide +kernel
theorem dX7_waitsTogether_15 : decode cX7_waitsTogether 15 = .ok (.aload_n 0, 1) := by decide +kernel
theorem dX7_waitsTogether_16 : decode cX7_waitsTogether 16 = .ok (.getfield 25, 3) := by decide +kernel
theorem dX7_waitsTogether_19 : decode cX7_waitsTogether 19 = .ok (.iconst 1, 1) := by decide +kernel
theorem dX7_waitsTogether_20 : decode cX7_waitsTogether 20 = .ok (.isub, 1) := by decide +kernel
theorem dX7_waitsTogether_21 : decode cX7_waitsTogether 21 = .ok (.iload_n 2, 1) := by decide +kernel
theorem dX7_waitsTogether_22 : decode cX7_waitsTogether 22 = .ok (.isub, 1) := by decide +kernel
theorem dX7_waitsTogether_23 : decode cX7_waitsTogether 23 = .ok (.aload_n 0, 1) := by decide +kernel
theorem dX7_waitsTogether_24 : decode cX7_waitsTogether 24 = .ok (.getfield 9, 3) := by decide +kernel
theorem dX7_waitsTogether_27 : decode cX7_waitsTogether 27 = .ok (.aload_n 0, 1) := by decide +kernel
theorem dX7_waitsTogether_28 : decode cX7_waitsTogether 28 = .ok (.getfield 13, 3) := by decide +kernel
theorem dX7_waitsTogether_31 : decode cX7_waitsTogether 31 = .ok (.iload_n 2, 1) := by decide +kernel
theorem dX7_waitsTogether_32 : decode cX7_waitsTogether 32 = .ok (.iaload, 1) := by decide +kernel
theorem dX7_waitsTogether_33 : decode cX7_waitsTogether 33 = .ok (.iconst 5, 1) := by decide +kernel
theorem dX7_waitsTogether_34 : decode cX7_waitsTogether 34 = .ok (.imul, 1) := by decide +kernel
theorem dX7_waitsTogether_35 : decode cX7_waitsTogether 35 = .ok (.aload_n 0, 1) := by decide +kernel
theorem dX7_waitsTogether_36 : decode cX7_waitsTogether 36 = .ok (.getfield 13, 3) := by decide +kernel
theorem dX7_waitsTogether_39 : decode cX7_waitsTogether 39 = .ok (.iload_n 2, 1) := by decide +kernel
theorem dX7_waitsTogether_40 : decode cX7_waitsTogether 40 = .ok (.iconst 1, 1) := by decide +kernel
theorem dX7_waitsTogether_41 : decode cX7_waitsTogether 41 = .ok (.iadd, 1) := by decide +kernel
theorem dX7_waitsTogether_42 : decode cX7_waitsTogether 42 = .ok (.iaload, 1) := by decide +kernel
theorem dX7_waitsTogether_43 : decode cX7_waitsTogether 43 = .ok (.iadd, 1) := by decide +kernel
theorem dX7_waitsTogether_44 : decode cX7_waitsTogether 44 = .ok (.iaload, 1) := by decide +kernel
theorem dX7_waitsTogether_45 : decode cX7_waitsTogether 45 = .ok (.imul, 1) := by decide +kernel
theorem dX7_waitsTogether_46 : decode cX7_waitsTogether 46 = .ok (.iadd, 1) := by decide +kernel
theorem dX7_waitsTogether_47 : decode cX7_waitsTogether 47 = .ok (.istore_n 1, 1) := by decide +kernel
theorem dX7_waitsTogether_48 : decode cX7_waitsTogether 48 = .ok (.iinc 2 1, 3) := by decide +kernel
theorem dX7_waitsTogether_51 : decode cX7_waitsTogether 51 = .ok (.goto (-47), 3) := by decide +kernel
theorem dX7_waitsTogether_54 : decode cX7_waitsTogether 54 = .ok (.iload_n 1, 1) := by decide +kernel
theorem dX7_waitsTogether_55 : decode cX7_waitsTogether 55 = .ok (.ireturn, 1) := by decide +kernel
theorem dX7_goOn_0 : decode cX7_goOn 0 = .ok (.aload_n 0, 1) := by decide +kernel
theorem dX7_goOn_1 : decode cX7_goOn 1 = .ok (.getfield 25, 3) := by decide +kernel
theorem dX7_goOn_4 : decode cX7_goOn 4 = .ok (.iconst 2, 1) := by decide +kernel
theorem dX7_goOn_5 : decode cX7_goOn 5 = .ok (.isub, 1) := by decide +kernel
theorem dX7_goOn_6 : decode cX7_goOn 6 = .ok (.istore_n 1, 1) := by decide +kernel
theorem dX7_goOn_7 : decode cX7_goOn 7 = .ok (.iload_n 1, 1) := by decide +kernel
theorem dX7_goOn_8 : decode cX7_goOn 8 = .ok (.ifCond .lt 26, 3) := by decide +kernel
theorem dX7_goOn_11 : decode cX7_goOn 11 = .ok (.aload_n 0, 1) := by decide +kernel
theorem dX7_goOn_12 : decode cX7_goOn 12 = .ok (.getfield 13, 3) := by decide +kernel
theorem dX7_goOn_15 : decode cX7_goOn 15 = .ok (.iload_n 1, 1) := by decide +kernel
theorem dX7_goOn_16 : decode cX7_goOn 16 = .ok (.iaload, 1) := by decide +kernel
theorem dX7_goOn_17 : decode cX7_goOn 17 = .ok (.aload_n 0, 1) := by decide +kernel
theorem dX7_goOn_18 : decode cX7_goOn 18 = .ok (.getfield 13, 3) := by decide +kernel
theorem dX7_goOn_21 : decode cX7_goOn 21 = .ok (.iload_n 1, 1) := by decide +kernel
theorem dX7_goOn_22 : decode cX7_goOn 22 = .ok (.iconst 1, 1) := by decide +kernel
theorem dX7_goOn_23 : decode cX7_goOn 23 = .ok (.iadd, 1) := by decide +kernel
theorem dX7_goOn_24 : decode cX7_goOn 24 = .ok (.iaload, 1) := by decide +kernel
theorem dX7_goOn_25 : decode cX7_goOn 25 = .ok (.if_icmp .le 9, 3) := by decide +kernel
theorem dX7_goOn_28 : decode cX7_goOn 28 = .ok (.iinc 1 (-1), 3) := by decide +kernel
theorem dX7_goOn_31 : decode cX7_goOn 31 = .ok (.goto (-24), 3) := by decide +kernel
theorem dX7_goOn_34 : decode cX7_goOn 34 = .ok (.iload_n 1, 1) := by decide +kernel
theorem dX7_goOn_35 : decode cX7_goOn 35 = .ok (.ifCond .ge 5, 3) := by decide +kernel
theorem dX7_goOn_38 : decode cX7_goOn 38 = .ok (.iconst 0, 1) := by decide +kernel
theorem dX7_goOn_39 : decode cX7_goOn 39 = .ok (.ireturn, 1) := by decide +kernel
theorem dX7_goOn_40 : decode cX7_goOn 40 = .ok (.aload_n 0, 1) := by decide +kernel
theorem dX7_goOn_41 : decode cX7_goOn 41 = .ok (.getfield 25, 3) := by decide +kernel
theorem dX7_goOn_44 : decode cX7_goOn 44 = .ok (.iconst 1, 1) := by decide +kernel
theorem dX7_goOn_45 : decode cX7_goOn 45 = .ok (.isub, 1) := by decide +kernel
theorem dX7_goOn_46 : decode cX7_goOn 46 = .ok (.istore_n 2, 1) := by decide +kernel
theorem dX7_goOn_47 : decode cX7_goOn 47 = .ok (.iload_n 2, 1) := by decide +kernel
theorem dX7_goOn_48 : decode cX7_goOn 48 = .ok (.iload_n 1, 1) := by decide +kernel
theorem dX7_goOn_49 : decode cX7_goOn 49 = .ok (.if_icmp .le 24, 3) := by decide +kernel
theorem dX7_goOn_52 : decode cX7_goOn 52 = .ok (.aload_n 0, 1) := by decide +kernel
theorem dX7_goOn_53 : decode cX7_goOn 53 = .ok (.getfield 13, 3) := by decide +kernel
theorem dX7_goOn_56 : decode cX7_goOn 56 = .ok (.iload_n 2, 1) := by decide +kernel
theorem dX7_goOn_57 : decode cX7_goOn 57 = .ok (.iaload, 1) := by decide +kernel
theorem dX7_goOn_58 : decode cX7_goOn 58 = .ok (.aload_n 0, 1) := by decide +kernel
theorem dX7_goOn_59 : decode cX7_goOn 59 = .ok (.getfield 13, 3) := by decide +kernel
theorem dX7_goOn_62 : decode cX7_goOn 62 = .ok (.iload_n 1, 1) := by decide +kernel
theorem dX7_goOn_63 : decode cX7_goOn 63 = .ok (.iaload, 1) := by decide +kernel
theorem dX7_goOn_64 : decode cX7_goOn 64 = .ok (.if_icmp .ge 9, 3) := by decide +kernel
theorem dX7_goOn_67 : decode cX7_goOn 67 = .ok (.iinc 2 (-1), 3) := by decide +kernel
theorem dX7_goOn_70 : decode cX7_goOn 70 = .ok (.goto (-23), 3) := by decide +kernel
theorem dX7_goOn_73 : decode cX7_goOn 73 = .ok (.aload_n 0, 1) := by decide +kernel
theorem dX7_goOn_74 : decode cX7_goOn 74 = .ok (.iload_n 1, 1) := by decide +kernel
theorem dX7_goOn_75 : decode cX7_goOn 75 = .ok (.iload_n 2, 1) := by decide +kernel
theorem dX7_goOn_76 : decode cX7_goOn 76 = .ok (.invokevirtual 46, 3) := by decide +kernel
theorem dX7_goOn_79 : decode cX7_goOn 79 = .ok (.iload_n 1, 1) := by decide +kernel
theorem dX7_goOn_80 : decode cX7_goOn 80 = .ok (.iconst 1, 1) := by decide +kernel
theorem dX7_goOn_81 : decode cX7_goOn 81 = .ok (.iadd, 1) := by decide +kernel
theorem dX7_goOn_82 : decode cX7_goOn 82 = .ok (.istore_n 3, 1) := by decide +kernel
theorem dX7_goOn_83 : decode cX7_goOn 83 = .ok (.aload_n 0, 1) := by decide +kernel
theorem dX7_goOn_84 : decode cX7_goOn 84 = .ok (.getfield 25, 3) := by decide +kernel
theorem dX7_goOn_87 : decode cX7_goOn 87 = .ok (.iconst 1, 1) := by decide +kernel
theorem dX7_goOn_88 : decode cX7_goOn 88 = .ok (.isub, 1) := by decide +kernel
theorem dX7_goOn_89 : decode cX7_goOn 89 = .ok (.istore 4, 2) := by decide +kernel
theorem dX7_goOn_91 : decode cX7_goOn 91 = .ok (.iload_n 3, 1) := by decide +kernel
theorem dX7_goOn_92 : decode cX7_goOn 92 = .ok (.iload 4, 2) := by decide +kernel
theorem dX7_goOn_94 : decode cX7_goOn 94 = .ok (.if_icmp .ge 19, 3) := by decide +kernel
theorem dX7_goOn_97 : decode cX7_goOn 97 = .ok (.aload_n 0, 1) := by decide +kernel
theorem dX7_goOn_98 : decode cX7_goOn 98 = .ok (.iload_n 3, 1) := by decide +kernel
theorem dX7_goOn_99 : decode cX7_goOn 99 = .ok (.iload 4, 2) := by decide +kernel
theorem dX7_goOn_101 : decode cX7_goOn 101 = .ok (.invokevirtual 46, 3) := by decide +kernel
theorem dX7_goOn_104 : decode cX7_goOn 104 = .ok (.iinc 3 1, 3) := by decide +kernel
theorem dX7_goOn_107 : decode cX7_goOn 107 = .ok (.iinc 4 (-1), 3) := by decide +kernel
theorem dX7_goOn_110 : decode cX7_goOn 110 = .ok (.goto (-19), 3) := by decide +kernel
theorem dX7_goOn_113 : decode cX7_goOn 113 = .ok (.iconst 1, 1) := by decide +kernel
theorem dX7_goOn_114 : decode cX7_goOn 114 = .ok (.ireturn, 1) := by decide +kernel
theorem dX7_swap_0 : decode cX7_swap 0 = .ok (.aload_n 0, 1) := by decide +kernel
theorem dX7_swap_1 : decode cX7_swap 1 = .ok (.getfield 13, 3) := by decide +kernel
theorem dX7_swap_4 : decode cX7_swap 4 = .ok (.iload_n 1, 1) := by decide +kernel
theorem dX7_swap_5 : decode cX7_swap 5 = .ok (.iaload, 1) := by decide +kernel
theorem dX7_swap_6 : decode cX7_swap 6 = .ok (.istore_n 3, 1) := by decide +kernel
theorem dX7_swap_7 : decode cX7_swap 7 = .ok (.aload_n 0, 1) := by decide +kernel
theorem dX7_swap_8 : decode cX7_swap 8 = .ok (.getfield 13, 3) := by decide +kernel
theorem dX7_swap_11 : decode cX7_swap 11 = .ok (.iload_n 1, 1) := by decide +kernel
theorem dX7_swap_12 : decode cX7_swap 12 = .ok (.aload_n 0, 1) := by decide +kernel
theorem dX7_swap_13 : decode cX7_swap 13 = .ok (.getfield 13, 3) := by decide +kernel
theorem dX7_swap_16 : decode cX7_swap 16 = .ok (.iload_n 2, 1) := by decide +kernel
theorem dX7_swap_17 : decode cX7_swap 17 = .ok (.iaload, 1) := by decide +kernel
theorem dX7_swap_18 : decode cX7_swap 18 = .ok (.iastore, 1) := by decide +kernel
theorem dX7_swap_19 : decode cX7_swap 19 = .ok (.aload_n 0, 1) := by decide +kernel
theorem dX7_swap_20 : decode cX7_swap 20 = .ok (.getfield 13, 3) := by decide +kernel
theorem dX7_swap_23 : decode cX7_swap 23 = .ok (.iload_n 2, 1) := by decide +kernel
theorem dX7_swap_24 : decode cX7_swap 24 = .ok (.iload_n 3, 1) := by decide +kernel
theorem dX7_swap_25 : decode cX7_swap 25 = .ok (.iastore, 1) := by decide +kernel
theorem dX7_swap_26 : decode cX7_swap 26 = .ok (.return_, 1) := by decide +kernel
theorem dX8_init_0 : decode cX8_init 0 = .ok (.aload_n 0, 1) := by decide +kernel
theorem dX8_init_1 : decode cX8_init 1 = .ok (.invokespecial 3, 3) := by decide +kernel
theorem dX8_init_4 : decode cX8_init 4 = .ok (.aload_n 0, 1) := by decide +kernel
theorem dX8_init_5 : decode cX8_init 5 = .ok (.new 9, 3) := by decide +kernel
theorem dX8_init_8 : decode cX8_init 8 = .ok (.dup, 1) := by decide +kernel
theorem dX8_init_9 : decode cX8_init 9 = .ok (.invokespecial 11, 3) := by decide +kernel
theorem dX8_init_12 : decode cX8_init 12 = .ok (.putfield 12, 3) := by decide +kernel
theorem dX8_init_15 : decode cX8_init 15 = .ok (.aload_n 0, 1) := by decide +kernel
theorem dX8_init_16 : decode cX8_init 16 = .ok (.bipush 60, 2) := by decide +kernel
theorem dX8_init_18 : decode cX8_init 18 = .ok (.newarray .int, 2) := by decide +kernel
theorem dX8_init_20 : decode cX8_init 20 = .ok (.putfield 18, 3) := by decide +kernel
theorem dX8_init_23 : decode cX8_init 23 = .ok (.aload_n 0, 1) := by decide +kernel
theorem dX8_init_24 : decode cX8_init 24 = .ok (.aload_n 1, 1) := by decide +kernel
theorem dX8_init_25 : decode cX8_init 25 = .ok (.putfield 22, 3) := by decide +kernel
theorem dX8_init_28 : decode cX8_init 28 = .ok (.aload_n 0, 1) := by decide +kernel
theorem dX8_init_29 : decode cX8_init 29 = .ok (.aload_n 2, 1) := by decide +kernel
theorem dX8_init_30 : decode cX8_init 30 = .ok (.putfield 26, 3) := by decide +kernel
theorem dX8_init_33 : decode cX8_init 33 = .ok (.return_, 1) := by decide +kernel
theorem dX8_step_0 : decode cX8_step 0 = .ok (.aload_n 0, 1) := by decide +kernel
theorem dX8_step_1 : decode cX8_step 1 = .ok (.getfield 22, 3) := by decide +kernel
theorem dX8_step_4 : decode cX8_step 4 = .ok (.aload_n 1, 1) := by decide +kernel
theorem dX8_step_5 : decode cX8_step 5 = .ok (.getfield 30, 3) := by decide +kernel
theorem dX8_step_8 : decode cX8_step 8 = .ok (.iconst 0, 1) := by decide +kernel
theorem dX8_step_9 : decode cX8_step 9 = .ok (.invokevirtual 34, 3) := by decide +kernel
theorem dX8_step_12 : decode cX8_step 12 = .ok (.istore_n 3, 1) := by decide +kernel
theorem dX8_step_13 : decode cX8_step 13 = .ok (.aload_n 0, 1) := by decide +kernel
theorem dX8_step_14 : decode cX8_step 14 = .ok (.getfield 22, 3) := by decide +kernel
theorem dX8_step_17 : decode cX8_step 17 = .ok (.iconst 0, 1) := by decide +kernel
theorem dX8_step_18 : decode cX8_step 18 = .ok (.bipush 7, 2) := by decide +kernel
theorem dX8_step_20 : decode cX8_step 20 = .ok (.invokevirtual 34, 3) := by decide +kernel
theorem dX8_step_23 : decode cX8_step 23 = .ok (.istore 4, 2) := by decide +kernel
theorem dX8_step_25 : decode cX8_step 25 = .ok (.aload_n 1, 1) := by decide +kernel
theorem dX8_step_26 : decode cX8_step 26 = .ok (.getfield 40, 3) := by decide +kernel
theorem dX8_step_29 : decode cX8_step 29 = .ok (.iload 4, 2) := by decide +kernel
theorem dX8_step_31 : decode cX8_step 31 = .ok (.iadd, 1) := by decide +kernel
theorem dX8_step_32 : decode cX8_step 32 = .ok (.aload_n 0, 1) := by decide +kernel
theorem dX8_step_33 : decode cX8_step 33 = .ok (.getfield 22, 3) := by decide +kernel
theorem dX8_step_36 : decode cX8_step 36 = .ok (.aload_n 1, 1) := by decide +kernel
theorem dX8_step_37 : decode cX8_step 37 = .ok (.getfield 30, 3) := by decide +kernel
theorem dX8_step_40 : decode cX8_step 40 = .ok (.iconst 1, 1) := by decide +kernel
theorem dX8_step_41 : decode cX8_step 41 = .ok (.invokevirtual 34, 3) := by decide +kernel
theorem dX8_step_44 : decode cX8_step 44 = .ok (.iadd, 1) := by decide +kernel
theorem dX8_step_45 : decode cX8_step 45 = .ok (.iload_n 3, 1) := by decide +kernel
theorem dX8_step_46 : decode cX8_step 46 = .ok (.iconst 3, 1) := by decide +kernel
theorem dX8_step_47 : decode cX8_step 47 = .ok (.idiv, 1) := by decide +kernel
theorem dX8_step_48 : decode cX8_step 48 = .ok (.isub, 1) := by decide +kernel
theorem dX8_step_49 : decode cX8_step 49 = .ok (.istore 5, 2) := by decide +kernel
theorem dX8_step_51 : decode cX8_step 51 = .ok (.aload_n 1, 1) := by decide +kernel
theorem dX8_step_52 : decode cX8_step 52 = .ok (.aload_n 0, 1) := by decide +kernel
theorem dX8_step_53 : decode cX8_step 53 = .ok (.getfield 22, 3) := by decide +kernel
theorem dX8_step_56 : decode cX8_step 56 = .ok (.aload_n 1, 1) := by decide +kernel
theorem dX8_step_57 : decode cX8_step 57 = .ok (.getfield 30, 3) := by decide +kernel
theorem dX8_step_60 : decode cX8_step 60 = .ok (.iconst 2, 1) := by decide +kernel
theorem dX8_step_61 : decode cX8_step 61 = .ok (.invokevirtual 34, 3) := by decide +kernel
theorem dX8_step_64 : decode cX8_step 64 = .ok (.iconst 0, 1) := by decide +kernel
theorem dX8_step_65 : decode cX8_step 65 = .ok (.iload 5, 2) := by decide +kernel
theorem dX8_step_67 : decode cX8_step 67 = .ok (.invokestatic 43, 3) := by decide +kernel
theorem dX8_step_70 : decode cX8_step 70 = .ok (.invokestatic 48, 3) := by decide +kernel
theorem dX8_step_73 : decode cX8_step 73 = .ok (.putfield 40, 3) := by decide +kernel
theorem dX8_step_76 : decode cX8_step 76 = .ok (.aload_n 0, 1) := by decide +kernel
theorem dX8_step_77 : decode cX8_step 77 = .ok (.getfield 22, 3) := by decide +kernel
theorem dX8_step_80 : decode cX8_step 80 = .ok (.aload_n 1, 1) := by decide +kernel
theorem dX8_step_81 : decode cX8_step 81 = .ok (.getfield 51, 3) := by decide +kernel
theorem dX8_step_84 : decode cX8_step 84 = .ok (.bipush 6, 2) := by decide +kernel
theorem dX8_step_86 : decode cX8_step 86 = .ok (.invokevirtual 34, 3) := by decide +kernel
theorem dX8_step_89 : decode cX8_step 89 = .ok (.istore 6, 2) := by decide +kernel
theorem dX8_step_91 : decode cX8_step 91 = .ok (.aload_n 1, 1) := by decide +kernel
theorem dX8_step_92 : decode cX8_step 92 = .ok (.aload_n 0, 1) := by decide +kernel
theorem dX8_step_93 : decode cX8_step 93 = .ok (.getfield 26, 3) := by decide +kernel
theorem dX8_step_96 : decode cX8_step 96 = .ok (.aload_n 1, 1) := by decide +kernel
theorem dX8_step_97 : decode cX8_step 97 = .ok (.getfield 40, 3) := by decide +kernel
theorem dX8_step_100 : decode cX8_step 100 = .ok (.iload 6, 2) := by decide +kernel
theorem dX8_step_102 : decode cX8_step 102 = .ok (.iload_n 3, 1) := by decide +kernel
theorem dX8_step_103 : decode cX8_step 103 = .ok (.aload_n 1, 1) := by decide +kernel
theorem dX8_step_104 : decode cX8_step 104 = .ok (.getfield 54, 3) := by decide +kernel
theorem dX8_step_107 : decode cX8_step 107 = .ok (.iload_n 2, 1) := by decide +kernel
theorem dX8_step_108 : decode cX8_step 108 = .ok (.iload 4, 2) := by decide +kernel
theorem dX8_step_110 : decode cX8_step 110 = .ok (.invokevirtual 57, 3) := by decide +kernel
theorem dX8_step_113 : decode cX8_step 113 = .ok (.putfield 63, 3) := by decide +kernel
theorem dX8_step_116 : decode cX8_step 116 = .ok (.aload_n 1, 1) := by decide +kernel
theorem dX8_step_117 : decode cX8_step 117 = .ok (.dup, 1) := by decide +kernel
theorem dX8_step_118 : decode cX8_step 118 = .ok (.getfield 54, 3) := by decide +kernel
theorem dX8_step_121 : decode cX8_step 121 = .ok (.iconst 1, 1) := by decide +kernel
theorem dX8_step_122 : decode cX8_step 122 = .ok (.iadd, 1) := by decide +kernel
theorem dX8_step_123 : decode cX8_step 123 = .ok (.putfield 54, 3) := by decide +kernel
theorem dX8_step_126 : decode cX8_step 126 = .ok (.aload_n 1, 1) := by decide +kernel
theorem dX8_step_127 : decode cX8_step 127 = .ok (.dup, 1) := by decide +kernel
theorem dX8_step_128 : decode cX8_step 128 = .ok (.getfield 66, 3) := by decide +kernel
theorem dX8_step_131 : decode cX8_step 131 = .ok (.aload_n 1, 1) := by decide +kernel
theorem dX8_step_132 : decode cX8_step 132 = .ok (.getfield 63, 3) := by decide +kernel
theorem dX8_step_135 : decode cX8_step 135 = .ok (.iadd, 1) := by decide +kernel
theorem dX8_step_136 : decode cX8_step 136 = .ok (.putfield 66, 3) := by decide +kernel
theorem dX8_step_139 : decode cX8_step 139 = .ok (.aload_n 1, 1) := by decide +kernel
theorem dX8_step_140 : decode cX8_step 140 = .ok (.aload_n 1, 1) := by decide +kernel
theorem dX8_step_141 : decode cX8_step 141 = .ok (.getfield 69, 3) := by decide +kernel
theorem dX8_step_144 : decode cX8_step 144 = .ok (.aload_n 1, 1) := by decide +kernel
theorem dX8_step_145 : decode cX8_step 145 = .ok (.getfield 40, 3) := by decide +kernel
theorem dX8_step_148 : decode cX8_step 148 = .ok (.invokestatic 43, 3) := by decide +kernel
theorem dX8_step_151 : decode cX8_step 151 = .ok (.putfield 69, 3) := by decide +kernel
theorem dX8_step_154 : decode cX8_step 154 = .ok (.return_, 1) := by decide +kernel
theorem dX8_countedOf_0 : decode cX8_countedOf 0 = .ok (.aload_n 1, 1) := by decide +kernel
theorem dX8_countedOf_1 : decode cX8_countedOf 1 = .ok (.getfield 54, 3) := by decide +kernel
theorem dX8_countedOf_4 : decode cX8_countedOf 4 = .ok (.istore_n 2, 1) := by decide +kernel
theorem dX8_countedOf_5 : decode cX8_countedOf 5 = .ok (.aload_n 0, 1) := by decide +kernel
theorem dX8_countedOf_6 : decode cX8_countedOf 6 = .ok (.getfield 22, 3) := by decide +kernel
theorem dX8_countedOf_9 : decode cX8_countedOf 9 = .ok (.aload_n 1, 1) := by decide +kernel
theorem dX8_countedOf_10 : decode cX8_countedOf 10 = .ok (.getfield 72, 3) := by decide +kernel
theorem dX8_countedOf_13 : decode cX8_countedOf 13 = .ok (.aload_n 1, 1) := by decide +kernel
theorem dX8_countedOf_14 : decode cX8_countedOf 14 = .ok (.getfield 30, 3) := by decide +kernel
theorem dX8_countedOf_17 : decode cX8_countedOf 17 = .ok (.invokevirtual 75, 3) := by decide +kernel
theorem dX8_countedOf_20 : decode cX8_countedOf 20 = .ok (.tableswitch 47 1 3 #[28, 34, 40], 28) := by decide +kernel
theorem dX8_countedOf_48 : decode cX8_countedOf 48 = .ok (.iload_n 2, 1) := by decide +kernel
theorem dX8_countedOf_49 : decode cX8_countedOf 49 = .ok (.iload_n 2, 1) := by decide +kernel
theorem dX8_countedOf_50 : decode cX8_countedOf 50 = .ok (.iconst 3, 1) := by decide +kernel
theorem dX8_countedOf_51 : decode cX8_countedOf 51 = .ok (.idiv, 1) := by decide +kernel
theorem dX8_countedOf_52 : decode cX8_countedOf 52 = .ok (.isub, 1) := by decide +kernel
theorem dX8_countedOf_53 : decode cX8_countedOf 53 = .ok (.ireturn, 1) := by decide +kernel
theorem dX8_countedOf_54 : decode cX8_countedOf 54 = .ok (.iload_n 2, 1) := by decide +kernel
theorem dX8_countedOf_55 : decode cX8_countedOf 55 = .ok (.iload_n 2, 1) := by decide +kernel
theorem dX8_countedOf_56 : decode cX8_countedOf 56 = .ok (.iconst 4, 1) := by decide +kernel
theorem dX8_countedOf_57 : decode cX8_countedOf 57 = .ok (.idiv, 1) := by decide +kernel
theorem dX8_countedOf_58 : decode cX8_countedOf 58 = .ok (.iadd, 1) := by decide +kernel
theorem dX8_countedOf_59 : decode cX8_countedOf 59 = .ok (.ireturn, 1) := by decide +kernel
theorem dX8_countedOf_60 : decode cX8_countedOf 60 = .ok (.iload_n 2, 1) := by decide +kernel
theorem dX8_countedOf_61 : decode cX8_countedOf 61 = .ok (.iload_n 2, 1) := by decide +kernel
theorem dX8_countedOf_62 : decode cX8_countedOf 62 = .ok (.bipush 10, 2) := by decide +kernel
theorem dX8_countedOf_64 : decode cX8_countedOf 64 = .ok (.irem, 1) := by decide +kernel
theorem dX8_countedOf_65 : decode cX8_countedOf 65 = .ok (.isub, 1) := by decide +kernel
theorem dX8_countedOf_66 : decode cX8_countedOf 66 = .ok (.ireturn, 1) := by decide +kernel
theorem dX8_countedOf_67 : decode cX8_countedOf 67 = .ok (.iload_n 2, 1) := by decide +kernel
theorem dX8_countedOf_68 : decode cX8_countedOf 68 = .ok (.ireturn, 1) := by decide +kernel
theorem dX8_isOver_0 : decode cX8_isOver 0 = .ok (.aload_n 0, 1) := by decide +kernel
theorem dX8_isOver_1 : decode cX8_isOver 1 = .ok (.getfield 22, 3) := by decide +kernel
theorem dX8_isOver_4 : decode cX8_isOver 4 = .ok (.iconst 0, 1) := by decide +kernel
theorem dX8_isOver_5 : decode cX8_isOver 5 = .ok (.bipush 9, 2) := by decide +kernel
theorem dX8_isOver_7 : decode cX8_isOver 7 = .ok (.invokevirtual 34, 3) := by decide +kernel
theorem dX8_isOver_10 : decode cX8_isOver 10 = .ok (.istore_n 2, 1) := by decide +kernel
theorem dX8_isOver_11 : decode cX8_isOver 11 = .ok (.aload_n 0, 1) := by decide +kernel
theorem dX8_isOver_12 : decode cX8_isOver 12 = .ok (.aload_n 1, 1) := by decide +kernel
theorem dX8_isOver_13 : decode cX8_isOver 13 = .ok (.invokevirtual 78, 3) := by decide +kernel
theorem dX8_isOver_16 : decode cX8_isOver 16 = .ok (.aload_n 0, 1) := by decide +kernel
theorem dX8_isOver_17 : decode cX8_isOver 17 = .ok (.getfield 22, 3) := by decide +kernel
theorem dX8_isOver_20 : decode cX8_isOver 20 = .ok (.iconst 0, 1) := by decide +kernel
theorem dX8_isOver_21 : decode cX8_isOver 21 = .ok (.bipush 8, 2) := by decide +kernel
theorem dX8_isOver_23 : decode cX8_isOver 23 = .ok (.invokevirtual 34, 3) := by decide +kernel
theorem dX8_isOver_26 : decode cX8_isOver 26 = .ok (.if_icmp .ge 24, 3) := by decide +kernel
theorem dX8_isOver_29 : decode cX8_isOver 29 = .ok (.iload_n 2, 1) := by decide +kernel
theorem dX8_isOver_30 : decode cX8_isOver 30 = .ok (.ifCond .le 11, 3) := by decide +kernel
theorem dX8_isOver_33 : decode cX8_isOver 33 = .ok (.aload_n 1, 1) := by decide +kernel
theorem dX8_isOver_34 : decode cX8_isOver 34 = .ok (.getfield 66, 3) := by decide +kernel
theorem dX8_isOver_37 : decode cX8_isOver 37 = .ok (.iload_n 2, 1) := by decide +kernel
theorem dX8_isOver_38 : decode cX8_isOver 38 = .ok (.if_icmp .ge 12, 3) := by decide +kernel
theorem dX8_isOver_41 : decode cX8_isOver 41 = .ok (.aload_n 1, 1) := by decide +kernel
theorem dX8_isOver_42 : decode cX8_isOver 42 = .ok (.getfield 54, 3) := by decide +kernel
theorem dX8_isOver_45 : decode cX8_isOver 45 = .ok (.bipush 60, 2) := by decide +kernel
theorem dX8_isOver_47 : decode cX8_isOver 47 = .ok (.if_icmp .lt 7, 3) := by decide +kernel
theorem dX8_isOver_50 : decode cX8_isOver 50 = .ok (.iconst 1, 1) := by decide +kernel
theorem dX8_isOver_51 : decode cX8_isOver 51 = .ok (.goto 4, 3) := by decide +kernel
theorem dX8_isOver_54 : decode cX8_isOver 54 = .ok (.iconst 0, 1) := by decide +kernel
theorem dX8_isOver_55 : decode cX8_isOver 55 = .ok (.ireturn, 1) := by decide +kernel
theorem dX8_think_0 : decode cX8_think 0 = .ok (.aload_n 0, 1) := by decide +kernel
theorem dX8_think_1 : decode cX8_think 1 = .ok (.getfield 12, 3) := by decide +kernel
theorem dX8_think_4 : decode cX8_think 4 = .ok (.iload_n 1, 1) := by decide +kernel
theorem dX8_think_5 : decode cX8_think 5 = .ok (.iload_n 2, 1) := by decide +kernel
theorem dX8_think_6 : decode cX8_think 6 = .ok (.iload_n 3, 1) := by decide +kernel
theorem dX8_think_7 : decode cX8_think 7 = .ok (.invokevirtual 82, 3) := by decide +kernel
theorem dX8_think_10 : decode cX8_think 10 = .ok (.iconst 0, 1) := by decide +kernel
theorem dX8_think_11 : decode cX8_think 11 = .ok (.istore 5, 2) := by decide +kernel
theorem dX8_think_13 : decode cX8_think 13 = .ok (.iload 5, 2) := by decide +kernel
theorem dX8_think_15 : decode cX8_think 15 = .ok (.bipush 60, 2) := by decide +kernel
theorem dX8_think_17 : decode cX8_think 17 = .ok (.if_icmp .ge 47, 3) := by decide +kernel
theorem dX8_think_20 : decode cX8_think 20 = .ok (.aload_n 0, 1) := by decide +kernel
theorem dX8_think_21 : decode cX8_think 21 = .ok (.aload_n 0, 1) := by decide +kernel
theorem dX8_think_22 : decode cX8_think 22 = .ok (.getfield 12, 3) := by decide +kernel
theorem dX8_think_25 : decode cX8_think 25 = .ok (.iload 4, 2) := by decide +kernel
theorem dX8_think_27 : decode cX8_think 27 = .ok (.invokevirtual 86, 3) := by decide +kernel
theorem dX8_think_30 : decode cX8_think 30 = .ok (.aload_n 0, 1) := by decide +kernel
theorem dX8_think_31 : decode cX8_think 31 = .ok (.getfield 18, 3) := by decide +kernel
theorem dX8_think_34 : decode cX8_think 34 = .ok (.iload 5, 2) := by decide +kernel
theorem dX8_think_36 : decode cX8_think 36 = .ok (.aload_n 0, 1) := by decide +kernel
theorem dX8_think_37 : decode cX8_think 37 = .ok (.getfield 12, 3) := by decide +kernel
theorem dX8_think_40 : decode cX8_think 40 = .ok (.getfield 63, 3) := by decide +kernel
theorem dX8_think_43 : decode cX8_think 43 = .ok (.iastore, 1) := by decide +kernel
theorem dX8_think_44 : decode cX8_think 44 = .ok (.aload_n 0, 1) := by decide +kernel
theorem dX8_think_45 : decode cX8_think 45 = .ok (.aload_n 0, 1) := by decide +kernel
theorem dX8_think_46 : decode cX8_think 46 = .ok (.getfield 12, 3) := by decide +kernel
theorem dX8_think_49 : decode cX8_think 49 = .ok (.invokevirtual 90, 3) := by decide +kernel
theorem dX8_think_52 : decode cX8_think 52 = .ok (.ifCond .eq 6, 3) := by decide +kernel
theorem dX8_think_55 : decode cX8_think 55 = .ok (.goto 9, 3) := by decide +kernel
theorem dX8_think_58 : decode cX8_think 58 = .ok (.iinc 5 1, 3) := by decide +kernel
theorem dX8_think_61 : decode cX8_think 61 = .ok (.goto (-48), 3) := by decide +kernel
theorem dX8_think_64 : decode cX8_think 64 = .ok (.aload_n 0, 1) := by decide +kernel
theorem dX8_think_65 : decode cX8_think 65 = .ok (.getfield 12, 3) := by decide +kernel
theorem dX8_think_68 : decode cX8_think 68 = .ok (.areturn, 1) := by decide +kernel
theorem dX8_heardAt_0 : decode cX8_heardAt 0 = .ok (.iload_n 1, 1) := by decide +kernel
theorem dX8_heardAt_1 : decode cX8_heardAt 1 = .ok (.ifCond .lt 18, 3) := by decide +kernel
theorem dX8_heardAt_4 : decode cX8_heardAt 4 = .ok (.iload_n 1, 1) := by decide +kernel
theorem dX8_heardAt_5 : decode cX8_heardAt 5 = .ok (.bipush 60, 2) := by decide +kernel
theorem dX8_heardAt_7 : decode cX8_heardAt 7 = .ok (.if_icmp .ge 12, 3) := by decide +kernel
theorem dX8_heardAt_10 : decode cX8_heardAt 10 = .ok (.aload_n 0, 1) := by decide +kernel
theorem dX8_heardAt_11 : decode cX8_heardAt 11 = .ok (.getfield 18, 3) := by decide +kernel
theorem dX8_heardAt_14 : decode cX8_heardAt 14 = .ok (.iload_n 1, 1) := by decide +kernel
theorem dX8_heardAt_15 : decode cX8_heardAt 15 = .ok (.iaload, 1) := by decide +kernel
theorem dX8_heardAt_16 : decode cX8_heardAt 16 = .ok (.goto 4, 3) := by decide +kernel
theorem dX8_heardAt_19 : decode cX8_heardAt 19 = .ok (.iconst 0, 1) := by decide +kernel
theorem dX8_heardAt_20 : decode cX8_heardAt 20 = .ok (.ireturn, 1) := by decide +kernel
theorem dX9_init_0 : decode cX9_init 0 = .ok (.aload_n 0, 1) := by decide +kernel
theorem dX9_init_1 : decode cX9_init 1 = .ok (.invokespecial 3, 3) := by decide +kernel
theorem dX9_init_4 : decode cX9_init 4 = .ok (.aload_n 0, 1) := by decide +kernel
theorem dX9_init_5 : decode cX9_init 5 = .ok (.bipush 6, 2) := by decide +kernel
theorem dX9_init_7 : decode cX9_init 7 = .ok (.newarray .int, 2) := by decide +kernel
theorem dX9_init_9 : decode cX9_init 9 = .ok (.putfield 11, 3) := by decide +kernel
theorem dX9_init_12 : decode cX9_init 12 = .ok (.aload_n 0, 1) := by decide +kernel
theorem dX9_init_13 : decode cX9_init 13 = .ok (.bipush 6, 2) := by decide +kernel
theorem dX9_init_15 : decode cX9_init 15 = .ok (.newarray .int, 2) := by decide +kernel
theorem dX9_init_17 : decode cX9_init 17 = .ok (.putfield 15, 3) := by decide +kernel
theorem dX9_init_20 : decode cX9_init 20 = .ok (.aload_n 0, 1) := by decide +kernel
theorem dX9_init_21 : decode cX9_init 21 = .ok (.bipush 6, 2) := by decide +kernel
theorem dX9_init_23 : decode cX9_init 23 = .ok (.newarray .int, 2) := by decide +kernel
theorem dX9_init_25 : decode cX9_init 25 = .ok (.putfield 18, 3) := by decide +kernel
theorem dX9_init_28 : decode cX9_init 28 = .ok (.aload_n 0, 1) := by decide +kernel
theorem dX9_init_29 : decode cX9_init 29 = .ok (.bipush 6, 2) := by decide +kernel
theorem dX9_init_31 : decode cX9_init 31 = .ok (.newarray .int, 2) := by decide +kernel
theorem dX9_init_33 : decode cX9_init 33 = .ok (.putfield 21, 3) := by decide +kernel
theorem dX9_init_36 : decode cX9_init 36 = .ok (.aload_n 0, 1) := by decide +kernel
theorem dX9_init_37 : decode cX9_init 37 = .ok (.sipush 360, 3) := by decide +kernel
theorem dX9_init_40 : decode cX9_init 40 = .ok (.newarray .long, 2) := by decide +kernel
theorem dX9_init_42 : decode cX9_init 42 = .ok (.putfield 24, 3) := by decide +kernel
theorem dX9_init_45 : decode cX9_init 45 = .ok (.return_, 1) := by decide +kernel
theorem dX9_isShelf_0 : decode cX9_isShelf 0 = .ok (.iload_n 1, 1) := by decide +kernel
theorem dX9_isShelf_1 : decode cX9_isShelf 1 = .ok (.ifCond .lt 13, 3) := by decide +kernel
theorem dX9_isShelf_4 : decode cX9_isShelf 4 = .ok (.iload_n 1, 1) := by decide +kernel
theorem dX9_isShelf_5 : decode cX9_isShelf 5 = .ok (.bipush 6, 2) := by decide +kernel
theorem dX9_isShelf_7 : decode cX9_isShelf 7 = .ok (.if_icmp .ge 7, 3) := by decide +kernel
theorem dX9_isShelf_10 : decode cX9_isShelf 10 = .ok (.iconst 1, 1) := by decide +kernel
theorem dX9_isShelf_11 : decode cX9_isShelf 11 = .ok (.goto 4, 3) := by decide +kernel
theorem dX9_isShelf_14 : decode cX9_isShelf 14 = .ok (.iconst 0, 1) := by decide +kernel
theorem dX9_isShelf_15 : decode cX9_isShelf 15 = .ok (.ireturn, 1) := by decide +kernel
theorem dX9_isEmpty_0 : decode cX9_isEmpty 0 = .ok (.aload_n 0, 1) := by decide +kernel
theorem dX9_isEmpty_1 : decode cX9_isEmpty 1 = .ok (.iload_n 1, 1) := by decide +kernel
theorem dX9_isEmpty_2 : decode cX9_isEmpty 2 = .ok (.invokevirtual 28, 3) := by decide +kernel
theorem dX9_isEmpty_5 : decode cX9_isEmpty 5 = .ok (.ifCond .eq 16, 3) := by decide +kernel
theorem dX9_isEmpty_8 : decode cX9_isEmpty 8 = .ok (.aload_n 0, 1) := by decide +kernel
theorem dX9_isEmpty_9 : decode cX9_isEmpty 9 = .ok (.getfield 11, 3) := by decide +kernel
theorem dX9_isEmpty_12 : decode cX9_isEmpty 12 = .ok (.iload_n 1, 1) := by decide +kernel
theorem dX9_isEmpty_13 : decode cX9_isEmpty 13 = .ok (.iaload, 1) := by decide +kernel
theorem dX9_isEmpty_14 : decode cX9_isEmpty 14 = .ok (.ifCond .ne 7, 3) := by decide +kernel
theorem dX9_isEmpty_17 : decode cX9_isEmpty 17 = .ok (.iconst 1, 1) := by decide +kernel
theorem dX9_isEmpty_18 : decode cX9_isEmpty 18 = .ok (.goto 4, 3) := by decide +kernel
theorem dX9_isEmpty_21 : decode cX9_isEmpty 21 = .ok (.iconst 0, 1) := by decide +kernel
theorem dX9_isEmpty_22 : decode cX9_isEmpty 22 = .ok (.ireturn, 1) := by decide +kernel
theorem dX9_isRow_0 : decode cX9_isRow 0 = .ok (.aload_n 0, 1) := by decide +kernel
theorem dX9_isRow_1 : decode cX9_isRow 1 = .ok (.iload_n 1, 1) := by decide +kernel
theorem dX9_isRow_2 : decode cX9_isRow 2 = .ok (.invokevirtual 28, 3) := by decide +kernel
theorem dX9_isRow_5 : decode cX9_isRow 5 = .ok (.ifCond .eq 17, 3) := by decide +kernel
theorem dX9_isRow_8 : decode cX9_isRow 8 = .ok (.aload_n 0, 1) := by decide +kernel
theorem dX9_isRow_9 : decode cX9_isRow 9 = .ok (.getfield 11, 3) := by decide +kernel
theorem dX9_isRow_12 : decode cX9_isRow 12 = .ok (.iload_n 1, 1) := by decide +kernel
theorem dX9_isRow_13 : decode cX9_isRow 13 = .ok (.iaload, 1) := by decide +kernel
theorem dX9_isRow_14 : decode cX9_isRow 14 = .ok (.iconst 2, 1) := by decide +kernel
theorem dX9_isRow_15 : decode cX9_isRow 15 = .ok (.if_icmp .ne 7, 3) := by decide +kernel
theorem dX9_isRow_18 : decode cX9_isRow 18 = .ok (.iconst 1, 1) := by decide +kernel
theorem dX9_isRow_19 : decode cX9_isRow 19 = .ok (.goto 4, 3) := by decide +kernel
theorem dX9_isRow_22 : decode cX9_isRow 22 = .ok (.iconst 0, 1) := by decide +kernel
theorem dX9_isRow_23 : decode cX9_isRow 23 = .ok (.ireturn, 1) := by decide +kernel
theorem dX9_areLikeRows_0 : decode cX9_areLikeRows 0 = .ok (.aload_n 0, 1) := by decide +kernel
theorem dX9_areLikeRows_1 : decode cX9_areLikeRows 1 = .ok (.iload_n 1, 1) := by decide +kernel
theorem dX9_areLikeRows_2 : decode cX9_areLikeRows 2 = .ok (.invokevirtual 32, 3) := by decide +kernel
theorem dX9_areLikeRows_5 : decode cX9_areLikeRows 5 = .ok (.ifCond .eq 30, 3) := by decide +kernel
theorem dX9_areLikeRows_8 : decode cX9_areLikeRows 8 = .ok (.aload_n 0, 1) := by decide +kernel
theorem dX9_areLikeRows_9 : decode cX9_areLikeRows 9 = .ok (.iload_n 2, 1) := by decide +kernel
theorem dX9_areLikeRows_10 : decode cX9_areLikeRows 10 = .ok (.invokevirtual 32, 3) := by decide +kernel
theorem dX9_areLikeRows_13 : decode cX9_areLikeRows 13 = .ok (.ifCond .eq 22, 3) := by decide +kernel
theorem dX9_areLikeRows_16 : decode cX9_areLikeRows 16 = .ok (.aload_n 0, 1) := by decide +kernel
theorem dX9_areLikeRows_17 : decode cX9_areLikeRows 17 = .ok (.getfield 18, 3) := by decide +kernel
theorem dX9_areLikeRows_20 : decode cX9_areLikeRows 20 = .ok (.iload_n 1, 1) := by decide +kernel
theorem dX9_areLikeRows_21 : decode cX9_areLikeRows 21 = .ok (.iaload, 1) := by decide +kernel
theorem dX9_areLikeRows_22 : decode cX9_areLikeRows 22 = .ok (.aload_n 0, 1) := by decide +kernel
theorem dX9_areLikeRows_23 : decode cX9_areLikeRows 23 = .ok (.getfield 18, 3) := by decide +kernel
theorem dX9_areLikeRows_26 : decode cX9_areLikeRows 26 = .ok (.iload_n 2, 1) := by decide +kernel
