theorem dX0_init_0 : decode cX0_init 0 = .ok (.aload_n 0, 1) := by decide +kernel
theorem dX0_init_1 : decode cX0_init 1 = .ok (.invokespecial 3, 3) := by decide +kernel
theorem dX0_init_4 : decode cX0_init 4 = .ok (.aload_n 0, 1) := by decide +kernel
theorem dX0_init_5 : decode cX0_init 5 = .ok (.iload_n 1, 1) := by decide +kernel
theorem dX0_init_6 : decode cX0_init 6 = .ok (.ifCond .lt 7, 3) := by decide +kernel
theorem dX0_init_9 : decode cX0_init 9 = .ok (.iload_n 1, 1) := by decide +kernel
theorem dX0_init_10 : decode cX0_init 10 = .ok (.goto 4, 3) := by decide +kernel
theorem dX0_init_13 : decode cX0_init 13 = .ok (.iconst 0, 1) := by decide +kernel
theorem dX0_init_14 : decode cX0_init 14 = .ok (.newarray .char, 2) := by decide +kernel
theorem dX0_init_16 : decode cX0_init 16 = .ok (.putfield 9, 3) := by decide +kernel
theorem dX0_init_19 : decode cX0_init 19 = .ok (.return_, 1) := by decide +kernel
theorem dX0_size_0 : decode cX0_size 0 = .ok (.aload_n 0, 1) := by decide +kernel
theorem dX0_size_1 : decode cX0_size 1 = .ok (.getfield 15, 3) := by decide +kernel
theorem dX0_size_4 : decode cX0_size 4 = .ok (.ireturn, 1) := by decide +kernel
theorem dX0_add_0 : decode cX0_add 0 = .ok (.aload_n 0, 1) := by decide +kernel
theorem dX0_add_1 : decode cX0_add 1 = .ok (.getfield 15, 3) := by decide +kernel
theorem dX0_add_4 : decode cX0_add 4 = .ok (.ifCond .lt 15, 3) := by decide +kernel
theorem dX0_add_7 : decode cX0_add 7 = .ok (.aload_n 0, 1) := by decide +kernel
theorem dX0_add_8 : decode cX0_add 8 = .ok (.getfield 15, 3) := by decide +kernel
theorem dX0_add_11 : decode cX0_add 11 = .ok (.aload_n 0, 1) := by decide +kernel
theorem dX0_add_12 : decode cX0_add 12 = .ok (.getfield 9, 3) := by decide +kernel
theorem dX0_add_15 : decode cX0_add 15 = .ok (.arraylength, 1) := by decide +kernel
theorem dX0_add_16 : decode cX0_add 16 = .ok (.if_icmp .lt 5, 3) := by decide +kernel
theorem dX0_add_19 : decode cX0_add 19 = .ok (.iconst 0, 1) := by decide +kernel
theorem dX0_add_20 : decode cX0_add 20 = .ok (.ireturn, 1) := by decide +kernel
theorem dX0_add_21 : decode cX0_add 21 = .ok (.aload_n 0, 1) := by decide +kernel
theorem dX0_add_22 : decode cX0_add 22 = .ok (.getfield 9, 3) := by decide +kernel
theorem dX0_add_25 : decode cX0_add 25 = .ok (.aload_n 0, 1) := by decide +kernel
theorem dX0_add_26 : decode cX0_add 26 = .ok (.getfield 15, 3) := by decide +kernel
theorem dX0_add_29 : decode cX0_add 29 = .ok (.iload_n 1, 1) := by decide +kernel
theorem dX0_add_30 : decode cX0_add 30 = .ok (.castore, 1) := by decide +kernel
theorem dX0_add_31 : decode cX0_add 31 = .ok (.aload_n 0, 1) := by decide +kernel
theorem dX0_add_32 : decode cX0_add 32 = .ok (.dup, 1) := by decide +kernel
theorem dX0_add_33 : decode cX0_add 33 = .ok (.getfield 15, 3) := by decide +kernel
theorem dX0_add_36 : decode cX0_add 36 = .ok (.iconst 1, 1) := by decide +kernel
theorem dX0_add_37 : decode cX0_add 37 = .ok (.iadd, 1) := by decide +kernel
theorem dX0_add_38 : decode cX0_add 38 = .ok (.putfield 15, 3) := by decide +kernel
theorem dX0_add_41 : decode cX0_add 41 = .ok (.iconst 1, 1) := by decide +kernel
theorem dX0_add_42 : decode cX0_add 42 = .ok (.ireturn, 1) := by decide +kernel
theorem dX0_at_0 : decode cX0_at 0 = .ok (.iload_n 1, 1) := by decide +kernel
theorem dX0_at_1 : decode cX0_at 1 = .ok (.ifCond .lt 29, 3) := by decide +kernel
theorem dX0_at_4 : decode cX0_at 4 = .ok (.iload_n 1, 1) := by decide +kernel
theorem dX0_at_5 : decode cX0_at 5 = .ok (.aload_n 0, 1) := by decide +kernel
theorem dX0_at_6 : decode cX0_at 6 = .ok (.getfield 15, 3) := by decide +kernel
theorem dX0_at_9 : decode cX0_at 9 = .ok (.if_icmp .ge 21, 3) := by decide +kernel
theorem dX0_at_12 : decode cX0_at 12 = .ok (.iload_n 1, 1) := by decide +kernel
theorem dX0_at_13 : decode cX0_at 13 = .ok (.aload_n 0, 1) := by decide +kernel
theorem dX0_at_14 : decode cX0_at 14 = .ok (.getfield 9, 3) := by decide +kernel
theorem dX0_at_17 : decode cX0_at 17 = .ok (.arraylength, 1) := by decide +kernel
theorem dX0_at_18 : decode cX0_at 18 = .ok (.if_icmp .ge 12, 3) := by decide +kernel
theorem dX0_at_21 : decode cX0_at 21 = .ok (.aload_n 0, 1) := by decide +kernel
theorem dX0_at_22 : decode cX0_at 22 = .ok (.getfield 9, 3) := by decide +kernel
theorem dX0_at_25 : decode cX0_at 25 = .ok (.iload_n 1, 1) := by decide +kernel
theorem dX0_at_26 : decode cX0_at 26 = .ok (.caload, 1) := by decide +kernel
theorem dX0_at_27 : decode cX0_at 27 = .ok (.goto 4, 3) := by decide +kernel
theorem dX0_at_30 : decode cX0_at 30 = .ok (.iconst 0, 1) := by decide +kernel
theorem dX0_at_31 : decode cX0_at 31 = .ok (.ireturn, 1) := by decide +kernel
theorem dX0_removeAll_0 : decode cX0_removeAll 0 = .ok (.aload_n 0, 1) := by decide +kernel
theorem dX0_removeAll_1 : decode cX0_removeAll 1 = .ok (.iconst 0, 1) := by decide +kernel
theorem dX0_removeAll_2 : decode cX0_removeAll 2 = .ok (.putfield 15, 3) := by decide +kernel
theorem dX0_removeAll_5 : decode cX0_removeAll 5 = .ok (.return_, 1) := by decide +kernel
theorem dX1_init_0 : decode cX1_init 0 = .ok (.aload_n 0, 1) := by decide +kernel
theorem dX1_init_1 : decode cX1_init 1 = .ok (.invokespecial 3, 3) := by decide +kernel
theorem dX1_init_4 : decode cX1_init 4 = .ok (.return_, 1) := by decide +kernel
theorem dX1_add_0 : decode cX1_add 0 = .ok (.new 9, 3) := by decide +kernel
theorem dX1_add_3 : decode cX1_add 3 = .ok (.dup, 1) := by decide +kernel
theorem dX1_add_4 : decode cX1_add 4 = .ok (.iload_n 1, 1) := by decide +kernel
theorem dX1_add_5 : decode cX1_add 5 = .ok (.iload_n 2, 1) := by decide +kernel
theorem dX1_add_6 : decode cX1_add 6 = .ok (.iload_n 3, 1) := by decide +kernel
theorem dX1_add_7 : decode cX1_add 7 = .ok (.aload 4, 2) := by decide +kernel
theorem dX1_add_9 : decode cX1_add 9 = .ok (.invokespecial 11, 3) := by decide +kernel
theorem dX1_add_12 : decode cX1_add 12 = .ok (.astore 5, 2) := by decide +kernel
theorem dX1_add_14 : decode cX1_add 14 = .ok (.aload_n 0, 1) := by decide +kernel
theorem dX1_add_15 : decode cX1_add 15 = .ok (.getfield 14, 3) := by decide +kernel
theorem dX1_add_18 : decode cX1_add 18 = .ok (.ifnonnull 12, 3) := by decide +kernel
theorem dX1_add_21 : decode cX1_add 21 = .ok (.aload_n 0, 1) := by decide +kernel
theorem dX1_add_22 : decode cX1_add 22 = .ok (.aload 5, 2) := by decide +kernel
theorem dX1_add_24 : decode cX1_add 24 = .ok (.putfield 20, 3) := by decide +kernel
theorem dX1_add_27 : decode cX1_add 27 = .ok (.goto 12, 3) := by decide +kernel
theorem dX1_add_30 : decode cX1_add 30 = .ok (.aload_n 0, 1) := by decide +kernel
theorem dX1_add_31 : decode cX1_add 31 = .ok (.getfield 14, 3) := by decide +kernel
theorem dX1_add_34 : decode cX1_add 34 = .ok (.aload 5, 2) := by decide +kernel
theorem dX1_add_36 : decode cX1_add 36 = .ok (.putfield 23, 3) := by decide +kernel
theorem dX1_add_39 : decode cX1_add 39 = .ok (.aload_n 0, 1) := by decide +kernel
theorem dX1_add_40 : decode cX1_add 40 = .ok (.aload 5, 2) := by decide +kernel
theorem dX1_add_42 : decode cX1_add 42 = .ok (.putfield 14, 3) := by decide +kernel
theorem dX1_add_45 : decode cX1_add 45 = .ok (.aload 5, 2) := by decide +kernel
theorem dX1_add_47 : decode cX1_add 47 = .ok (.areturn, 1) := by decide +kernel
theorem dX1_outcomesOfRoot_0 : decode cX1_outcomesOfRoot 0 = .ok (.aload_n 0, 1) := by decide +kernel
theorem dX1_outcomesOfRoot_1 : decode cX1_outcomesOfRoot 1 = .ok (.getfield 14, 3) := by decide +kernel
theorem dX1_outcomesOfRoot_4 : decode cX1_outcomesOfRoot 4 = .ok (.ifnonnull 7, 3) := by decide +kernel
theorem dX1_outcomesOfRoot_7 : decode cX1_outcomesOfRoot 7 = .ok (.iconst 0, 1) := by decide +kernel
theorem dX1_outcomesOfRoot_8 : decode cX1_outcomesOfRoot 8 = .ok (.goto 10, 3) := by decide +kernel
theorem dX1_outcomesOfRoot_11 : decode cX1_outcomesOfRoot 11 = .ok (.aload_n 0, 1) := by decide +kernel
theorem dX1_outcomesOfRoot_12 : decode cX1_outcomesOfRoot 12 = .ok (.getfield 14, 3) := by decide +kernel
theorem dX1_outcomesOfRoot_15 : decode cX1_outcomesOfRoot 15 = .ok (.getfield 26, 3) := by decide +kernel
theorem dX1_outcomesOfRoot_18 : decode cX1_outcomesOfRoot 18 = .ok (.ireturn, 1) := by decide +kernel
theorem dX1_rootIsGood_0 : decode cX1_rootIsGood 0 = .ok (.aload_n 0, 1) := by decide +kernel
theorem dX1_rootIsGood_1 : decode cX1_rootIsGood 1 = .ok (.getfield 14, 3) := by decide +kernel
theorem dX1_rootIsGood_4 : decode cX1_rootIsGood 4 = .ok (.ifnull 17, 3) := by decide +kernel
theorem dX1_rootIsGood_7 : decode cX1_rootIsGood 7 = .ok (.aload_n 0, 1) := by decide +kernel
theorem dX1_rootIsGood_8 : decode cX1_rootIsGood 8 = .ok (.getfield 14, 3) := by decide +kernel
theorem dX1_rootIsGood_11 : decode cX1_rootIsGood 11 = .ok (.getfield 30, 3) := by decide +kernel
theorem dX1_rootIsGood_14 : decode cX1_rootIsGood 14 = .ok (.ifCond .eq 7, 3) := by decide +kernel
theorem dX1_rootIsGood_17 : decode cX1_rootIsGood 17 = .ok (.iconst 1, 1) := by decide +kernel
theorem dX1_rootIsGood_18 : decode cX1_rootIsGood 18 = .ok (.goto 4, 3) := by decide +kernel
theorem dX1_rootIsGood_21 : decode cX1_rootIsGood 21 = .ok (.iconst 0, 1) := by decide +kernel
theorem dX1_rootIsGood_22 : decode cX1_rootIsGood 22 = .ok (.ireturn, 1) := by decide +kernel
theorem dX1_rulesInIt_0 : decode cX1_rulesInIt 0 = .ok (.iconst 0, 1) := by decide +kernel
theorem dX1_rulesInIt_1 : decode cX1_rulesInIt 1 = .ok (.istore_n 1, 1) := by decide +kernel
theorem dX1_rulesInIt_2 : decode cX1_rulesInIt 2 = .ok (.aload_n 0, 1) := by decide +kernel
theorem dX1_rulesInIt_3 : decode cX1_rulesInIt 3 = .ok (.getfield 20, 3) := by decide +kernel
theorem dX1_rulesInIt_6 : decode cX1_rulesInIt 6 = .ok (.astore_n 2, 1) := by decide +kernel
theorem dX1_rulesInIt_7 : decode cX1_rulesInIt 7 = .ok (.aload_n 2, 1) := by decide +kernel
theorem dX1_rulesInIt_8 : decode cX1_rulesInIt 8 = .ok (.ifnull 28, 3) := by decide +kernel
theorem dX1_rulesInIt_11 : decode cX1_rulesInIt 11 = .ok (.aload_n 2, 1) := by decide +kernel
theorem dX1_rulesInIt_12 : decode cX1_rulesInIt 12 = .ok (.getfield 34, 3) := by decide +kernel
theorem dX1_rulesInIt_15 : decode cX1_rulesInIt 15 = .ok (.iconst 2, 1) := by decide +kernel
theorem dX1_rulesInIt_16 : decode cX1_rulesInIt 16 = .ok (.if_icmp .ne 12, 3) := by decide +kernel
theorem dX1_rulesInIt_19 : decode cX1_rulesInIt 19 = .ok (.iload_n 1, 1) := by decide +kernel
theorem dX1_rulesInIt_20 : decode cX1_rulesInIt 20 = .ok (.iconst 1, 1) := by decide +kernel
theorem dX1_rulesInIt_21 : decode cX1_rulesInIt 21 = .ok (.aload_n 2, 1) := by decide +kernel
theorem dX1_rulesInIt_22 : decode cX1_rulesInIt 22 = .ok (.getfield 37, 3) := by decide +kernel
theorem dX1_rulesInIt_25 : decode cX1_rulesInIt 25 = .ok (.ishl, 1) := by decide +kernel
theorem dX1_rulesInIt_26 : decode cX1_rulesInIt 26 = .ok (.ior, 1) := by decide +kernel
theorem dX1_rulesInIt_27 : decode cX1_rulesInIt 27 = .ok (.istore_n 1, 1) := by decide +kernel
theorem dX1_rulesInIt_28 : decode cX1_rulesInIt 28 = .ok (.aload_n 2, 1) := by decide +kernel
theorem dX1_rulesInIt_29 : decode cX1_rulesInIt 29 = .ok (.getfield 23, 3) := by decide +kernel
theorem dX1_rulesInIt_32 : decode cX1_rulesInIt 32 = .ok (.astore_n 2, 1) := by decide +kernel
theorem dX1_rulesInIt_33 : decode cX1_rulesInIt 33 = .ok (.goto (-26), 3) := by decide +kernel
theorem dX1_rulesInIt_36 : decode cX1_rulesInIt 36 = .ok (.iload_n 1, 1) := by decide +kernel
theorem dX1_rulesInIt_37 : decode cX1_rulesInIt 37 = .ok (.ireturn, 1) := by decide +kernel
theorem dX1_allGood_0 : decode cX1_allGood 0 = .ok (.aload_n 0, 1) := by decide +kernel
theorem dX1_allGood_1 : decode cX1_allGood 1 = .ok (.getfield 20, 3) := by decide +kernel
theorem dX1_allGood_4 : decode cX1_allGood 4 = .ok (.astore_n 1, 1) := by decide +kernel
theorem dX1_allGood_5 : decode cX1_allGood 5 = .ok (.aload_n 1, 1) := by decide +kernel
theorem dX1_allGood_6 : decode cX1_allGood 6 = .ok (.ifnull 20, 3) := by decide +kernel
theorem dX1_allGood_9 : decode cX1_allGood 9 = .ok (.aload_n 1, 1) := by decide +kernel
theorem dX1_allGood_10 : decode cX1_allGood 10 = .ok (.getfield 30, 3) := by decide +kernel
theorem dX1_allGood_13 : decode cX1_allGood 13 = .ok (.ifCond .ne 5, 3) := by decide +kernel
theorem dX1_allGood_16 : decode cX1_allGood 16 = .ok (.iconst 0, 1) := by decide +kernel
theorem dX1_allGood_17 : decode cX1_allGood 17 = .ok (.ireturn, 1) := by decide +kernel
theorem dX1_allGood_18 : decode cX1_allGood 18 = .ok (.aload_n 1, 1) := by decide +kernel
theorem dX1_allGood_19 : decode cX1_allGood 19 = .ok (.getfield 23, 3) := by decide +kernel
theorem dX1_allGood_22 : decode cX1_allGood 22 = .ok (.astore_n 1, 1) := by decide +kernel
theorem dX1_allGood_23 : decode cX1_allGood 23 = .ok (.goto (-18), 3) := by decide +kernel
theorem dX1_allGood_26 : decode cX1_allGood 26 = .ok (.iconst 1, 1) := by decide +kernel
theorem dX1_allGood_27 : decode cX1_allGood 27 = .ok (.ireturn, 1) := by decide +kernel
theorem dX1_forgetFindings_0 : decode cX1_forgetFindings 0 = .ok (.aload_n 0, 1) := by decide +kernel
theorem dX1_forgetFindings_1 : decode cX1_forgetFindings 1 = .ok (.getfield 20, 3) := by decide +kernel
theorem dX1_forgetFindings_4 : decode cX1_forgetFindings 4 = .ok (.astore_n 1, 1) := by decide +kernel
theorem dX1_forgetFindings_5 : decode cX1_forgetFindings 5 = .ok (.aload_n 1, 1) := by decide +kernel
theorem dX1_forgetFindings_6 : decode cX1_forgetFindings 6 = .ok (.ifnull 21, 3) := by decide +kernel
theorem dX1_forgetFindings_9 : decode cX1_forgetFindings 9 = .ok (.aload_n 1, 1) := by decide +kernel
theorem dX1_forgetFindings_10 : decode cX1_forgetFindings 10 = .ok (.iconst 0, 1) := by decide +kernel
theorem dX1_forgetFindings_11 : decode cX1_forgetFindings 11 = .ok (.putfield 26, 3) := by decide +kernel
theorem dX1_forgetFindings_14 : decode cX1_forgetFindings 14 = .ok (.aload_n 1, 1) := by decide +kernel
theorem dX1_forgetFindings_15 : decode cX1_forgetFindings 15 = .ok (.iconst 0, 1) := by decide +kernel
theorem dX1_forgetFindings_16 : decode cX1_forgetFindings 16 = .ok (.putfield 30, 3) := by decide +kernel
theorem dX1_forgetFindings_19 : decode cX1_forgetFindings 19 = .ok (.aload_n 1, 1) := by decide +kernel
theorem dX1_forgetFindings_20 : decode cX1_forgetFindings 20 = .ok (.getfield 23, 3) := by decide +kernel
theorem dX1_forgetFindings_23 : decode cX1_forgetFindings 23 = .ok (.astore_n 1, 1) := by decide +kernel
theorem dX1_forgetFindings_24 : decode cX1_forgetFindings 24 = .ok (.goto (-19), 3) := by decide +kernel
theorem dX1_forgetFindings_27 : decode cX1_forgetFindings 27 = .ok (.return_, 1) := by decide +kernel
theorem dX2_init_0 : decode cX2_init 0 = .ok (.aload_n 0, 1) := by decide +kernel
theorem dX2_init_1 : decode cX2_init 1 = .ok (.invokespecial 3, 3) := by decide +kernel
theorem dX2_init_4 : decode cX2_init 4 = .ok (.aload_n 0, 1) := by decide +kernel
theorem dX2_init_5 : decode cX2_init 5 = .ok (.bipush 6, 2) := by decide +kernel
theorem dX2_init_7 : decode cX2_init 7 = .ok (.anewarray 9, 3) := by decide +kernel
theorem dX2_init_10 : decode cX2_init 10 = .ok (.putfield 11, 3) := by decide +kernel
theorem dX2_init_13 : decode cX2_init 13 = .ok (.aload_n 0, 1) := by decide +kernel
theorem dX2_init_14 : decode cX2_init 14 = .ok (.iconst 1, 1) := by decide +kernel
theorem dX2_init_15 : decode cX2_init 15 = .ok (.putfield 17, 3) := by decide +kernel
theorem dX2_init_18 : decode cX2_init 18 = .ok (.return_, 1) := by decide +kernel
theorem dX2_verdict_0 : decode cX2_verdict 0 = .ok (.aload_n 0, 1) := by decide +kernel
theorem dX2_verdict_1 : decode cX2_verdict 1 = .ok (.getfield 17, 3) := by decide +kernel
theorem dX2_verdict_4 : decode cX2_verdict 4 = .ok (.ireturn, 1) := by decide +kernel
theorem dX2_misses_0 : decode cX2_misses 0 = .ok (.aload_n 0, 1) := by decide +kernel
theorem dX2_misses_1 : decode cX2_misses 1 = .ok (.getfield 17, 3) := by decide +kernel
theorem dX2_misses_4 : decode cX2_misses 4 = .ok (.bipush 10, 2) := by decide +kernel
theorem dX2_misses_6 : decode cX2_misses 6 = .ok (.irem, 1) := by decide +kernel
theorem dX2_misses_7 : decode cX2_misses 7 = .ok (.iconst 2, 1) := by decide +kernel
theorem dX2_misses_8 : decode cX2_misses 8 = .ok (.if_icmp .ne 7, 3) := by decide +kernel
theorem dX2_misses_11 : decode cX2_misses 11 = .ok (.iconst 1, 1) := by decide +kernel
theorem dX2_misses_12 : decode cX2_misses 12 = .ok (.goto 4, 3) := by decide +kernel
theorem dX2_misses_15 : decode cX2_misses 15 = .ok (.iconst 0, 1) := by decide +kernel
theorem dX2_misses_16 : decode cX2_misses 16 = .ok (.ireturn, 1) := by decide +kernel
theorem dX2_expressionOf_0 : decode cX2_expressionOf 0 = .ok (.iload_n 1, 1) := by decide +kernel
theorem dX2_expressionOf_1 : decode cX2_expressionOf 1 = .ok (.invokestatic 21, 3) := by decide +kernel
theorem dX2_expressionOf_4 : decode cX2_expressionOf 4 = .ok (.ifCond .eq 12, 3) := by decide +kernel
theorem dX2_expressionOf_7 : decode cX2_expressionOf 7 = .ok (.aload_n 0, 1) := by decide +kernel
theorem dX2_expressionOf_8 : decode cX2_expressionOf 8 = .ok (.getfield 11, 3) := by decide +kernel
theorem dX2_expressionOf_11 : decode cX2_expressionOf 11 = .ok (.iload_n 1, 1) := by decide +kernel
theorem dX2_expressionOf_12 : decode cX2_expressionOf 12 = .ok (.aaload, 1) := by decide +kernel
theorem dX2_expressionOf_13 : decode cX2_expressionOf 13 = .ok (.goto 4, 3) := by decide +kernel
theorem dX2_expressionOf_16 : decode cX2_expressionOf 16 = .ok (.aconst_null, 1) := by decide +kernel
theorem dX2_expressionOf_17 : decode cX2_expressionOf 17 = .ok (.areturn, 1) := by decide +kernel
theorem dX2_size_0 : decode cX2_size 0 = .ok (.iconst 0, 1) := by decide +kernel
theorem dX2_size_1 : decode cX2_size 1 = .ok (.istore_n 1, 1) := by decide +kernel
theorem dX2_size_2 : decode cX2_size 2 = .ok (.aload_n 0, 1) := by decide +kernel
theorem dX2_size_3 : decode cX2_size 3 = .ok (.getfield 11, 3) := by decide +kernel
theorem dX2_size_6 : decode cX2_size 6 = .ok (.astore_n 2, 1) := by decide +kernel
theorem dX2_size_7 : decode cX2_size 7 = .ok (.aload_n 2, 1) := by decide +kernel
theorem dX2_size_8 : decode cX2_size 8 = .ok (.arraylength, 1) := by decide +kernel
theorem dX2_size_9 : decode cX2_size 9 = .ok (.istore_n 3, 1) := by decide +kernel
theorem dX2_size_10 : decode cX2_size 10 = .ok (.iconst 0, 1) := by decide +kernel
theorem dX2_size_11 : decode cX2_size 11 = .ok (.istore 4, 2) := by decide +kernel
theorem dX2_size_13 : decode cX2_size 13 = .ok (.iload 4, 2) := by decide +kernel
theorem dX2_size_15 : decode cX2_size 15 = .ok (.iload_n 3, 1) := by decide +kernel
theorem dX2_size_16 : decode cX2_size 16 = .ok (.if_icmp .ge 23, 3) := by decide +kernel
theorem dX2_size_19 : decode cX2_size 19 = .ok (.aload_n 2, 1) := by decide +kernel
theorem dX2_size_20 : decode cX2_size 20 = .ok (.iload 4, 2) := by decide +kernel
theorem dX2_size_22 : decode cX2_size 22 = .ok (.aaload, 1) := by decide +kernel
theorem dX2_size_23 : decode cX2_size 23 = .ok (.astore 5, 2) := by decide +kernel
theorem dX2_size_25 : decode cX2_size 25 = .ok (.aload 5, 2) := by decide +kernel
theorem dX2_size_27 : decode cX2_size 27 = .ok (.ifnull 6, 3) := by decide +kernel
theorem dX2_size_30 : decode cX2_size 30 = .ok (.iinc 1 1, 3) := by decide +kernel
theorem dX2_size_33 : decode cX2_size 33 = .ok (.iinc 4 1, 3) := by decide +kernel
theorem dX2_size_36 : decode cX2_size 36 = .ok (.goto (-23), 3) := by decide +kernel
theorem dX2_size_39 : decode cX2_size 39 = .ok (.iload_n 1, 1) := by decide +kernel
theorem dX2_size_40 : decode cX2_size 40 = .ok (.ireturn, 1) := by decide +kernel
theorem dX2_put_0 : decode cX2_put 0 = .ok (.iload_n 1, 1) := by decide +kernel
theorem dX2_put_1 : decode cX2_put 1 = .ok (.invokestatic 21, 3) := by decide +kernel
theorem dX2_put_4 : decode cX2_put 4 = .ok (.ifCond .eq 18, 3) := by decide +kernel
theorem dX2_put_7 : decode cX2_put 7 = .ok (.aload_n 0, 1) := by decide +kernel
theorem dX2_put_8 : decode cX2_put 8 = .ok (.getfield 11, 3) := by decide +kernel
theorem dX2_put_11 : decode cX2_put 11 = .ok (.iload_n 1, 1) := by decide +kernel
theorem dX2_put_12 : decode cX2_put 12 = .ok (.aload_n 2, 1) := by decide +kernel
theorem dX2_put_13 : decode cX2_put 13 = .ok (.aastore, 1) := by decide +kernel
theorem dX2_put_14 : decode cX2_put 14 = .ok (.aload_n 0, 1) := by decide +kernel
theorem dX2_put_15 : decode cX2_put 15 = .ok (.aload_n 0, 1) := by decide +kernel
theorem dX2_put_16 : decode cX2_put 16 = .ok (.invokevirtual 25, 3) := by decide +kernel
theorem dX2_put_19 : decode cX2_put 19 = .ok (.putfield 17, 3) := by decide +kernel
theorem dX2_put_22 : decode cX2_put 22 = .ok (.return_, 1) := by decide +kernel
theorem dX2_examine_0 : decode cX2_examine 0 = .ok (.aload_n 0, 1) := by decide +kernel
theorem dX2_examine_1 : decode cX2_examine 1 = .ok (.invokevirtual 29, 3) := by decide +kernel
theorem dX2_examine_4 : decode cX2_examine 4 = .ok (.ifCond .ne 5, 3) := by decide +kernel
theorem dX2_examine_7 : decode cX2_examine 7 = .ok (.iconst 1, 1) := by decide +kernel
theorem dX2_examine_8 : decode cX2_examine 8 = .ok (.ireturn, 1) := by decide +kernel
theorem dX2_examine_9 : decode cX2_examine 9 = .ok (.aload_n 0, 1) := by decide +kernel
theorem dX2_examine_10 : decode cX2_examine 10 = .ok (.invokevirtual 32, 3) := by decide +kernel
theorem dX2_examine_13 : decode cX2_examine 13 = .ok (.istore_n 1, 1) := by decide +kernel
theorem dX2_examine_14 : decode cX2_examine 14 = .ok (.iload_n 1, 1) := by decide +kernel
theorem dX2_examine_15 : decode cX2_examine 15 = .ok (.iconst (-1), 1) := by decide +kernel
theorem dX2_examine_16 : decode cX2_examine 16 = .ok (.if_icmp .eq 10, 3) := by decide +kernel
theorem dX2_examine_19 : decode cX2_examine 19 = .ok (.iconst 2, 1) := by decide +kernel
theorem dX2_examine_20 : decode cX2_examine 20 = .ok (.bipush 10, 2) := by decide +kernel
theorem dX2_examine_22 : decode cX2_examine 22 = .ok (.iload_n 1, 1) := by decide +kernel
theorem dX2_examine_23 : decode cX2_examine 23 = .ok (.imul, 1) := by decide +kernel
theorem dX2_examine_24 : decode cX2_examine 24 = .ok (.iadd, 1) := by decide +kernel
theorem dX2_examine_25 : decode cX2_examine 25 = .ok (.ireturn, 1) := by decide +kernel
theorem dX2_examine_26 : decode cX2_examine 26 = .ok (.aload_n 0, 1) := by decide +kernel
theorem dX2_examine_27 : decode cX2_examine 27 = .ok (.invokevirtual 35, 3) := by decide +kernel
theorem dX2_examine_30 : decode cX2_examine 30 = .ok (.aload_n 0, 1) := by decide +kernel
theorem dX2_examine_31 : decode cX2_examine 31 = .ok (.invokevirtual 38, 3) := by decide +kernel
theorem dX2_examine_34 : decode cX2_examine 34 = .ok (.aload_n 0, 1) := by decide +kernel
theorem dX2_examine_35 : decode cX2_examine 35 = .ok (.invokevirtual 41, 3) := by decide +kernel
theorem dX2_examine_38 : decode cX2_examine 38 = .ok (.aload_n 0, 1) := by decide +kernel
theorem dX2_examine_39 : decode cX2_examine 39 = .ok (.invokevirtual 44, 3) := by decide +kernel
theorem dX2_examine_42 : decode cX2_examine 42 = .ok (.istore_n 2, 1) := by decide +kernel
theorem dX2_examine_43 : decode cX2_examine 43 = .ok (.iload_n 2, 1) := by decide +kernel
theorem dX2_examine_44 : decode cX2_examine 44 = .ok (.iconst (-1), 1) := by decide +kernel
theorem dX2_examine_45 : decode cX2_examine 45 = .ok (.if_icmp .ne 7, 3) := by decide +kernel
theorem dX2_examine_48 : decode cX2_examine 48 = .ok (.iconst 0, 1) := by decide +kernel
theorem dX2_examine_49 : decode cX2_examine 49 = .ok (.goto 9, 3) := by decide +kernel
theorem dX2_examine_52 : decode cX2_examine 52 = .ok (.iconst 3, 1) := by decide +kernel
theorem dX2_examine_53 : decode cX2_examine 53 = .ok (.bipush 10, 2) := by decide +kernel
theorem dX2_examine_55 : decode cX2_examine 55 = .ok (.iload_n 2, 1) := by decide +kernel
theorem dX2_examine_56 : decode cX2_examine 56 = .ok (.imul, 1) := by decide +kernel
theorem dX2_examine_57 : decode cX2_examine 57 = .ok (.iadd, 1) := by decide +kernel
theorem dX2_examine_58 : decode cX2_examine 58 = .ok (.ireturn, 1) := by decide +kernel
theorem dX2_lowestMissing_0 : decode cX2_lowestMissing 0 = .ok (.iconst 0, 1) := by decide +kernel
theorem dX2_lowestMissing_1 : decode cX2_lowestMissing 1 = .ok (.istore_n 1, 1) := by decide +kernel
theorem dX2_lowestMissing_2 : decode cX2_lowestMissing 2 = .ok (.aload_n 0, 1) := by decide +kernel
theorem dX2_lowestMissing_3 : decode cX2_lowestMissing 3 = .ok (.getfield 11, 3) := by decide +kernel
theorem dX2_lowestMissing_6 : decode cX2_lowestMissing 6 = .ok (.astore_n 2, 1) := by decide +kernel
theorem dX2_lowestMissing_7 : decode cX2_lowestMissing 7 = .ok (.aload_n 2, 1) := by decide +kernel
theorem dX2_lowestMissing_8 : decode cX2_lowestMissing 8 = .ok (.arraylength, 1) := by decide +kernel
theorem dX2_lowestMissing_9 : decode cX2_lowestMissing 9 = .ok (.istore_n 3, 1) := by decide +kernel
theorem dX2_lowestMissing_10 : decode cX2_lowestMissing 10 = .ok (.iconst 0, 1) := by decide +kernel
theorem dX2_lowestMissing_11 : decode cX2_lowestMissing 11 = .ok (.istore 4, 2) := by decide +kernel
theorem dX2_lowestMissing_13 : decode cX2_lowestMissing 13 = .ok (.iload 4, 2) := by decide +kernel
theorem dX2_lowestMissing_15 : decode cX2_lowestMissing 15 = .ok (.iload_n 3, 1) := by decide +kernel
theorem dX2_lowestMissing_16 : decode cX2_lowestMissing 16 = .ok (.if_icmp .ge 28, 3) := by decide +kernel
theorem dX2_lowestMissing_19 : decode cX2_lowestMissing 19 = .ok (.aload_n 2, 1) := by decide +kernel
theorem dX2_lowestMissing_20 : decode cX2_lowestMissing 20 = .ok (.iload 4, 2) := by decide +kernel
theorem dX2_lowestMissing_22 : decode cX2_lowestMissing 22 = .ok (.aaload, 1) := by decide +kernel
theorem dX2_lowestMissing_23 : decode cX2_lowestMissing 23 = .ok (.astore 5, 2) := by decide +kernel
theorem dX2_lowestMissing_25 : decode cX2_lowestMissing 25 = .ok (.aload 5, 2) := by decide +kernel
theorem dX2_lowestMissing_27 : decode cX2_lowestMissing 27 = .ok (.ifnull 11, 3) := by decide +kernel
theorem dX2_lowestMissing_30 : decode cX2_lowestMissing 30 = .ok (.iload_n 1, 1) := by decide +kernel
theorem dX2_lowestMissing_31 : decode cX2_lowestMissing 31 = .ok (.aload 5, 2) := by decide +kernel
theorem dX2_lowestMissing_33 : decode cX2_lowestMissing 33 = .ok (.invokevirtual 47, 3) := by decide +kernel
theorem dX2_lowestMissing_36 : decode cX2_lowestMissing 36 = .ok (.ior, 1) := by decide +kernel
theorem dX2_lowestMissing_37 : decode cX2_lowestMissing 37 = .ok (.istore_n 1, 1) := by decide +kernel
theorem dX2_lowestMissing_38 : decode cX2_lowestMissing 38 = .ok (.iinc 4 1, 3) := by decide +kernel
theorem dX2_lowestMissing_41 : decode cX2_lowestMissing 41 = .ok (.goto (-28), 3) := by decide +kernel
theorem dX2_lowestMissing_44 : decode cX2_lowestMissing 44 = .ok (.iconst 0, 1) := by decide +kernel
theorem dX2_lowestMissing_45 : decode cX2_lowestMissing 45 = .ok (.istore_n 2, 1) := by decide +kernel
theorem dX2_lowestMissing_46 : decode cX2_lowestMissing 46 = .ok (.iload_n 2, 1) := by decide +kernel
theorem dX2_lowestMissing_47 : decode cX2_lowestMissing 47 = .ok (.aload_n 0, 1) := by decide +kernel
theorem dX2_lowestMissing_48 : decode cX2_lowestMissing 48 = .ok (.getfield 11, 3) := by decide +kernel
theorem dX2_lowestMissing_51 : decode cX2_lowestMissing 51 = .ok (.arraylength, 1) := by decide +kernel
theorem dX2_lowestMissing_52 : decode cX2_lowestMissing 52 = .ok (.if_icmp .ge 28, 3) := by decide +kernel
theorem dX2_lowestMissing_55 : decode cX2_lowestMissing 55 = .ok (.aload_n 0, 1) := by decide +kernel
theorem dX2_lowestMissing_56 : decode cX2_lowestMissing 56 = .ok (.getfield 11, 3) := by decide +kernel
theorem dX2_lowestMissing_59 : decode cX2_lowestMissing 59 = .ok (.iload_n 2, 1) := by decide +kernel
theorem dX2_lowestMissing_60 : decode cX2_lowestMissing 60 = .ok (.aaload, 1) := by decide +kernel
theorem dX2_lowestMissing_61 : decode cX2_lowestMissing 61 = .ok (.ifnonnull 13, 3) := by decide +kernel
theorem dX2_lowestMissing_64 : decode cX2_lowestMissing 64 = .ok (.iload_n 1, 1) := by decide +kernel
theorem dX2_lowestMissing_65 : decode cX2_lowestMissing 65 = .ok (.iconst 1, 1) := by decide +kernel
theorem dX2_lowestMissing_66 : decode cX2_lowestMissing 66 = .ok (.iload_n 2, 1) := by decide +kernel
theorem dX2_lowestMissing_67 : decode cX2_lowestMissing 67 = .ok (.ishl, 1) := by decide +kernel
theorem dX2_lowestMissing_68 : decode cX2_lowestMissing 68 = .ok (.iand, 1) := by decide +kernel
theorem dX2_lowestMissing_69 : decode cX2_lowestMissing 69 = .ok (.ifCond .eq 5, 3) := by decide +kernel
theorem dX2_lowestMissing_72 : decode cX2_lowestMissing 72 = .ok (.iload_n 2, 1) := by decide +kernel
theorem dX2_lowestMissing_73 : decode cX2_lowestMissing 73 = .ok (.ireturn, 1) := by decide +kernel
theorem dX2_lowestMissing_74 : decode cX2_lowestMissing 74 = .ok (.iinc 2 1, 3) := by decide +kernel
theorem dX2_lowestMissing_77 : decode cX2_lowestMissing 77 = .ok (.goto (-31), 3) := by decide +kernel
theorem dX2_lowestMissing_80 : decode cX2_lowestMissing 80 = .ok (.iconst (-1), 1) := by decide +kernel
theorem dX2_lowestMissing_81 : decode cX2_lowestMissing 81 = .ok (.ireturn, 1) := by decide +kernel
theorem dX2_lowestNotGood_0 : decode cX2_lowestNotGood 0 = .ok (.iconst 0, 1) := by decide +kernel
theorem dX2_lowestNotGood_1 : decode cX2_lowestNotGood 1 = .ok (.istore_n 1, 1) := by decide +kernel
theorem dX2_lowestNotGood_2 : decode cX2_lowestNotGood 2 = .ok (.iload_n 1, 1) := by decide +kernel
theorem dX2_lowestNotGood_3 : decode cX2_lowestNotGood 3 = .ok (.aload_n 0, 1) := by decide +kernel
theorem dX2_lowestNotGood_4 : decode cX2_lowestNotGood 4 = .ok (.getfield 11, 3) := by decide +kernel
theorem dX2_lowestNotGood_7 : decode cX2_lowestNotGood 7 = .ok (.arraylength, 1) := by decide +kernel
theorem dX2_lowestNotGood_8 : decode cX2_lowestNotGood 8 = .ok (.if_icmp .ge 29, 3) := by decide +kernel
theorem dX2_lowestNotGood_11 : decode cX2_lowestNotGood 11 = .ok (.aload_n 0, 1) := by decide +kernel
theorem dX2_lowestNotGood_12 : decode cX2_lowestNotGood 12 = .ok (.getfield 11, 3) := by decide +kernel
theorem dX2_lowestNotGood_15 : decode cX2_lowestNotGood 15 = .ok (.iload_n 1, 1) := by decide +kernel
theorem dX2_lowestNotGood_16 : decode cX2_lowestNotGood 16 = .ok (.aaload, 1) := by decide +kernel
theorem dX2_lowestNotGood_17 : decode cX2_lowestNotGood 17 = .ok (.astore_n 2, 1) := by decide +kernel
theorem dX2_lowestNotGood_18 : decode cX2_lowestNotGood 18 = .ok (.aload_n 2, 1) := by decide +kernel
theorem dX2_lowestNotGood_19 : decode cX2_lowestNotGood 19 = .ok (.ifnull 12, 3) := by decide +kernel
theorem dX2_lowestNotGood_22 : decode cX2_lowestNotGood 22 = .ok (.aload_n 2, 1) := by decide +kernel
theorem dX2_lowestNotGood_23 : decode cX2_lowestNotGood 23 = .ok (.invokevirtual 50, 3) := by decide +kernel
theorem dX2_lowestNotGood_26 : decode cX2_lowestNotGood 26 = .ok (.ifCond .ne 5, 3) := by decide +kernel
theorem dX2_lowestNotGood_29 : decode cX2_lowestNotGood 29 = .ok (.iload_n 1, 1) := by decide +kernel
theorem dX2_lowestNotGood_30 : decode cX2_lowestNotGood 30 = .ok (.ireturn, 1) := by decide +kernel
theorem dX2_lowestNotGood_31 : decode cX2_lowestNotGood 31 = .ok (.iinc 1 1, 3) := by decide +kernel
theorem dX2_lowestNotGood_34 : decode cX2_lowestNotGood 34 = .ok (.goto (-32), 3) := by decide +kernel
theorem dX2_lowestNotGood_37 : decode cX2_lowestNotGood 37 = .ok (.iconst (-1), 1) := by decide +kernel
theorem dX2_lowestNotGood_38 : decode cX2_lowestNotGood 38 = .ok (.ireturn, 1) := by decide +kernel
theorem dX2_forgetFindings_0 : decode cX2_forgetFindings 0 = .ok (.aload_n 0, 1) := by decide +kernel
theorem dX2_forgetFindings_1 : decode cX2_forgetFindings 1 = .ok (.getfield 11, 3) := by decide +kernel
theorem dX2_forgetFindings_4 : decode cX2_forgetFindings 4 = .ok (.astore_n 1, 1) := by decide +kernel
theorem dX2_forgetFindings_5 : decode cX2_forgetFindings 5 = .ok (.aload_n 1, 1) := by decide +kernel
theorem dX2_forgetFindings_6 : decode cX2_forgetFindings 6 = .ok (.arraylength, 1) := by decide +kernel
theorem dX2_forgetFindings_7 : decode cX2_forgetFindings 7 = .ok (.istore_n 2, 1) := by decide +kernel
theorem dX2_forgetFindings_8 : decode cX2_forgetFindings 8 = .ok (.iconst 0, 1) := by decide +kernel
theorem dX2_forgetFindings_9 : decode cX2_forgetFindings 9 = .ok (.istore_n 3, 1) := by decide +kernel
theorem dX2_forgetFindings_10 : decode cX2_forgetFindings 10 = .ok (.iload_n 3, 1) := by decide +kernel
theorem dX2_forgetFindings_11 : decode cX2_forgetFindings 11 = .ok (.iload_n 2, 1) := by decide +kernel
theorem dX2_forgetFindings_12 : decode cX2_forgetFindings 12 = .ok (.if_icmp .ge 24, 3) := by decide +kernel
theorem dX2_forgetFindings_15 : decode cX2_forgetFindings 15 = .ok (.aload_n 1, 1) := by decide +kernel
theorem dX2_forgetFindings_16 : decode cX2_forgetFindings 16 = .ok (.iload_n 3, 1) := by decide +kernel
theorem dX2_forgetFindings_17 : decode cX2_forgetFindings 17 = .ok (.aaload, 1) := by decide +kernel
theorem dX2_forgetFindings_18 : decode cX2_forgetFindings 18 = .ok (.astore 4, 2) := by decide +kernel
theorem dX2_forgetFindings_20 : decode cX2_forgetFindings 20 = .ok (.aload 4, 2) := by decide +kernel
theorem dX2_forgetFindings_22 : decode cX2_forgetFindings 22 = .ok (.ifnull 8, 3) := by decide +kernel
theorem dX2_forgetFindings_25 : decode cX2_forgetFindings 25 = .ok (.aload 4, 2) := by decide +kernel
theorem dX2_forgetFindings_27 : decode cX2_forgetFindings 27 = .ok (.invokevirtual 54, 3) := by decide +kernel
theorem dX2_forgetFindings_30 : decode cX2_forgetFindings 30 = .ok (.iinc 3 1, 3) := by decide +kernel
theorem dX2_forgetFindings_33 : decode cX2_forgetFindings 33 = .ok (.goto (-23), 3) := by decide +kernel
theorem dX2_forgetFindings_36 : decode cX2_forgetFindings 36 = .ok (.return_, 1) := by decide +kernel
theorem dX2_findOutcomes_0 : decode cX2_findOutcomes 0 = .ok (.iconst 1, 1) := by decide +kernel
theorem dX2_findOutcomes_1 : decode cX2_findOutcomes 1 = .ok (.istore_n 1, 1) := by decide +kernel
theorem dX2_findOutcomes_2 : decode cX2_findOutcomes 2 = .ok (.iconst 0, 1) := by decide +kernel
theorem dX2_findOutcomes_3 : decode cX2_findOutcomes 3 = .ok (.istore_n 2, 1) := by decide +kernel
theorem dX2_findOutcomes_4 : decode cX2_findOutcomes 4 = .ok (.iload_n 2, 1) := by decide +kernel
theorem dX2_findOutcomes_5 : decode cX2_findOutcomes 5 = .ok (.bipush 19, 2) := by decide +kernel
theorem dX2_findOutcomes_7 : decode cX2_findOutcomes 7 = .ok (.if_icmp .ge 68, 3) := by decide +kernel
theorem dX2_findOutcomes_10 : decode cX2_findOutcomes 10 = .ok (.iload_n 1, 1) := by decide +kernel
theorem dX2_findOutcomes_11 : decode cX2_findOutcomes 11 = .ok (.ifCond .eq 64, 3) := by decide +kernel
theorem dX2_findOutcomes_14 : decode cX2_findOutcomes 14 = .ok (.iconst 0, 1) := by decide +kernel
theorem dX2_findOutcomes_15 : decode cX2_findOutcomes 15 = .ok (.istore_n 1, 1) := by decide +kernel
theorem dX2_findOutcomes_16 : decode cX2_findOutcomes 16 = .ok (.aload_n 0, 1) := by decide +kernel
theorem dX2_findOutcomes_17 : decode cX2_findOutcomes 17 = .ok (.getfield 11, 3) := by decide +kernel
theorem dX2_findOutcomes_20 : decode cX2_findOutcomes 20 = .ok (.astore_n 3, 1) := by decide +kernel
theorem dX2_findOutcomes_21 : decode cX2_findOutcomes 21 = .ok (.aload_n 3, 1) := by decide +kernel
theorem dX2_findOutcomes_22 : decode cX2_findOutcomes 22 = .ok (.arraylength, 1) := by decide +kernel
theorem dX2_findOutcomes_23 : decode cX2_findOutcomes 23 = .ok (.istore 4, 2) := by decide +kernel
theorem dX2_findOutcomes_25 : decode cX2_findOutcomes 25 = .ok (.iconst 0, 1) := by decide +kernel
theorem dX2_findOutcomes_26 : decode cX2_findOutcomes 26 = .ok (.istore 5, 2) := by decide +kernel
theorem dX2_findOutcomes_28 : decode cX2_findOutcomes 28 = .ok (.iload 5, 2) := by decide +kernel
theorem dX2_findOutcomes_30 : decode cX2_findOutcomes 30 = .ok (.iload 4, 2) := by decide +kernel
theorem dX2_findOutcomes_32 : decode cX2_findOutcomes 32 = .ok (.if_icmp .ge 37, 3) := by decide +kernel
theorem dX2_findOutcomes_35 : decode cX2_findOutcomes 35 = .ok (.aload_n 3, 1) := by decide +kernel
theorem dX2_findOutcomes_36 : decode cX2_findOutcomes 36 = .ok (.iload 5, 2) := by decide +kernel
theorem dX2_findOutcomes_38 : decode cX2_findOutcomes 38 = .ok (.aaload, 1) := by decide +kernel
theorem dX2_findOutcomes_39 : decode cX2_findOutcomes 39 = .ok (.astore 6, 2) := by decide +kernel
theorem dX2_findOutcomes_41 : decode cX2_findOutcomes 41 = .ok (.iload_n 1, 1) := by decide +kernel
theorem dX2_findOutcomes_42 : decode cX2_findOutcomes 42 = .ok (.aload 6, 2) := by decide +kernel
theorem dX2_findOutcomes_44 : decode cX2_findOutcomes 44 = .ok (.ifnull 16, 3) := by decide +kernel
theorem dX2_findOutcomes_47 : decode cX2_findOutcomes 47 = .ok (.aload_n 0, 1) := by decide +kernel
theorem dX2_findOutcomes_48 : decode cX2_findOutcomes 48 = .ok (.aload 6, 2) := by decide +kernel
theorem dX2_findOutcomes_50 : decode cX2_findOutcomes 50 = .ok (.invokevirtual 55, 3) := by decide +kernel
theorem dX2_findOutcomes_53 : decode cX2_findOutcomes 53 = .ok (.ifCond .eq 7, 3) := by decide +kernel
theorem dX2_findOutcomes_56 : decode cX2_findOutcomes 56 = .ok (.iconst 1, 1) := by decide +kernel
theorem dX2_findOutcomes_57 : decode cX2_findOutcomes 57 = .ok (.goto 4, 3) := by decide +kernel
theorem dX2_findOutcomes_60 : decode cX2_findOutcomes 60 = .ok (.iconst 0, 1) := by decide +kernel
theorem dX2_findOutcomes_61 : decode cX2_findOutcomes 61 = .ok (.ior, 1) := by decide +kernel
theorem dX2_findOutcomes_62 : decode cX2_findOutcomes 62 = .ok (.istore_n 1, 1) := by decide +kernel
theorem dX2_findOutcomes_63 : decode cX2_findOutcomes 63 = .ok (.iinc 5 1, 3) := by decide +kernel
theorem dX2_findOutcomes_66 : decode cX2_findOutcomes 66 = .ok (.goto (-38), 3) := by decide +kernel
theorem dX2_findOutcomes_69 : decode cX2_findOutcomes 69 = .ok (.iinc 2 1, 3) := by decide +kernel
theorem dX2_findOutcomes_72 : decode cX2_findOutcomes 72 = .ok (.goto (-68), 3) := by decide +kernel
theorem dX2_findOutcomes_75 : decode cX2_findOutcomes 75 = .ok (.return_, 1) := by decide +kernel
theorem dX2_findOutcomesIn_0 : decode cX2_findOutcomesIn 0 = .ok (.aload_n 1, 1) := by decide +kernel
theorem dX2_findOutcomesIn_1 : decode cX2_findOutcomesIn 1 = .ok (.invokevirtual 59, 3) := by decide +kernel
theorem dX2_findOutcomesIn_4 : decode cX2_findOutcomesIn 4 = .ok (.istore_n 2, 1) := by decide +kernel
theorem dX2_findOutcomesIn_5 : decode cX2_findOutcomesIn 5 = .ok (.aload_n 1, 1) := by decide +kernel
theorem dX2_findOutcomesIn_6 : decode cX2_findOutcomesIn 6 = .ok (.getfield 62, 3) := by decide +kernel
theorem dX2_findOutcomesIn_9 : decode cX2_findOutcomesIn 9 = .ok (.astore_n 3, 1) := by decide +kernel
theorem dX2_findOutcomesIn_10 : decode cX2_findOutcomesIn 10 = .ok (.aload_n 3, 1) := by decide +kernel
theorem dX2_findOutcomesIn_11 : decode cX2_findOutcomesIn 11 = .ok (.ifnull 20, 3) := by decide +kernel
theorem dX2_findOutcomesIn_14 : decode cX2_findOutcomesIn 14 = .ok (.aload_n 3, 1) := by decide +kernel
theorem dX2_findOutcomesIn_15 : decode cX2_findOutcomesIn 15 = .ok (.aload_n 0, 1) := by decide +kernel
theorem dX2_findOutcomesIn_16 : decode cX2_findOutcomesIn 16 = .ok (.aload_n 3, 1) := by decide +kernel
theorem dX2_findOutcomesIn_17 : decode cX2_findOutcomesIn 17 = .ok (.invokevirtual 66, 3) := by decide +kernel
theorem dX2_findOutcomesIn_20 : decode cX2_findOutcomesIn 20 = .ok (.putfield 70, 3) := by decide +kernel
theorem dX2_findOutcomesIn_23 : decode cX2_findOutcomesIn 23 = .ok (.aload_n 3, 1) := by decide +kernel
theorem dX2_findOutcomesIn_24 : decode cX2_findOutcomesIn 24 = .ok (.getfield 75, 3) := by decide +kernel
theorem dX2_findOutcomesIn_27 : decode cX2_findOutcomesIn 27 = .ok (.astore_n 3, 1) := by decide +kernel
theorem dX2_findOutcomesIn_28 : decode cX2_findOutcomesIn 28 = .ok (.goto (-18), 3) := by decide +kernel
theorem dX2_findOutcomesIn_31 : decode cX2_findOutcomesIn 31 = .ok (.aload_n 1, 1) := by decide +kernel
theorem dX2_findOutcomesIn_32 : decode cX2_findOutcomesIn 32 = .ok (.invokevirtual 59, 3) := by decide +kernel
theorem dX2_findOutcomesIn_35 : decode cX2_findOutcomesIn 35 = .ok (.iload_n 2, 1) := by decide +kernel
theorem dX2_findOutcomesIn_36 : decode cX2_findOutcomesIn 36 = .ok (.if_icmp .eq 7, 3) := by decide +kernel
theorem dX2_findOutcomesIn_39 : decode cX2_findOutcomesIn 39 = .ok (.iconst 1, 1) := by decide +kernel
theorem dX2_findOutcomesIn_40 : decode cX2_findOutcomesIn 40 = .ok (.goto 4, 3) := by decide +kernel
theorem dX2_findOutcomesIn_43 : decode cX2_findOutcomesIn 43 = .ok (.iconst 0, 1) := by decide +kernel
theorem dX2_findOutcomesIn_44 : decode cX2_findOutcomesIn 44 = .ok (.ireturn, 1) := by decide +kernel
theorem dX2_outcomesOf_0 : decode cX2_outcomesOf 0 = .ok (.aload_n 1, 1) := by decide +kernel
theorem dX2_outcomesOf_1 : decode cX2_outcomesOf 1 = .ok (.getfield 78, 3) := by decide +kernel
theorem dX2_outcomesOf_4 : decode cX2_outcomesOf 4 = .ok (.tableswitch 73 1 4 #[32, 35, 57, 65], 32) := by decide +kernel
theorem dX2_outcomesOf_36 : decode cX2_outcomesOf 36 = .ok (.bipush 6, 2) := by decide +kernel
theorem dX2_outcomesOf_38 : decode cX2_outcomesOf 38 = .ok (.ireturn, 1) := by decide +kernel
theorem dX2_outcomesOf_39 : decode cX2_outcomesOf 39 = .ok (.aload_n 0, 1) := by decide +kernel
theorem dX2_outcomesOf_40 : decode cX2_outcomesOf 40 = .ok (.aload_n 1, 1) := by decide +kernel
theorem dX2_outcomesOf_41 : decode cX2_outcomesOf 41 = .ok (.getfield 81, 3) := by decide +kernel
theorem dX2_outcomesOf_44 : decode cX2_outcomesOf 44 = .ok (.invokevirtual 84, 3) := by decide +kernel
theorem dX2_outcomesOf_47 : decode cX2_outcomesOf 47 = .ok (.astore_n 2, 1) := by decide +kernel
theorem dX2_outcomesOf_48 : decode cX2_outcomesOf 48 = .ok (.aload_n 2, 1) := by decide +kernel
theorem dX2_outcomesOf_49 : decode cX2_outcomesOf 49 = .ok (.ifnonnull 7, 3) := by decide +kernel
theorem dX2_outcomesOf_52 : decode cX2_outcomesOf 52 = .ok (.iconst 0, 1) := by decide +kernel
theorem dX2_outcomesOf_53 : decode cX2_outcomesOf 53 = .ok (.goto 7, 3) := by decide +kernel
theorem dX2_outcomesOf_56 : decode cX2_outcomesOf 56 = .ok (.aload_n 2, 1) := by decide +kernel
theorem dX2_outcomesOf_57 : decode cX2_outcomesOf 57 = .ok (.invokevirtual 59, 3) := by decide +kernel
theorem dX2_outcomesOf_60 : decode cX2_outcomesOf 60 = .ok (.ireturn, 1) := by decide +kernel
theorem dX2_outcomesOf_61 : decode cX2_outcomesOf 61 = .ok (.aload_n 1, 1) := by decide +kernel
theorem dX2_outcomesOf_62 : decode cX2_outcomesOf 62 = .ok (.getfield 88, 3) := by decide +kernel
theorem dX2_outcomesOf_65 : decode cX2_outcomesOf 65 = .ok (.invokestatic 91, 3) := by decide +kernel
theorem dX2_outcomesOf_68 : decode cX2_outcomesOf 68 = .ok (.ireturn, 1) := by decide +kernel
theorem dX2_outcomesOf_69 : decode cX2_outcomesOf 69 = .ok (.aload_n 1, 1) := by decide +kernel
theorem dX2_outcomesOf_70 : decode cX2_outcomesOf 70 = .ok (.getfield 88, 3) := by decide +kernel
theorem dX2_outcomesOf_73 : decode cX2_outcomesOf 73 = .ok (.invokestatic 94, 3) := by decide +kernel
theorem dX2_outcomesOf_76 : decode cX2_outcomesOf 76 = .ok (.ireturn, 1) := by decide +kernel
theorem dX2_outcomesOf_77 : decode cX2_outcomesOf 77 = .ok (.aload_n 1, 1) := by decide +kernel
theorem dX2_outcomesOf_78 : decode cX2_outcomesOf 78 = .ok (.getfield 88, 3) := by decide +kernel
theorem dX2_outcomesOf_81 : decode cX2_outcomesOf 81 = .ok (.ifnonnull 7, 3) := by decide +kernel
theorem dX2_outcomesOf_84 : decode cX2_outcomesOf 84 = .ok (.iconst 0, 1) := by decide +kernel
theorem dX2_outcomesOf_85 : decode cX2_outcomesOf 85 = .ok (.goto 17, 3) := by decide +kernel
theorem dX2_outcomesOf_88 : decode cX2_outcomesOf 88 = .ok (.aload_n 1, 1) := by decide +kernel
theorem dX2_outcomesOf_89 : decode cX2_outcomesOf 89 = .ok (.getfield 78, 3) := by decide +kernel
theorem dX2_outcomesOf_92 : decode cX2_outcomesOf 92 = .ok (.aload_n 1, 1) := by decide +kernel
theorem dX2_outcomesOf_93 : decode cX2_outcomesOf 93 = .ok (.getfield 88, 3) := by decide +kernel
theorem dX2_outcomesOf_96 : decode cX2_outcomesOf 96 = .ok (.getfield 70, 3) := by decide +kernel
theorem dX2_outcomesOf_99 : decode cX2_outcomesOf 99 = .ok (.invokestatic 97, 3) := by decide +kernel
theorem dX2_outcomesOf_102 : decode cX2_outcomesOf 102 = .ok (.ireturn, 1) := by decide +kernel
theorem dX2_outcomesOfRow_0 : decode cX2_outcomesOfRow 0 = .ok (.aload_n 0, 1) := by decide +kernel
theorem dX2_outcomesOfRow_1 : decode cX2_outcomesOfRow 1 = .ok (.ifnonnull 5, 3) := by decide +kernel
theorem dX2_outcomesOfRow_4 : decode cX2_outcomesOfRow 4 = .ok (.iconst 0, 1) := by decide +kernel
theorem dX2_outcomesOfRow_5 : decode cX2_outcomesOfRow 5 = .ok (.ireturn, 1) := by decide +kernel
theorem dX2_outcomesOfRow_6 : decode cX2_outcomesOfRow 6 = .ok (.aload_n 0, 1) := by decide +kernel
theorem dX2_outcomesOfRow_7 : decode cX2_outcomesOfRow 7 = .ok (.getfield 70, 3) := by decide +kernel
theorem dX2_outcomesOfRow_10 : decode cX2_outcomesOfRow 10 = .ok (.istore_n 1, 1) := by decide +kernel
theorem dX2_outcomesOfRow_11 : decode cX2_outcomesOfRow 11 = .ok (.aload_n 0, 1) := by decide +kernel
theorem dX2_outcomesOfRow_12 : decode cX2_outcomesOfRow 12 = .ok (.getfield 101, 3) := by decide +kernel
theorem dX2_outcomesOfRow_15 : decode cX2_outcomesOfRow 15 = .ok (.astore_n 2, 1) := by decide +kernel
theorem dX2_outcomesOfRow_16 : decode cX2_outcomesOfRow 16 = .ok (.aload_n 2, 1) := by decide +kernel
theorem dX2_outcomesOfRow_17 : decode cX2_outcomesOfRow 17 = .ok (.ifnull 20, 3) := by decide +kernel
theorem dX2_outcomesOfRow_20 : decode cX2_outcomesOfRow 20 = .ok (.iload_n 1, 1) := by decide +kernel
theorem dX2_outcomesOfRow_21 : decode cX2_outcomesOfRow 21 = .ok (.aload_n 2, 1) := by decide +kernel
theorem dX2_outcomesOfRow_22 : decode cX2_outcomesOfRow 22 = .ok (.getfield 70, 3) := by decide +kernel
theorem dX2_outcomesOfRow_25 : decode cX2_outcomesOfRow 25 = .ok (.invokestatic 104, 3) := by decide +kernel
theorem dX2_outcomesOfRow_28 : decode cX2_outcomesOfRow 28 = .ok (.istore_n 1, 1) := by decide +kernel
theorem dX2_outcomesOfRow_29 : decode cX2_outcomesOfRow 29 = .ok (.aload_n 2, 1) := by decide +kernel
theorem dX2_outcomesOfRow_30 : decode cX2_outcomesOfRow 30 = .ok (.getfield 101, 3) := by decide +kernel
theorem dX2_outcomesOfRow_33 : decode cX2_outcomesOfRow 33 = .ok (.astore_n 2, 1) := by decide +kernel
theorem dX2_outcomesOfRow_34 : decode cX2_outcomesOfRow 34 = .ok (.goto (-18), 3) := by decide +kernel
theorem dX2_outcomesOfRow_37 : decode cX2_outcomesOfRow 37 = .ok (.iload_n 1, 1) := by decide +kernel
theorem dX2_outcomesOfRow_38 : decode cX2_outcomesOfRow 38 = .ok (.ireturn, 1) := by decide +kernel
theorem dX2_joinInRow_0 : decode cX2_joinInRow 0 = .ok (.iload_n 0, 1) := by decide +kernel
theorem dX2_joinInRow_1 : decode cX2_joinInRow 1 = .ok (.iload_n 1, 1) := by decide +kernel
theorem dX2_joinInRow_2 : decode cX2_joinInRow 2 = .ok (.iand, 1) := by decide +kernel
theorem dX2_joinInRow_3 : decode cX2_joinInRow 3 = .ok (.iconst 1, 1) := by decide +kernel
theorem dX2_joinInRow_4 : decode cX2_joinInRow 4 = .ok (.iand, 1) := by decide +kernel
theorem dX2_joinInRow_5 : decode cX2_joinInRow 5 = .ok (.istore_n 2, 1) := by decide +kernel
theorem dX2_joinInRow_6 : decode cX2_joinInRow 6 = .ok (.iload_n 0, 1) := by decide +kernel
theorem dX2_joinInRow_7 : decode cX2_joinInRow 7 = .ok (.iconst 3, 1) := by decide +kernel
theorem dX2_joinInRow_8 : decode cX2_joinInRow 8 = .ok (.iand, 1) := by decide +kernel
theorem dX2_joinInRow_9 : decode cX2_joinInRow 9 = .ok (.ifCond .eq 7, 3) := by decide +kernel
theorem dX2_joinInRow_12 : decode cX2_joinInRow 12 = .ok (.iconst 1, 1) := by decide +kernel
theorem dX2_joinInRow_13 : decode cX2_joinInRow 13 = .ok (.goto 4, 3) := by decide +kernel
theorem dX2_joinInRow_16 : decode cX2_joinInRow 16 = .ok (.iconst 0, 1) := by decide +kernel
theorem dX2_joinInRow_17 : decode cX2_joinInRow 17 = .ok (.istore_n 3, 1) := by decide +kernel
theorem dX2_joinInRow_18 : decode cX2_joinInRow 18 = .ok (.iload_n 3, 1) := by decide +kernel
theorem dX2_joinInRow_19 : decode cX2_joinInRow 19 = .ok (.ifCond .eq 9, 3) := by decide +kernel
theorem dX2_joinInRow_22 : decode cX2_joinInRow 22 = .ok (.iload_n 1, 1) := by decide +kernel
theorem dX2_joinInRow_23 : decode cX2_joinInRow 23 = .ok (.iconst 2, 1) := by decide +kernel
theorem dX2_joinInRow_24 : decode cX2_joinInRow 24 = .ok (.iand, 1) := by decide +kernel
theorem dX2_joinInRow_25 : decode cX2_joinInRow 25 = .ok (.ifCond .ne 15, 3) := by decide +kernel
theorem dX2_joinInRow_28 : decode cX2_joinInRow 28 = .ok (.iload_n 0, 1) := by decide +kernel
theorem dX2_joinInRow_29 : decode cX2_joinInRow 29 = .ok (.iconst 2, 1) := by decide +kernel
theorem dX2_joinInRow_30 : decode cX2_joinInRow 30 = .ok (.iand, 1) := by decide +kernel
theorem dX2_joinInRow_31 : decode cX2_joinInRow 31 = .ok (.ifCond .eq 13, 3) := by decide +kernel
theorem dX2_joinInRow_34 : decode cX2_joinInRow 34 = .ok (.iload_n 1, 1) := by decide +kernel
theorem dX2_joinInRow_35 : decode cX2_joinInRow 35 = .ok (.iconst 1, 1) := by decide +kernel
theorem dX2_joinInRow_36 : decode cX2_joinInRow 36 = .ok (.iand, 1) := by decide +kernel
theorem dX2_joinInRow_37 : decode cX2_joinInRow 37 = .ok (.ifCond .eq 7, 3) := by decide +kernel
theorem dX2_joinInRow_40 : decode cX2_joinInRow 40 = .ok (.iconst 1, 1) := by decide +kernel
theorem dX2_joinInRow_41 : decode cX2_joinInRow 41 = .ok (.goto 4, 3) := by decide +kernel
theorem dX2_joinInRow_44 : decode cX2_joinInRow 44 = .ok (.iconst 0, 1) := by decide +kernel
theorem dX2_joinInRow_45 : decode cX2_joinInRow 45 = .ok (.istore 4, 2) := by decide +kernel
theorem dX2_joinInRow_47 : decode cX2_joinInRow 47 = .ok (.iload_n 0, 1) := by decide +kernel
theorem dX2_joinInRow_48 : decode cX2_joinInRow 48 = .ok (.iconst 4, 1) := by decide +kernel
theorem dX2_joinInRow_49 : decode cX2_joinInRow 49 = .ok (.iand, 1) := by decide +kernel
theorem dX2_joinInRow_50 : decode cX2_joinInRow 50 = .ok (.ifCond .ne 13, 3) := by decide +kernel
theorem dX2_joinInRow_53 : decode cX2_joinInRow 53 = .ok (.iload_n 3, 1) := by decide +kernel
theorem dX2_joinInRow_54 : decode cX2_joinInRow 54 = .ok (.ifCond .eq 13, 3) := by decide +kernel
theorem dX2_joinInRow_57 : decode cX2_joinInRow 57 = .ok (.iload_n 1, 1) := by decide +kernel
theorem dX2_joinInRow_58 : decode cX2_joinInRow 58 = .ok (.iconst 4, 1) := by decide +kernel
theorem dX2_joinInRow_59 : decode cX2_joinInRow 59 = .ok (.iand, 1) := by decide +kernel
theorem dX2_joinInRow_60 : decode cX2_joinInRow 60 = .ok (.ifCond .eq 7, 3) := by decide +kernel
theorem dX2_joinInRow_63 : decode cX2_joinInRow 63 = .ok (.iconst 1, 1) := by decide +kernel
theorem dX2_joinInRow_64 : decode cX2_joinInRow 64 = .ok (.goto 4, 3) := by decide +kernel
theorem dX2_joinInRow_67 : decode cX2_joinInRow 67 = .ok (.iconst 0, 1) := by decide +kernel
theorem dX2_joinInRow_68 : decode cX2_joinInRow 68 = .ok (.istore 5, 2) := by decide +kernel
theorem dX2_joinInRow_70 : decode cX2_joinInRow 70 = .ok (.iload_n 2, 1) := by decide +kernel
theorem dX2_joinInRow_71 : decode cX2_joinInRow 71 = .ok (.iload 4, 2) := by decide +kernel
theorem dX2_joinInRow_73 : decode cX2_joinInRow 73 = .ok (.ifCond .eq 7, 3) := by decide +kernel
theorem dX2_joinInRow_76 : decode cX2_joinInRow 76 = .ok (.iconst 2, 1) := by decide +kernel
theorem dX2_joinInRow_77 : decode cX2_joinInRow 77 = .ok (.goto 4, 3) := by decide +kernel
theorem dX2_joinInRow_80 : decode cX2_joinInRow 80 = .ok (.iconst 0, 1) := by decide +kernel
theorem dX2_joinInRow_81 : decode cX2_joinInRow 81 = .ok (.ior, 1) := by decide +kernel
theorem dX2_joinInRow_82 : decode cX2_joinInRow 82 = .ok (.iload 5, 2) := by decide +kernel
theorem dX2_joinInRow_84 : decode cX2_joinInRow 84 = .ok (.ifCond .eq 7, 3) := by decide +kernel
theorem dX2_joinInRow_87 : decode cX2_joinInRow 87 = .ok (.iconst 4, 1) := by decide +kernel
theorem dX2_joinInRow_88 : decode cX2_joinInRow 88 = .ok (.goto 4, 3) := by decide +kernel
theorem dX2_joinInRow_91 : decode cX2_joinInRow 91 = .ok (.iconst 0, 1) := by decide +kernel
theorem dX2_joinInRow_92 : decode cX2_joinInRow 92 = .ok (.ior, 1) := by decide +kernel
theorem dX2_joinInRow_93 : decode cX2_joinInRow 93 = .ok (.ireturn, 1) := by decide +kernel
theorem dX2_outcomesOfChoice_0 : decode cX2_outcomesOfChoice 0 = .ok (.aload_n 0, 1) := by decide +kernel
theorem dX2_outcomesOfChoice_1 : decode cX2_outcomesOfChoice 1 = .ok (.ifnonnull 5, 3) := by decide +kernel
theorem dX2_outcomesOfChoice_4 : decode cX2_outcomesOfChoice 4 = .ok (.iconst 0, 1) := by decide +kernel
theorem dX2_outcomesOfChoice_5 : decode cX2_outcomesOfChoice 5 = .ok (.ireturn, 1) := by decide +kernel
theorem dX2_outcomesOfChoice_6 : decode cX2_outcomesOfChoice 6 = .ok (.aload_n 0, 1) := by decide +kernel
theorem dX2_outcomesOfChoice_7 : decode cX2_outcomesOfChoice 7 = .ok (.getfield 70, 3) := by decide +kernel
theorem dX2_outcomesOfChoice_10 : decode cX2_outcomesOfChoice 10 = .ok (.istore_n 1, 1) := by decide +kernel
theorem dX2_outcomesOfChoice_11 : decode cX2_outcomesOfChoice 11 = .ok (.aload_n 0, 1) := by decide +kernel
theorem dX2_outcomesOfChoice_12 : decode cX2_outcomesOfChoice 12 = .ok (.getfield 101, 3) := by decide +kernel
theorem dX2_outcomesOfChoice_15 : decode cX2_outcomesOfChoice 15 = .ok (.astore_n 2, 1) := by decide +kernel
theorem dX2_outcomesOfChoice_16 : decode cX2_outcomesOfChoice 16 = .ok (.aload_n 2, 1) := by decide +kernel
theorem dX2_outcomesOfChoice_17 : decode cX2_outcomesOfChoice 17 = .ok (.ifnull 28, 3) := by decide +kernel
theorem dX2_outcomesOfChoice_20 : decode cX2_outcomesOfChoice 20 = .ok (.iload_n 1, 1) := by decide +kernel
theorem dX2_outcomesOfChoice_21 : decode cX2_outcomesOfChoice 21 = .ok (.iconst 4, 1) := by decide +kernel
theorem dX2_outcomesOfChoice_22 : decode cX2_outcomesOfChoice 22 = .ok (.invokestatic 107, 3) := by decide +kernel
theorem dX2_outcomesOfChoice_25 : decode cX2_outcomesOfChoice 25 = .ok (.ifCond .eq 12, 3) := by decide +kernel
theorem dX2_outcomesOfChoice_28 : decode cX2_outcomesOfChoice 28 = .ok (.iload_n 1, 1) := by decide +kernel
theorem dX2_outcomesOfChoice_29 : decode cX2_outcomesOfChoice 29 = .ok (.iconst 3, 1) := by decide +kernel
theorem dX2_outcomesOfChoice_30 : decode cX2_outcomesOfChoice 30 = .ok (.iand, 1) := by decide +kernel
theorem dX2_outcomesOfChoice_31 : decode cX2_outcomesOfChoice 31 = .ok (.aload_n 2, 1) := by decide +kernel
theorem dX2_outcomesOfChoice_32 : decode cX2_outcomesOfChoice 32 = .ok (.getfield 70, 3) := by decide +kernel
theorem dX2_outcomesOfChoice_35 : decode cX2_outcomesOfChoice 35 = .ok (.ior, 1) := by decide +kernel
theorem dX2_outcomesOfChoice_36 : decode cX2_outcomesOfChoice 36 = .ok (.istore_n 1, 1) := by decide +kernel
theorem dX2_outcomesOfChoice_37 : decode cX2_outcomesOfChoice 37 = .ok (.aload_n 2, 1) := by decide +kernel
theorem dX2_outcomesOfChoice_38 : decode cX2_outcomesOfChoice 38 = .ok (.getfield 101, 3) := by decide +kernel
theorem dX2_outcomesOfChoice_41 : decode cX2_outcomesOfChoice 41 = .ok (.astore_n 2, 1) := by decide +kernel
theorem dX2_outcomesOfChoice_42 : decode cX2_outcomesOfChoice 42 = .ok (.goto (-26), 3) := by decide +kernel
theorem dX2_outcomesOfChoice_45 : decode cX2_outcomesOfChoice 45 = .ok (.iload_n 1, 1) := by decide +kernel
theorem dX2_outcomesOfChoice_46 : decode cX2_outcomesOfChoice 46 = .ok (.ireturn, 1) := by decide +kernel
theorem dX2_outcomesOfSign_0 : decode cX2_outcomesOfSign 0 = .ok (.iload_n 0, 1) := by decide +kernel
theorem dX2_outcomesOfSign_1 : decode cX2_outcomesOfSign 1 = .ok (.tableswitch 138 5 9 #[35, 53, 74, 92, 110], 35) := by decide +kernel
theorem dX2_outcomesOfSign_36 : decode cX2_outcomesOfSign 36 = .ok (.iload_n 1, 1) := by decide +kernel
theorem dX2_outcomesOfSign_37 : decode cX2_outcomesOfSign 37 = .ok (.iconst 2, 1) := by decide +kernel
theorem dX2_outcomesOfSign_38 : decode cX2_outcomesOfSign 38 = .ok (.iand, 1) := by decide +kernel
theorem dX2_outcomesOfSign_39 : decode cX2_outcomesOfSign 39 = .ok (.iload_n 1, 1) := by decide +kernel
theorem dX2_outcomesOfSign_40 : decode cX2_outcomesOfSign 40 = .ok (.iconst 4, 1) := by decide +kernel
theorem dX2_outcomesOfSign_41 : decode cX2_outcomesOfSign 41 = .ok (.invokestatic 107, 3) := by decide +kernel
theorem dX2_outcomesOfSign_44 : decode cX2_outcomesOfSign 44 = .ok (.ifCond .eq 7, 3) := by decide +kernel
theorem dX2_outcomesOfSign_47 : decode cX2_outcomesOfSign 47 = .ok (.iconst 1, 1) := by decide +kernel
theorem dX2_outcomesOfSign_48 : decode cX2_outcomesOfSign 48 = .ok (.goto 4, 3) := by decide +kernel
theorem dX2_outcomesOfSign_51 : decode cX2_outcomesOfSign 51 = .ok (.iconst 0, 1) := by decide +kernel
theorem dX2_outcomesOfSign_52 : decode cX2_outcomesOfSign 52 = .ok (.ior, 1) := by decide +kernel
theorem dX2_outcomesOfSign_53 : decode cX2_outcomesOfSign 53 = .ok (.ireturn, 1) := by decide +kernel
theorem dX2_outcomesOfSign_54 : decode cX2_outcomesOfSign 54 = .ok (.iload_n 1, 1) := by decide +kernel
theorem dX2_outcomesOfSign_55 : decode cX2_outcomesOfSign 55 = .ok (.bipush 6, 2) := by decide +kernel
theorem dX2_outcomesOfSign_57 : decode cX2_outcomesOfSign 57 = .ok (.iand, 1) := by decide +kernel
theorem dX2_outcomesOfSign_58 : decode cX2_outcomesOfSign 58 = .ok (.iload_n 1, 1) := by decide +kernel
theorem dX2_outcomesOfSign_59 : decode cX2_outcomesOfSign 59 = .ok (.iconst 4, 1) := by decide +kernel
theorem dX2_outcomesOfSign_60 : decode cX2_outcomesOfSign 60 = .ok (.invokestatic 107, 3) := by decide +kernel
theorem dX2_outcomesOfSign_63 : decode cX2_outcomesOfSign 63 = .ok (.ifCond .eq 9, 3) := by decide +kernel
theorem dX2_outcomesOfSign_66 : decode cX2_outcomesOfSign 66 = .ok (.iload_n 1, 1) := by decide +kernel
theorem dX2_outcomesOfSign_67 : decode cX2_outcomesOfSign 67 = .ok (.iconst 1, 1) := by decide +kernel
theorem dX2_outcomesOfSign_68 : decode cX2_outcomesOfSign 68 = .ok (.iand, 1) := by decide +kernel
theorem dX2_outcomesOfSign_69 : decode cX2_outcomesOfSign 69 = .ok (.goto 4, 3) := by decide +kernel
theorem dX2_outcomesOfSign_72 : decode cX2_outcomesOfSign 72 = .ok (.iconst 0, 1) := by decide +kernel
theorem dX2_outcomesOfSign_73 : decode cX2_outcomesOfSign 73 = .ok (.ior, 1) := by decide +kernel
theorem dX2_outcomesOfSign_74 : decode cX2_outcomesOfSign 74 = .ok (.ireturn, 1) := by decide +kernel
theorem dX2_outcomesOfSign_75 : decode cX2_outcomesOfSign 75 = .ok (.iload_n 1, 1) := by decide +kernel
theorem dX2_outcomesOfSign_76 : decode cX2_outcomesOfSign 76 = .ok (.iconst 2, 1) := by decide +kernel
theorem dX2_outcomesOfSign_77 : decode cX2_outcomesOfSign 77 = .ok (.iand, 1) := by decide +kernel
theorem dX2_outcomesOfSign_78 : decode cX2_outcomesOfSign 78 = .ok (.iload_n 1, 1) := by decide +kernel
theorem dX2_outcomesOfSign_79 : decode cX2_outcomesOfSign 79 = .ok (.iconst 5, 1) := by decide +kernel
theorem dX2_outcomesOfSign_80 : decode cX2_outcomesOfSign 80 = .ok (.invokestatic 107, 3) := by decide +kernel
theorem dX2_outcomesOfSign_83 : decode cX2_outcomesOfSign 83 = .ok (.ifCond .eq 7, 3) := by decide +kernel
theorem dX2_outcomesOfSign_86 : decode cX2_outcomesOfSign 86 = .ok (.iconst 1, 1) := by decide +kernel
theorem dX2_outcomesOfSign_87 : decode cX2_outcomesOfSign 87 = .ok (.goto 4, 3) := by decide +kernel
theorem dX2_outcomesOfSign_90 : decode cX2_outcomesOfSign 90 = .ok (.iconst 0, 1) := by decide +kernel
theorem dX2_outcomesOfSign_91 : decode cX2_outcomesOfSign 91 = .ok (.ior, 1) := by decide +kernel
theorem dX2_outcomesOfSign_92 : decode cX2_outcomesOfSign 92 = .ok (.ireturn, 1) := by decide +kernel
theorem dX2_outcomesOfSign_93 : decode cX2_outcomesOfSign 93 = .ok (.iload_n 1, 1) := by decide +kernel
theorem dX2_outcomesOfSign_94 : decode cX2_outcomesOfSign 94 = .ok (.iconst 4, 1) := by decide +kernel
theorem dX2_outcomesOfSign_95 : decode cX2_outcomesOfSign 95 = .ok (.iand, 1) := by decide +kernel
theorem dX2_outcomesOfSign_96 : decode cX2_outcomesOfSign 96 = .ok (.iload_n 1, 1) := by decide +kernel
theorem dX2_outcomesOfSign_97 : decode cX2_outcomesOfSign 97 = .ok (.iconst 3, 1) := by decide +kernel
theorem dX2_outcomesOfSign_98 : decode cX2_outcomesOfSign 98 = .ok (.invokestatic 107, 3) := by decide +kernel
theorem dX2_outcomesOfSign_101 : decode cX2_outcomesOfSign 101 = .ok (.ifCond .eq 7, 3) := by decide +kernel
theorem dX2_outcomesOfSign_104 : decode cX2_outcomesOfSign 104 = .ok (.iconst 1, 1) := by decide +kernel
theorem dX2_outcomesOfSign_105 : decode cX2_outcomesOfSign 105 = .ok (.goto 4, 3) := by decide +kernel
theorem dX2_outcomesOfSign_108 : decode cX2_outcomesOfSign 108 = .ok (.iconst 0, 1) := by decide +kernel
theorem dX2_outcomesOfSign_109 : decode cX2_outcomesOfSign 109 = .ok (.ior, 1) := by decide +kernel
theorem dX2_outcomesOfSign_110 : decode cX2_outcomesOfSign 110 = .ok (.ireturn, 1) := by decide +kernel
theorem dX2_outcomesOfSign_111 : decode cX2_outcomesOfSign 111 = .ok (.iload_n 1, 1) := by decide +kernel
theorem dX2_outcomesOfSign_112 : decode cX2_outcomesOfSign 112 = .ok (.iconst 4, 1) := by decide +kernel
theorem dX2_outcomesOfSign_113 : decode cX2_outcomesOfSign 113 = .ok (.invokestatic 107, 3) := by decide +kernel
theorem dX2_outcomesOfSign_116 : decode cX2_outcomesOfSign 116 = .ok (.ifCond .eq 7, 3) := by decide +kernel
theorem dX2_outcomesOfSign_119 : decode cX2_outcomesOfSign 119 = .ok (.iconst 1, 1) := by decide +kernel
theorem dX2_outcomesOfSign_120 : decode cX2_outcomesOfSign 120 = .ok (.goto 4, 3) := by decide +kernel
theorem dX2_outcomesOfSign_123 : decode cX2_outcomesOfSign 123 = .ok (.iconst 0, 1) := by decide +kernel
theorem dX2_outcomesOfSign_124 : decode cX2_outcomesOfSign 124 = .ok (.iload_n 1, 1) := by decide +kernel
theorem dX2_outcomesOfSign_125 : decode cX2_outcomesOfSign 125 = .ok (.iconst 3, 1) := by decide +kernel
theorem dX2_outcomesOfSign_126 : decode cX2_outcomesOfSign 126 = .ok (.invokestatic 107, 3) := by decide +kernel
theorem dX2_outcomesOfSign_129 : decode cX2_outcomesOfSign 129 = .ok (.ifCond .eq 7, 3) := by decide +kernel
theorem dX2_outcomesOfSign_132 : decode cX2_outcomesOfSign 132 = .ok (.iconst 4, 1) := by decide +kernel
theorem dX2_outcomesOfSign_133 : decode cX2_outcomesOfSign 133 = .ok (.goto 4, 3) := by decide +kernel
theorem dX2_outcomesOfSign_136 : decode cX2_outcomesOfSign 136 = .ok (.iconst 0, 1) := by decide +kernel
theorem dX2_outcomesOfSign_137 : decode cX2_outcomesOfSign 137 = .ok (.ior, 1) := by decide +kernel
theorem dX2_outcomesOfSign_138 : decode cX2_outcomesOfSign 138 = .ok (.ireturn, 1) := by decide +kernel
theorem dX2_outcomesOfSign_139 : decode cX2_outcomesOfSign 139 = .ok (.iconst 0, 1) := by decide +kernel
theorem dX2_outcomesOfSign_140 : decode cX2_outcomesOfSign 140 = .ok (.ireturn, 1) := by decide +kernel
theorem dX2_any_0 : decode cX2_any 0 = .ok (.iload_n 0, 1) := by decide +kernel
theorem dX2_any_1 : decode cX2_any 1 = .ok (.iload_n 1, 1) := by decide +kernel
theorem dX2_any_2 : decode cX2_any 2 = .ok (.iand, 1) := by decide +kernel
theorem dX2_any_3 : decode cX2_any 3 = .ok (.ifCond .eq 7, 3) := by decide +kernel
theorem dX2_any_6 : decode cX2_any 6 = .ok (.iconst 1, 1) := by decide +kernel
theorem dX2_any_7 : decode cX2_any 7 = .ok (.goto 4, 3) := by decide +kernel
theorem dX2_any_10 : decode cX2_any 10 = .ok (.iconst 0, 1) := by decide +kernel
theorem dX2_any_11 : decode cX2_any 11 = .ok (.ireturn, 1) := by decide +kernel
theorem dX2_findGood_0 : decode cX2_findGood 0 = .ok (.iconst 1, 1) := by decide +kernel
theorem dX2_findGood_1 : decode cX2_findGood 1 = .ok (.istore_n 1, 1) := by decide +kernel
theorem dX2_findGood_2 : decode cX2_findGood 2 = .ok (.iconst 0, 1) := by decide +kernel
theorem dX2_findGood_3 : decode cX2_findGood 3 = .ok (.istore_n 2, 1) := by decide +kernel
theorem dX2_findGood_4 : decode cX2_findGood 4 = .ok (.iload_n 2, 1) := by decide +kernel
theorem dX2_findGood_5 : decode cX2_findGood 5 = .ok (.bipush 19, 2) := by decide +kernel
theorem dX2_findGood_7 : decode cX2_findGood 7 = .ok (.if_icmp .ge 68, 3) := by decide +kernel
theorem dX2_findGood_10 : decode cX2_findGood 10 = .ok (.iload_n 1, 1) := by decide +kernel
theorem dX2_findGood_11 : decode cX2_findGood 11 = .ok (.ifCond .eq 64, 3) := by decide +kernel
theorem dX2_findGood_14 : decode cX2_findGood 14 = .ok (.iconst 0, 1) := by decide +kernel
theorem dX2_findGood_15 : decode cX2_findGood 15 = .ok (.istore_n 1, 1) := by decide +kernel
theorem dX2_findGood_16 : decode cX2_findGood 16 = .ok (.aload_n 0, 1) := by decide +kernel
theorem dX2_findGood_17 : decode cX2_findGood 17 = .ok (.getfield 11, 3) := by decide +kernel
theorem dX2_findGood_20 : decode cX2_findGood 20 = .ok (.astore_n 3, 1) := by decide +kernel
theorem dX2_findGood_21 : decode cX2_findGood 21 = .ok (.aload_n 3, 1) := by decide +kernel
theorem dX2_findGood_22 : decode cX2_findGood 22 = .ok (.arraylength, 1) := by decide +kernel
theorem dX2_findGood_23 : decode cX2_findGood 23 = .ok (.istore 4, 2) := by decide +kernel
theorem dX2_findGood_25 : decode cX2_findGood 25 = .ok (.iconst 0, 1) := by decide +kernel
theorem dX2_findGood_26 : decode cX2_findGood 26 = .ok (.istore 5, 2) := by decide +kernel
theorem dX2_findGood_28 : decode cX2_findGood 28 = .ok (.iload 5, 2) := by decide +kernel
theorem dX2_findGood_30 : decode cX2_findGood 30 = .ok (.iload 4, 2) := by decide +kernel
theorem dX2_findGood_32 : decode cX2_findGood 32 = .ok (.if_icmp .ge 37, 3) := by decide +kernel
theorem dX2_findGood_35 : decode cX2_findGood 35 = .ok (.aload_n 3, 1) := by decide +kernel
theorem dX2_findGood_36 : decode cX2_findGood 36 = .ok (.iload 5, 2) := by decide +kernel
theorem dX2_findGood_38 : decode cX2_findGood 38 = .ok (.aaload, 1) := by decide +kernel
theorem dX2_findGood_39 : decode cX2_findGood 39 = .ok (.astore 6, 2) := by decide +kernel
theorem dX2_findGood_41 : decode cX2_findGood 41 = .ok (.iload_n 1, 1) := by decide +kernel
theorem dX2_findGood_42 : decode cX2_findGood 42 = .ok (.aload 6, 2) := by decide +kernel
theorem dX2_findGood_44 : decode cX2_findGood 44 = .ok (.ifnull 16, 3) := by decide +kernel
theorem dX2_findGood_47 : decode cX2_findGood 47 = .ok (.aload_n 0, 1) := by decide +kernel
theorem dX2_findGood_48 : decode cX2_findGood 48 = .ok (.aload 6, 2) := by decide +kernel
theorem dX2_findGood_50 : decode cX2_findGood 50 = .ok (.invokevirtual 111, 3) := by decide +kernel
theorem dX2_findGood_53 : decode cX2_findGood 53 = .ok (.ifCond .eq 7, 3) := by decide +kernel
theorem dX2_findGood_56 : decode cX2_findGood 56 = .ok (.iconst 1, 1) := by decide +kernel
theorem dX2_findGood_57 : decode cX2_findGood 57 = .ok (.goto 4, 3) := by decide +kernel
theorem dX2_findGood_60 : decode cX2_findGood 60 = .ok (.iconst 0, 1) := by decide +kernel
theorem dX2_findGood_61 : decode cX2_findGood 61 = .ok (.ior, 1) := by decide +kernel
theorem dX2_findGood_62 : decode cX2_findGood 62 = .ok (.istore_n 1, 1) := by decide +kernel
theorem dX2_findGood_63 : decode cX2_findGood 63 = .ok (.iinc 5 1, 3) := by decide +kernel
theorem dX2_findGood_66 : decode cX2_findGood 66 = .ok (.goto (-38), 3) := by decide +kernel
theorem dX2_findGood_69 : decode cX2_findGood 69 = .ok (.iinc 2 1, 3) := by decide +kernel
theorem dX2_findGood_72 : decode cX2_findGood 72 = .ok (.goto (-68), 3) := by decide +kernel
theorem dX2_findGood_75 : decode cX2_findGood 75 = .ok (.return_, 1) := by decide +kernel
theorem dX2_findGoodIn_0 : decode cX2_findGoodIn 0 = .ok (.aload_n 1, 1) := by decide +kernel
theorem dX2_findGoodIn_1 : decode cX2_findGoodIn 1 = .ok (.invokevirtual 114, 3) := by decide +kernel
theorem dX2_findGoodIn_4 : decode cX2_findGoodIn 4 = .ok (.istore_n 2, 1) := by decide +kernel
theorem dX2_findGoodIn_5 : decode cX2_findGoodIn 5 = .ok (.aload_n 1, 1) := by decide +kernel
theorem dX2_findGoodIn_6 : decode cX2_findGoodIn 6 = .ok (.getfield 62, 3) := by decide +kernel
theorem dX2_findGoodIn_9 : decode cX2_findGoodIn 9 = .ok (.astore_n 3, 1) := by decide +kernel
theorem dX2_findGoodIn_10 : decode cX2_findGoodIn 10 = .ok (.aload_n 3, 1) := by decide +kernel
theorem dX2_findGoodIn_11 : decode cX2_findGoodIn 11 = .ok (.ifnull 20, 3) := by decide +kernel
theorem dX2_findGoodIn_14 : decode cX2_findGoodIn 14 = .ok (.aload_n 3, 1) := by decide +kernel
theorem dX2_findGoodIn_15 : decode cX2_findGoodIn 15 = .ok (.aload_n 0, 1) := by decide +kernel
theorem dX2_findGoodIn_16 : decode cX2_findGoodIn 16 = .ok (.aload_n 3, 1) := by decide +kernel
theorem dX2_findGoodIn_17 : decode cX2_findGoodIn 17 = .ok (.invokevirtual 117, 3) := by decide +kernel
theorem dX2_findGoodIn_20 : decode cX2_findGoodIn 20 = .ok (.putfield 121, 3) := by decide +kernel
theorem dX2_findGoodIn_23 : decode cX2_findGoodIn 23 = .ok (.aload_n 3, 1) := by decide +kernel
theorem dX2_findGoodIn_24 : decode cX2_findGoodIn 24 = .ok (.getfield 75, 3) := by decide +kernel
theorem dX2_findGoodIn_27 : decode cX2_findGoodIn 27 = .ok (.astore_n 3, 1) := by decide +kernel
theorem dX2_findGoodIn_28 : decode cX2_findGoodIn 28 = .ok (.goto (-18), 3) := by decide +kernel
theorem dX2_findGoodIn_31 : decode cX2_findGoodIn 31 = .ok (.aload_n 1, 1) := by decide +kernel
theorem dX2_findGoodIn_32 : decode cX2_findGoodIn 32 = .ok (.invokevirtual 114, 3) := by decide +kernel
theorem dX2_findGoodIn_35 : decode cX2_findGoodIn 35 = .ok (.iload_n 2, 1) := by decide +kernel
theorem dX2_findGoodIn_36 : decode cX2_findGoodIn 36 = .ok (.if_icmp .eq 7, 3) := by decide +kernel
theorem dX2_findGoodIn_39 : decode cX2_findGoodIn 39 = .ok (.iconst 1, 1) := by decide +kernel
theorem dX2_findGoodIn_40 : decode cX2_findGoodIn 40 = .ok (.goto 4, 3) := by decide +kernel
theorem dX2_findGoodIn_43 : decode cX2_findGoodIn 43 = .ok (.iconst 0, 1) := by decide +kernel
theorem dX2_findGoodIn_44 : decode cX2_findGoodIn 44 = .ok (.ireturn, 1) := by decide +kernel
theorem dX2_isGood_0 : decode cX2_isGood 0 = .ok (.aload_n 1, 1) := by decide +kernel
theorem dX2_isGood_1 : decode cX2_isGood 1 = .ok (.getfield 78, 3) := by decide +kernel
theorem dX2_isGood_4 : decode cX2_isGood 4 = .ok (.tableswitch 121 1 6 #[40, 42, 68, 76, 84, 84], 40) := by decide +kernel
theorem dX2_isGood_44 : decode cX2_isGood 44 = .ok (.iconst 1, 1) := by decide +kernel
theorem dX2_isGood_45 : decode cX2_isGood 45 = .ok (.ireturn, 1) := by decide +kernel
theorem dX2_isGood_46 : decode cX2_isGood 46 = .ok (.aload_n 0, 1) := by decide +kernel
theorem dX2_isGood_47 : decode cX2_isGood 47 = .ok (.aload_n 1, 1) := by decide +kernel
theorem dX2_isGood_48 : decode cX2_isGood 48 = .ok (.getfield 81, 3) := by decide +kernel
theorem dX2_isGood_51 : decode cX2_isGood 51 = .ok (.invokevirtual 84, 3) := by decide +kernel
theorem dX2_isGood_54 : decode cX2_isGood 54 = .ok (.astore_n 2, 1) := by decide +kernel
theorem dX2_isGood_55 : decode cX2_isGood 55 = .ok (.aload_n 2, 1) := by decide +kernel
theorem dX2_isGood_56 : decode cX2_isGood 56 = .ok (.ifnull 14, 3) := by decide +kernel
theorem dX2_isGood_59 : decode cX2_isGood 59 = .ok (.aload_n 2, 1) := by decide +kernel
theorem dX2_isGood_60 : decode cX2_isGood 60 = .ok (.invokevirtual 114, 3) := by decide +kernel
theorem dX2_isGood_63 : decode cX2_isGood 63 = .ok (.ifCond .eq 7, 3) := by decide +kernel
theorem dX2_isGood_66 : decode cX2_isGood 66 = .ok (.iconst 1, 1) := by decide +kernel
theorem dX2_isGood_67 : decode cX2_isGood 67 = .ok (.goto 4, 3) := by decide +kernel
theorem dX2_isGood_70 : decode cX2_isGood 70 = .ok (.iconst 0, 1) := by decide +kernel
theorem dX2_isGood_71 : decode cX2_isGood 71 = .ok (.ireturn, 1) := by decide +kernel
theorem dX2_isGood_72 : decode cX2_isGood 72 = .ok (.aload_n 1, 1) := by decide +kernel
theorem dX2_isGood_73 : decode cX2_isGood 73 = .ok (.getfield 88, 3) := by decide +kernel
theorem dX2_isGood_76 : decode cX2_isGood 76 = .ok (.invokestatic 125, 3) := by decide +kernel
theorem dX2_isGood_79 : decode cX2_isGood 79 = .ok (.ireturn, 1) := by decide +kernel
theorem dX2_isGood_80 : decode cX2_isGood 80 = .ok (.aload_n 1, 1) := by decide +kernel
theorem dX2_isGood_81 : decode cX2_isGood 81 = .ok (.getfield 88, 3) := by decide +kernel
theorem dX2_isGood_84 : decode cX2_isGood 84 = .ok (.invokestatic 128, 3) := by decide +kernel
theorem dX2_isGood_87 : decode cX2_isGood 87 = .ok (.ireturn, 1) := by decide +kernel
theorem dX2_isGood_88 : decode cX2_isGood 88 = .ok (.aload_n 1, 1) := by decide +kernel
theorem dX2_isGood_89 : decode cX2_isGood 89 = .ok (.getfield 88, 3) := by decide +kernel
theorem dX2_isGood_92 : decode cX2_isGood 92 = .ok (.ifnull 31, 3) := by decide +kernel
theorem dX2_isGood_95 : decode cX2_isGood 95 = .ok (.aload_n 1, 1) := by decide +kernel
theorem dX2_isGood_96 : decode cX2_isGood 96 = .ok (.getfield 88, 3) := by decide +kernel
theorem dX2_isGood_99 : decode cX2_isGood 99 = .ok (.getfield 121, 3) := by decide +kernel
theorem dX2_isGood_102 : decode cX2_isGood 102 = .ok (.ifCond .eq 21, 3) := by decide +kernel
theorem dX2_isGood_105 : decode cX2_isGood 105 = .ok (.aload_n 1, 1) := by decide +kernel
theorem dX2_isGood_106 : decode cX2_isGood 106 = .ok (.getfield 88, 3) := by decide +kernel
theorem dX2_isGood_109 : decode cX2_isGood 109 = .ok (.getfield 70, 3) := by decide +kernel
theorem dX2_isGood_112 : decode cX2_isGood 112 = .ok (.iconst 1, 1) := by decide +kernel
theorem dX2_isGood_113 : decode cX2_isGood 113 = .ok (.invokestatic 107, 3) := by decide +kernel
theorem dX2_isGood_116 : decode cX2_isGood 116 = .ok (.ifCond .ne 7, 3) := by decide +kernel
theorem dX2_isGood_119 : decode cX2_isGood 119 = .ok (.iconst 1, 1) := by decide +kernel
theorem dX2_isGood_120 : decode cX2_isGood 120 = .ok (.goto 4, 3) := by decide +kernel
theorem dX2_isGood_123 : decode cX2_isGood 123 = .ok (.iconst 0, 1) := by decide +kernel
theorem dX2_isGood_124 : decode cX2_isGood 124 = .ok (.ireturn, 1) := by decide +kernel
theorem dX2_isGood_125 : decode cX2_isGood 125 = .ok (.aload_n 1, 1) := by decide +kernel
theorem dX2_isGood_126 : decode cX2_isGood 126 = .ok (.getfield 88, 3) := by decide +kernel
theorem dX2_isGood_129 : decode cX2_isGood 129 = .ok (.ifnull 17, 3) := by decide +kernel
theorem dX2_isGood_132 : decode cX2_isGood 132 = .ok (.aload_n 1, 1) := by decide +kernel
theorem dX2_isGood_133 : decode cX2_isGood 133 = .ok (.getfield 88, 3) := by decide +kernel
theorem dX2_isGood_136 : decode cX2_isGood 136 = .ok (.getfield 121, 3) := by decide +kernel
theorem dX2_isGood_139 : decode cX2_isGood 139 = .ok (.ifCond .eq 7, 3) := by decide +kernel
theorem dX2_isGood_142 : decode cX2_isGood 142 = .ok (.iconst 1, 1) := by decide +kernel
theorem dX2_isGood_143 : decode cX2_isGood 143 = .ok (.goto 4, 3) := by decide +kernel
theorem dX2_isGood_146 : decode cX2_isGood 146 = .ok (.iconst 0, 1) := by decide +kernel
theorem dX2_isGood_147 : decode cX2_isGood 147 = .ok (.ireturn, 1) := by decide +kernel
theorem dX2_isGoodRow_0 : decode cX2_isGoodRow 0 = .ok (.aload_n 0, 1) := by decide +kernel
theorem dX2_isGoodRow_1 : decode cX2_isGoodRow 1 = .ok (.astore_n 1, 1) := by decide +kernel
theorem dX2_isGoodRow_2 : decode cX2_isGoodRow 2 = .ok (.aload_n 1, 1) := by decide +kernel
theorem dX2_isGoodRow_3 : decode cX2_isGoodRow 3 = .ok (.ifnull 33, 3) := by decide +kernel
theorem dX2_isGoodRow_6 : decode cX2_isGoodRow 6 = .ok (.aload_n 1, 1) := by decide +kernel
theorem dX2_isGoodRow_7 : decode cX2_isGoodRow 7 = .ok (.getfield 121, 3) := by decide +kernel
theorem dX2_isGoodRow_10 : decode cX2_isGoodRow 10 = .ok (.ifCond .ne 5, 3) := by decide +kernel
theorem dX2_isGoodRow_13 : decode cX2_isGoodRow 13 = .ok (.iconst 0, 1) := by decide +kernel
theorem dX2_isGoodRow_14 : decode cX2_isGoodRow 14 = .ok (.ireturn, 1) := by decide +kernel
theorem dX2_isGoodRow_15 : decode cX2_isGoodRow 15 = .ok (.aload_n 1, 1) := by decide +kernel
theorem dX2_isGoodRow_16 : decode cX2_isGoodRow 16 = .ok (.getfield 70, 3) := by decide +kernel
theorem dX2_isGoodRow_19 : decode cX2_isGoodRow 19 = .ok (.iconst 1, 1) := by decide +kernel
theorem dX2_isGoodRow_20 : decode cX2_isGoodRow 20 = .ok (.invokestatic 107, 3) := by decide +kernel
theorem dX2_isGoodRow_23 : decode cX2_isGoodRow 23 = .ok (.ifCond .ne 5, 3) := by decide +kernel
theorem dX2_isGoodRow_26 : decode cX2_isGoodRow 26 = .ok (.iconst 1, 1) := by decide +kernel
theorem dX2_isGoodRow_27 : decode cX2_isGoodRow 27 = .ok (.ireturn, 1) := by decide +kernel
theorem dX2_isGoodRow_28 : decode cX2_isGoodRow 28 = .ok (.aload_n 1, 1) := by decide +kernel
theorem dX2_isGoodRow_29 : decode cX2_isGoodRow 29 = .ok (.getfield 101, 3) := by decide +kernel
theorem dX2_isGoodRow_32 : decode cX2_isGoodRow 32 = .ok (.astore_n 1, 1) := by decide +kernel
theorem dX2_isGoodRow_33 : decode cX2_isGoodRow 33 = .ok (.goto (-31), 3) := by decide +kernel
theorem dX2_isGoodRow_36 : decode cX2_isGoodRow 36 = .ok (.iconst 1, 1) := by decide +kernel
theorem dX2_isGoodRow_37 : decode cX2_isGoodRow 37 = .ok (.ireturn, 1) := by decide +kernel
theorem dX2_isGoodChoice_0 : decode cX2_isGoodChoice 0 = .ok (.aload_n 0, 1) := by decide +kernel
theorem dX2_isGoodChoice_1 : decode cX2_isGoodChoice 1 = .ok (.astore_n 1, 1) := by decide +kernel
theorem dX2_isGoodChoice_2 : decode cX2_isGoodChoice 2 = .ok (.aload_n 1, 1) := by decide +kernel
theorem dX2_isGoodChoice_3 : decode cX2_isGoodChoice 3 = .ok (.ifnull 20, 3) := by decide +kernel
theorem dX2_isGoodChoice_6 : decode cX2_isGoodChoice 6 = .ok (.aload_n 1, 1) := by decide +kernel
theorem dX2_isGoodChoice_7 : decode cX2_isGoodChoice 7 = .ok (.getfield 121, 3) := by decide +kernel
theorem dX2_isGoodChoice_10 : decode cX2_isGoodChoice 10 = .ok (.ifCond .ne 5, 3) := by decide +kernel
theorem dX2_isGoodChoice_13 : decode cX2_isGoodChoice 13 = .ok (.iconst 0, 1) := by decide +kernel
theorem dX2_isGoodChoice_14 : decode cX2_isGoodChoice 14 = .ok (.ireturn, 1) := by decide +kernel
theorem dX2_isGoodChoice_15 : decode cX2_isGoodChoice 15 = .ok (.aload_n 1, 1) := by decide +kernel
theorem dX2_isGoodChoice_16 : decode cX2_isGoodChoice 16 = .ok (.getfield 101, 3) := by decide +kernel
theorem dX2_isGoodChoice_19 : decode cX2_isGoodChoice 19 = .ok (.astore_n 1, 1) := by decide +kernel
theorem dX2_isGoodChoice_20 : decode cX2_isGoodChoice 20 = .ok (.goto (-18), 3) := by decide +kernel
theorem dX2_isGoodChoice_23 : decode cX2_isGoodChoice 23 = .ok (.iconst 1, 1) := by decide +kernel
theorem dX2_isGoodChoice_24 : decode cX2_isGoodChoice 24 = .ok (.ireturn, 1) := by decide +kernel
theorem dX3_init_0 : decode cX3_init 0 = .ok (.aload_n 0, 1) := by decide +kernel
theorem dX3_init_1 : decode cX3_init 1 = .ok (.invokespecial 3, 3) := by decide +kernel
theorem dX3_init_4 : decode cX3_init 4 = .ok (.aload_n 0, 1) := by decide +kernel
theorem dX3_init_5 : decode cX3_init 5 = .ok (.aload_n 1, 1) := by decide +kernel
theorem dX3_init_6 : decode cX3_init 6 = .ok (.putfield 9, 3) := by decide +kernel
theorem dX3_init_9 : decode cX3_init 9 = .ok (.aload_n 0, 1) := by decide +kernel
theorem dX3_init_10 : decode cX3_init 10 = .ok (.aload_n 2, 1) := by decide +kernel
theorem dX3_init_11 : decode cX3_init 11 = .ok (.putfield 15, 3) := by decide +kernel
theorem dX3_init_14 : decode cX3_init 14 = .ok (.aload_n 0, 1) := by decide +kernel
theorem dX3_init_15 : decode cX3_init 15 = .ok (.aload_n 3, 1) := by decide +kernel
theorem dX3_init_16 : decode cX3_init 16 = .ok (.putfield 19, 3) := by decide +kernel
theorem dX3_init_19 : decode cX3_init 19 = .ok (.return_, 1) := by decide +kernel
theorem dX3_begun_0 : decode cX3_begun 0 = .ok (.aload_n 0, 1) := by decide +kernel
theorem dX3_begun_1 : decode cX3_begun 1 = .ok (.getfield 23, 3) := by decide +kernel
theorem dX3_begun_4 : decode cX3_begun 4 = .ok (.ireturn, 1) := by decide +kernel
theorem dX3_remembered_0 : decode cX3_remembered 0 = .ok (.aload_n 0, 1) := by decide +kernel
theorem dX3_remembered_1 : decode cX3_remembered 1 = .ok (.getfield 27, 3) := by decide +kernel
theorem dX3_remembered_4 : decode cX3_remembered 4 = .ok (.ireturn, 1) := by decide +kernel
theorem dX3_matchRule_0 : decode cX3_matchRule 0 = .ok (.iload_n 1, 1) := by decide +kernel
theorem dX3_matchRule_1 : decode cX3_matchRule 1 = .ok (.iload_n 2, 1) := by decide +kernel
theorem dX3_matchRule_2 : decode cX3_matchRule 2 = .ok (.invokestatic 30, 3) := by decide +kernel
theorem dX3_matchRule_5 : decode cX3_matchRule 5 = .ok (.istore 4, 2) := by decide +kernel
theorem dX3_matchRule_7 : decode cX3_matchRule 7 = .ok (.aload_n 0, 1) := by decide +kernel
theorem dX3_matchRule_8 : decode cX3_matchRule 8 = .ok (.getfield 19, 3) := by decide +kernel
theorem dX3_matchRule_11 : decode cX3_matchRule 11 = .ok (.iload 4, 2) := by decide +kernel
theorem dX3_matchRule_13 : decode cX3_matchRule 13 = .ok (.invokevirtual 36, 3) := by decide +kernel
theorem dX3_matchRule_16 : decode cX3_matchRule 16 = .ok (.istore 5, 2) := by decide +kernel
theorem dX3_matchRule_18 : decode cX3_matchRule 18 = .ok (.iload 5, 2) := by decide +kernel
theorem dX3_matchRule_20 : decode cX3_matchRule 20 = .ok (.bipush (-2), 2) := by decide +kernel
theorem dX3_matchRule_22 : decode cX3_matchRule 22 = .ok (.if_icmp .eq 16, 3) := by decide +kernel
theorem dX3_matchRule_25 : decode cX3_matchRule 25 = .ok (.aload_n 0, 1) := by decide +kernel
theorem dX3_matchRule_26 : decode cX3_matchRule 26 = .ok (.dup, 1) := by decide +kernel
theorem dX3_matchRule_27 : decode cX3_matchRule 27 = .ok (.getfield 27, 3) := by decide +kernel
theorem dX3_matchRule_30 : decode cX3_matchRule 30 = .ok (.iconst 1, 1) := by decide +kernel
theorem dX3_matchRule_31 : decode cX3_matchRule 31 = .ok (.iadd, 1) := by decide +kernel
theorem dX3_matchRule_32 : decode cX3_matchRule 32 = .ok (.putfield 27, 3) := by decide +kernel
theorem dX3_matchRule_35 : decode cX3_matchRule 35 = .ok (.iload 5, 2) := by decide +kernel
theorem dX3_matchRule_37 : decode cX3_matchRule 37 = .ok (.ireturn, 1) := by decide +kernel
theorem dX3_matchRule_38 : decode cX3_matchRule 38 = .ok (.aload_n 0, 1) := by decide +kernel
theorem dX3_matchRule_39 : decode cX3_matchRule 39 = .ok (.iload_n 1, 1) := by decide +kernel
theorem dX3_matchRule_40 : decode cX3_matchRule 40 = .ok (.iload_n 2, 1) := by decide +kernel
theorem dX3_matchRule_41 : decode cX3_matchRule 41 = .ok (.iload_n 3, 1) := by decide +kernel
theorem dX3_matchRule_42 : decode cX3_matchRule 42 = .ok (.iload 4, 2) := by decide +kernel
theorem dX3_matchRule_44 : decode cX3_matchRule 44 = .ok (.invokevirtual 40, 3) := by decide +kernel
theorem dX3_matchRule_47 : decode cX3_matchRule 47 = .ok (.ireturn, 1) := by decide +kernel
theorem dX3_workOut_0 : decode cX3_workOut 0 = .ok (.iload_n 3, 1) := by decide +kernel
theorem dX3_workOut_1 : decode cX3_workOut 1 = .ok (.bipush 40, 2) := by decide +kernel
theorem dX3_workOut_3 : decode cX3_workOut 3 = .ok (.if_icmp .le 13, 3) := by decide +kernel
theorem dX3_workOut_6 : decode cX3_workOut 6 = .ok (.new 44, 3) := by decide +kernel
theorem dX3_workOut_9 : decode cX3_workOut 9 = .ok (.dup, 1) := by decide +kernel
theorem dX3_workOut_10 : decode cX3_workOut 10 = .ok (.ldc 46, 2) := by decide +kernel
theorem dX3_workOut_12 : decode cX3_workOut 12 = .ok (.invokespecial 48, 3) := by decide +kernel
theorem dX3_workOut_15 : decode cX3_workOut 15 = .ok (.athrow, 1) := by decide +kernel
theorem dX3_workOut_16 : decode cX3_workOut 16 = .ok (.aload_n 0, 1) := by decide +kernel
theorem dX3_workOut_17 : decode cX3_workOut 17 = .ok (.dup, 1) := by decide +kernel
theorem dX3_workOut_18 : decode cX3_workOut 18 = .ok (.getfield 23, 3) := by decide +kernel
theorem dX3_workOut_21 : decode cX3_workOut 21 = .ok (.iconst 1, 1) := by decide +kernel
theorem dX3_workOut_22 : decode cX3_workOut 22 = .ok (.iadd, 1) := by decide +kernel
theorem dX3_workOut_23 : decode cX3_workOut 23 = .ok (.putfield 23, 3) := by decide +kernel
theorem dX3_workOut_26 : decode cX3_workOut 26 = .ok (.aload_n 0, 1) := by decide +kernel
theorem dX3_workOut_27 : decode cX3_workOut 27 = .ok (.getfield 19, 3) := by decide +kernel
theorem dX3_workOut_30 : decode cX3_workOut 30 = .ok (.iload 4, 2) := by decide +kernel
theorem dX3_workOut_32 : decode cX3_workOut 32 = .ok (.iconst 0, 1) := by decide +kernel
theorem dX3_workOut_33 : decode cX3_workOut 33 = .ok (.invokevirtual 51, 3) := by decide +kernel
theorem dX3_workOut_36 : decode cX3_workOut 36 = .ok (.aload_n 0, 1) := by decide +kernel
theorem dX3_workOut_37 : decode cX3_workOut 37 = .ok (.getfield 9, 3) := by decide +kernel
theorem dX3_workOut_40 : decode cX3_workOut 40 = .ok (.iload_n 1, 1) := by decide +kernel
theorem dX3_workOut_41 : decode cX3_workOut 41 = .ok (.invokevirtual 55, 3) := by decide +kernel
theorem dX3_workOut_44 : decode cX3_workOut 44 = .ok (.astore 5, 2) := by decide +kernel
theorem dX3_workOut_46 : decode cX3_workOut 46 = .ok (.aload 5, 2) := by decide +kernel
theorem dX3_workOut_48 : decode cX3_workOut 48 = .ok (.ifnonnull 7, 3) := by decide +kernel
theorem dX3_workOut_51 : decode cX3_workOut 51 = .ok (.iconst (-1), 1) := by decide +kernel
theorem dX3_workOut_52 : decode cX3_workOut 52 = .ok (.goto 16, 3) := by decide +kernel
theorem dX3_workOut_55 : decode cX3_workOut 55 = .ok (.aload_n 0, 1) := by decide +kernel
theorem dX3_workOut_56 : decode cX3_workOut 56 = .ok (.aload 5, 2) := by decide +kernel
theorem dX3_workOut_58 : decode cX3_workOut 58 = .ok (.getfield 61, 3) := by decide +kernel
theorem dX3_workOut_61 : decode cX3_workOut 61 = .ok (.iload_n 2, 1) := by decide +kernel
theorem dX3_workOut_62 : decode cX3_workOut 62 = .ok (.iload_n 3, 1) := by decide +kernel
theorem dX3_workOut_63 : decode cX3_workOut 63 = .ok (.iload 4, 2) := by decide +kernel
