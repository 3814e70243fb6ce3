theorem dX7_tell_27 : decode cX7_tell 27 = .ok (.ireturn, 1) := by decide +kernel
theorem dX7_fell_0 : decode cX7_fell 0 = .ok (.aload_n 0, 1) := by decide +kernel
theorem dX7_fell_1 : decode cX7_fell 1 = .ok (.iconst 0, 1) := by decide +kernel
theorem dX7_fell_2 : decode cX7_fell 2 = .ok (.putfield 16, 3) := by decide +kernel
theorem dX7_fell_5 : decode cX7_fell 5 = .ok (.return_, 1) := by decide +kernel
theorem dX7_grow_0 : decode cX7_grow 0 = .ok (.aload_n 0, 1) := by decide +kernel
theorem dX7_grow_1 : decode cX7_grow 1 = .ok (.iconst 1, 1) := by decide +kernel
theorem dX7_grow_2 : decode cX7_grow 2 = .ok (.putfield 16, 3) := by decide +kernel
theorem dX7_grow_5 : decode cX7_grow 5 = .ok (.aload_n 0, 1) := by decide +kernel
theorem dX7_grow_6 : decode cX7_grow 6 = .ok (.iconst 0, 1) := by decide +kernel
theorem dX7_grow_7 : decode cX7_grow 7 = .ok (.aload_n 1, 1) := by decide +kernel
theorem dX7_grow_8 : decode cX7_grow 8 = .ok (.iload_n 2, 1) := by decide +kernel
theorem dX7_grow_9 : decode cX7_grow 9 = .ok (.iconst 0, 1) := by decide +kernel
theorem dX7_grow_10 : decode cX7_grow 10 = .ok (.invokevirtual 24, 3) := by decide +kernel
theorem dX7_grow_13 : decode cX7_grow 13 = .ok (.iconst 0, 1) := by decide +kernel
theorem dX7_grow_14 : decode cX7_grow 14 = .ok (.istore_n 3, 1) := by decide +kernel
theorem dX7_grow_15 : decode cX7_grow 15 = .ok (.iload_n 3, 1) := by decide +kernel
theorem dX7_grow_16 : decode cX7_grow 16 = .ok (.bipush 60, 2) := by decide +kernel
theorem dX7_grow_18 : decode cX7_grow 18 = .ok (.if_icmp .ge 23, 3) := by decide +kernel
theorem dX7_grow_21 : decode cX7_grow 21 = .ok (.iload_n 3, 1) := by decide +kernel
theorem dX7_grow_22 : decode cX7_grow 22 = .ok (.aload_n 0, 1) := by decide +kernel
theorem dX7_grow_23 : decode cX7_grow 23 = .ok (.getfield 16, 3) := by decide +kernel
theorem dX7_grow_26 : decode cX7_grow 26 = .ok (.if_icmp .ge 15, 3) := by decide +kernel
theorem dX7_grow_29 : decode cX7_grow 29 = .ok (.aload_n 0, 1) := by decide +kernel
theorem dX7_grow_30 : decode cX7_grow 30 = .ok (.iload_n 3, 1) := by decide +kernel
theorem dX7_grow_31 : decode cX7_grow 31 = .ok (.aload_n 1, 1) := by decide +kernel
theorem dX7_grow_32 : decode cX7_grow 32 = .ok (.invokevirtual 28, 3) := by decide +kernel
theorem dX7_grow_35 : decode cX7_grow 35 = .ok (.iinc 3 1, 3) := by decide +kernel
theorem dX7_grow_38 : decode cX7_grow 38 = .ok (.goto (-23), 3) := by decide +kernel
theorem dX7_grow_41 : decode cX7_grow 41 = .ok (.return_, 1) := by decide +kernel
theorem dX7_putBelow_0 : decode cX7_putBelow 0 = .ok (.aload_n 0, 1) := by decide +kernel
theorem dX7_putBelow_1 : decode cX7_putBelow 1 = .ok (.iload_n 1, 1) := by decide +kernel
theorem dX7_putBelow_2 : decode cX7_putBelow 2 = .ok (.iconst 0, 1) := by decide +kernel
theorem dX7_putBelow_3 : decode cX7_putBelow 3 = .ok (.invokevirtual 32, 3) := by decide +kernel
theorem dX7_putBelow_6 : decode cX7_putBelow 6 = .ok (.aload_n 0, 1) := by decide +kernel
theorem dX7_putBelow_7 : decode cX7_putBelow 7 = .ok (.iload_n 1, 1) := by decide +kernel
theorem dX7_putBelow_8 : decode cX7_putBelow 8 = .ok (.iconst 1, 1) := by decide +kernel
theorem dX7_putBelow_9 : decode cX7_putBelow 9 = .ok (.invokevirtual 32, 3) := by decide +kernel
theorem dX7_putBelow_12 : decode cX7_putBelow 12 = .ok (.invokestatic 36, 3) := by decide +kernel
theorem dX7_putBelow_15 : decode cX7_putBelow 15 = .ok (.istore_n 3, 1) := by decide +kernel
theorem dX7_putBelow_16 : decode cX7_putBelow 16 = .ok (.aload_n 0, 1) := by decide +kernel
theorem dX7_putBelow_17 : decode cX7_putBelow 17 = .ok (.iload_n 1, 1) := by decide +kernel
theorem dX7_putBelow_18 : decode cX7_putBelow 18 = .ok (.iconst 3, 1) := by decide +kernel
theorem dX7_putBelow_19 : decode cX7_putBelow 19 = .ok (.invokevirtual 32, 3) := by decide +kernel
theorem dX7_putBelow_22 : decode cX7_putBelow 22 = .ok (.iconst 1, 1) := by decide +kernel
theorem dX7_putBelow_23 : decode cX7_putBelow 23 = .ok (.iadd, 1) := by decide +kernel
theorem dX7_putBelow_24 : decode cX7_putBelow 24 = .ok (.istore 4, 2) := by decide +kernel
theorem dX7_putBelow_26 : decode cX7_putBelow 26 = .ok (.aload_n 2, 1) := by decide +kernel
theorem dX7_putBelow_27 : decode cX7_putBelow 27 = .ok (.iload_n 3, 1) := by decide +kernel
theorem dX7_putBelow_28 : decode cX7_putBelow 28 = .ok (.invokevirtual 41, 3) := by decide +kernel
theorem dX7_putBelow_31 : decode cX7_putBelow 31 = .ok (.bipush 59, 2) := by decide +kernel
theorem dX7_putBelow_33 : decode cX7_putBelow 33 = .ok (.iload_n 1, 1) := by decide +kernel
theorem dX7_putBelow_34 : decode cX7_putBelow 34 = .ok (.isub, 1) := by decide +kernel
theorem dX7_putBelow_35 : decode cX7_putBelow 35 = .ok (.invokestatic 45, 3) := by decide +kernel
theorem dX7_putBelow_38 : decode cX7_putBelow 38 = .ok (.istore 5, 2) := by decide +kernel
theorem dX7_putBelow_40 : decode cX7_putBelow 40 = .ok (.aload_n 0, 1) := by decide +kernel
theorem dX7_putBelow_41 : decode cX7_putBelow 41 = .ok (.iload_n 1, 1) := by decide +kernel
theorem dX7_putBelow_42 : decode cX7_putBelow 42 = .ok (.iconst 1, 1) := by decide +kernel
theorem dX7_putBelow_43 : decode cX7_putBelow 43 = .ok (.iadd, 1) := by decide +kernel
theorem dX7_putBelow_44 : decode cX7_putBelow 44 = .ok (.iload 5, 2) := by decide +kernel
theorem dX7_putBelow_46 : decode cX7_putBelow 46 = .ok (.invokevirtual 50, 3) := by decide +kernel
theorem dX7_putBelow_49 : decode cX7_putBelow 49 = .ok (.iconst 0, 1) := by decide +kernel
theorem dX7_putBelow_50 : decode cX7_putBelow 50 = .ok (.istore 6, 2) := by decide +kernel
theorem dX7_putBelow_52 : decode cX7_putBelow 52 = .ok (.iload 6, 2) := by decide +kernel
theorem dX7_putBelow_54 : decode cX7_putBelow 54 = .ok (.iload 5, 2) := by decide +kernel
theorem dX7_putBelow_56 : decode cX7_putBelow 56 = .ok (.if_icmp .ge 29, 3) := by decide +kernel
theorem dX7_putBelow_59 : decode cX7_putBelow 59 = .ok (.aload_n 0, 1) := by decide +kernel
theorem dX7_putBelow_60 : decode cX7_putBelow 60 = .ok (.iload_n 1, 1) := by decide +kernel
theorem dX7_putBelow_61 : decode cX7_putBelow 61 = .ok (.iconst 1, 1) := by decide +kernel
theorem dX7_putBelow_62 : decode cX7_putBelow 62 = .ok (.iadd, 1) := by decide +kernel
theorem dX7_putBelow_63 : decode cX7_putBelow 63 = .ok (.iload 6, 2) := by decide +kernel
theorem dX7_putBelow_65 : decode cX7_putBelow 65 = .ok (.iadd, 1) := by decide +kernel
theorem dX7_putBelow_66 : decode cX7_putBelow 66 = .ok (.aload_n 2, 1) := by decide +kernel
theorem dX7_putBelow_67 : decode cX7_putBelow 67 = .ok (.aload_n 2, 1) := by decide +kernel
theorem dX7_putBelow_68 : decode cX7_putBelow 68 = .ok (.iload_n 3, 1) := by decide +kernel
theorem dX7_putBelow_69 : decode cX7_putBelow 69 = .ok (.iload 6, 2) := by decide +kernel
theorem dX7_putBelow_71 : decode cX7_putBelow 71 = .ok (.invokevirtual 54, 3) := by decide +kernel
theorem dX7_putBelow_74 : decode cX7_putBelow 74 = .ok (.iload 4, 2) := by decide +kernel
theorem dX7_putBelow_76 : decode cX7_putBelow 76 = .ok (.invokevirtual 24, 3) := by decide +kernel
theorem dX7_putBelow_79 : decode cX7_putBelow 79 = .ok (.iinc 6 1, 3) := by decide +kernel
theorem dX7_putBelow_82 : decode cX7_putBelow 82 = .ok (.goto (-30), 3) := by decide +kernel
theorem dX7_putBelow_85 : decode cX7_putBelow 85 = .ok (.return_, 1) := by decide +kernel
theorem dX7_makeRoom_0 : decode cX7_makeRoom 0 = .ok (.iload_n 1, 1) := by decide +kernel
theorem dX7_makeRoom_1 : decode cX7_makeRoom 1 = .ok (.ifCond .lt 7, 3) := by decide +kernel
theorem dX7_makeRoom_4 : decode cX7_makeRoom 4 = .ok (.iload_n 2, 1) := by decide +kernel
theorem dX7_makeRoom_5 : decode cX7_makeRoom 5 = .ok (.ifCond .gt 4, 3) := by decide +kernel
theorem dX7_makeRoom_8 : decode cX7_makeRoom 8 = .ok (.return_, 1) := by decide +kernel
theorem dX7_makeRoom_9 : decode cX7_makeRoom 9 = .ok (.aload_n 0, 1) := by decide +kernel
theorem dX7_makeRoom_10 : decode cX7_makeRoom 10 = .ok (.aload_n 0, 1) := by decide +kernel
theorem dX7_makeRoom_11 : decode cX7_makeRoom 11 = .ok (.getfield 16, 3) := by decide +kernel
theorem dX7_makeRoom_14 : decode cX7_makeRoom 14 = .ok (.iload_n 2, 1) := by decide +kernel
theorem dX7_makeRoom_15 : decode cX7_makeRoom 15 = .ok (.iadd, 1) := by decide +kernel
theorem dX7_makeRoom_16 : decode cX7_makeRoom 16 = .ok (.bipush 60, 2) := by decide +kernel
theorem dX7_makeRoom_18 : decode cX7_makeRoom 18 = .ok (.invokestatic 45, 3) := by decide +kernel
theorem dX7_makeRoom_21 : decode cX7_makeRoom 21 = .ok (.putfield 16, 3) := by decide +kernel
theorem dX7_makeRoom_24 : decode cX7_makeRoom 24 = .ok (.aload_n 0, 1) := by decide +kernel
theorem dX7_makeRoom_25 : decode cX7_makeRoom 25 = .ok (.getfield 16, 3) := by decide +kernel
theorem dX7_makeRoom_28 : decode cX7_makeRoom 28 = .ok (.iconst 1, 1) := by decide +kernel
theorem dX7_makeRoom_29 : decode cX7_makeRoom 29 = .ok (.isub, 1) := by decide +kernel
theorem dX7_makeRoom_30 : decode cX7_makeRoom 30 = .ok (.istore_n 3, 1) := by decide +kernel
theorem dX7_makeRoom_31 : decode cX7_makeRoom 31 = .ok (.iload_n 3, 1) := by decide +kernel
theorem dX7_makeRoom_32 : decode cX7_makeRoom 32 = .ok (.iload_n 1, 1) := by decide +kernel
theorem dX7_makeRoom_33 : decode cX7_makeRoom 33 = .ok (.iload_n 2, 1) := by decide +kernel
theorem dX7_makeRoom_34 : decode cX7_makeRoom 34 = .ok (.iadd, 1) := by decide +kernel
theorem dX7_makeRoom_35 : decode cX7_makeRoom 35 = .ok (.if_icmp .lt 44, 3) := by decide +kernel
theorem dX7_makeRoom_38 : decode cX7_makeRoom 38 = .ok (.iconst 0, 1) := by decide +kernel
theorem dX7_makeRoom_39 : decode cX7_makeRoom 39 = .ok (.istore 4, 2) := by decide +kernel
theorem dX7_makeRoom_41 : decode cX7_makeRoom 41 = .ok (.iload 4, 2) := by decide +kernel
theorem dX7_makeRoom_43 : decode cX7_makeRoom 43 = .ok (.iconst 4, 1) := by decide +kernel
theorem dX7_makeRoom_44 : decode cX7_makeRoom 44 = .ok (.if_icmp .ge 29, 3) := by decide +kernel
theorem dX7_makeRoom_47 : decode cX7_makeRoom 47 = .ok (.aload_n 0, 1) := by decide +kernel
theorem dX7_makeRoom_48 : decode cX7_makeRoom 48 = .ok (.getfield 13, 3) := by decide +kernel
theorem dX7_makeRoom_51 : decode cX7_makeRoom 51 = .ok (.iload 4, 2) := by decide +kernel
theorem dX7_makeRoom_53 : decode cX7_makeRoom 53 = .ok (.aaload, 1) := by decide +kernel
theorem dX7_makeRoom_54 : decode cX7_makeRoom 54 = .ok (.iload_n 3, 1) := by decide +kernel
theorem dX7_makeRoom_55 : decode cX7_makeRoom 55 = .ok (.aload_n 0, 1) := by decide +kernel
theorem dX7_makeRoom_56 : decode cX7_makeRoom 56 = .ok (.getfield 13, 3) := by decide +kernel
theorem dX7_makeRoom_59 : decode cX7_makeRoom 59 = .ok (.iload 4, 2) := by decide +kernel
theorem dX7_makeRoom_61 : decode cX7_makeRoom 61 = .ok (.aaload, 1) := by decide +kernel
theorem dX7_makeRoom_62 : decode cX7_makeRoom 62 = .ok (.iload_n 3, 1) := by decide +kernel
theorem dX7_makeRoom_63 : decode cX7_makeRoom 63 = .ok (.iload_n 2, 1) := by decide +kernel
theorem dX7_makeRoom_64 : decode cX7_makeRoom 64 = .ok (.isub, 1) := by decide +kernel
theorem dX7_makeRoom_65 : decode cX7_makeRoom 65 = .ok (.iaload, 1) := by decide +kernel
theorem dX7_makeRoom_66 : decode cX7_makeRoom 66 = .ok (.iastore, 1) := by decide +kernel
theorem dX7_makeRoom_67 : decode cX7_makeRoom 67 = .ok (.iinc 4 1, 3) := by decide +kernel
theorem dX7_makeRoom_70 : decode cX7_makeRoom 70 = .ok (.goto (-29), 3) := by decide +kernel
theorem dX7_makeRoom_73 : decode cX7_makeRoom 73 = .ok (.iinc 3 (-1), 3) := by decide +kernel
theorem dX7_makeRoom_76 : decode cX7_makeRoom 76 = .ok (.goto (-45), 3) := by decide +kernel
theorem dX7_makeRoom_79 : decode cX7_makeRoom 79 = .ok (.return_, 1) := by decide +kernel
theorem dX7_set_0 : decode cX7_set 0 = .ok (.iload_n 1, 1) := by decide +kernel
theorem dX7_set_1 : decode cX7_set 1 = .ok (.ifCond .lt 56, 3) := by decide +kernel
theorem dX7_set_4 : decode cX7_set 4 = .ok (.iload_n 1, 1) := by decide +kernel
theorem dX7_set_5 : decode cX7_set 5 = .ok (.bipush 60, 2) := by decide +kernel
theorem dX7_set_7 : decode cX7_set 7 = .ok (.if_icmp .ge 50, 3) := by decide +kernel
theorem dX7_set_10 : decode cX7_set 10 = .ok (.aload_n 0, 1) := by decide +kernel
theorem dX7_set_11 : decode cX7_set 11 = .ok (.getfield 13, 3) := by decide +kernel
theorem dX7_set_14 : decode cX7_set 14 = .ok (.iconst 0, 1) := by decide +kernel
theorem dX7_set_15 : decode cX7_set 15 = .ok (.aaload, 1) := by decide +kernel
theorem dX7_set_16 : decode cX7_set 16 = .ok (.iload_n 1, 1) := by decide +kernel
theorem dX7_set_17 : decode cX7_set 17 = .ok (.iload_n 3, 1) := by decide +kernel
theorem dX7_set_18 : decode cX7_set 18 = .ok (.bipush 21, 2) := by decide +kernel
theorem dX7_set_20 : decode cX7_set 20 = .ok (.idiv, 1) := by decide +kernel
theorem dX7_set_21 : decode cX7_set 21 = .ok (.iastore, 1) := by decide +kernel
theorem dX7_set_22 : decode cX7_set 22 = .ok (.aload_n 0, 1) := by decide +kernel
theorem dX7_set_23 : decode cX7_set 23 = .ok (.getfield 13, 3) := by decide +kernel
theorem dX7_set_26 : decode cX7_set 26 = .ok (.iconst 1, 1) := by decide +kernel
theorem dX7_set_27 : decode cX7_set 27 = .ok (.aaload, 1) := by decide +kernel
theorem dX7_set_28 : decode cX7_set 28 = .ok (.iload_n 1, 1) := by decide +kernel
theorem dX7_set_29 : decode cX7_set 29 = .ok (.iload_n 3, 1) := by decide +kernel
theorem dX7_set_30 : decode cX7_set 30 = .ok (.bipush 21, 2) := by decide +kernel
theorem dX7_set_32 : decode cX7_set 32 = .ok (.irem, 1) := by decide +kernel
theorem dX7_set_33 : decode cX7_set 33 = .ok (.iastore, 1) := by decide +kernel
theorem dX7_set_34 : decode cX7_set 34 = .ok (.aload_n 0, 1) := by decide +kernel
theorem dX7_set_35 : decode cX7_set 35 = .ok (.getfield 13, 3) := by decide +kernel
theorem dX7_set_38 : decode cX7_set 38 = .ok (.iconst 2, 1) := by decide +kernel
theorem dX7_set_39 : decode cX7_set 39 = .ok (.aaload, 1) := by decide +kernel
theorem dX7_set_40 : decode cX7_set 40 = .ok (.iload_n 1, 1) := by decide +kernel
theorem dX7_set_41 : decode cX7_set 41 = .ok (.aload_n 2, 1) := by decide +kernel
theorem dX7_set_42 : decode cX7_set 42 = .ok (.iload_n 3, 1) := by decide +kernel
theorem dX7_set_43 : decode cX7_set 43 = .ok (.invokevirtual 57, 3) := by decide +kernel
theorem dX7_set_46 : decode cX7_set 46 = .ok (.iastore, 1) := by decide +kernel
theorem dX7_set_47 : decode cX7_set 47 = .ok (.aload_n 0, 1) := by decide +kernel
theorem dX7_set_48 : decode cX7_set 48 = .ok (.getfield 13, 3) := by decide +kernel
theorem dX7_set_51 : decode cX7_set 51 = .ok (.iconst 3, 1) := by decide +kernel
theorem dX7_set_52 : decode cX7_set 52 = .ok (.aaload, 1) := by decide +kernel
theorem dX7_set_53 : decode cX7_set 53 = .ok (.iload_n 1, 1) := by decide +kernel
theorem dX7_set_54 : decode cX7_set 54 = .ok (.iload 4, 2) := by decide +kernel
theorem dX7_set_56 : decode cX7_set 56 = .ok (.iastore, 1) := by decide +kernel
theorem dX7_set_57 : decode cX7_set 57 = .ok (.return_, 1) := by decide +kernel
theorem dX8_init_0 : decode cX8_init 0 = .ok (.aload_n 0, 1) := by decide +kernel
theorem dX8_init_1 : decode cX8_init 1 = .ok (.invokespecial 3, 3) := by decide +kernel
theorem dX8_init_4 : decode cX8_init 4 = .ok (.aload_n 0, 1) := by decide +kernel
theorem dX8_init_5 : decode cX8_init 5 = .ok (.new 9, 3) := by decide +kernel
theorem dX8_init_8 : decode cX8_init 8 = .ok (.dup, 1) := by decide +kernel
theorem dX8_init_9 : decode cX8_init 9 = .ok (.bipush 24, 2) := by decide +kernel
theorem dX8_init_11 : decode cX8_init 11 = .ok (.invokespecial 11, 3) := by decide +kernel
theorem dX8_init_14 : decode cX8_init 14 = .ok (.putfield 14, 3) := by decide +kernel
theorem dX8_init_17 : decode cX8_init 17 = .ok (.aload_n 0, 1) := by decide +kernel
theorem dX8_init_18 : decode cX8_init 18 = .ok (.new 9, 3) := by decide +kernel
theorem dX8_init_21 : decode cX8_init 21 = .ok (.dup, 1) := by decide +kernel
theorem dX8_init_22 : decode cX8_init 22 = .ok (.bipush 20, 2) := by decide +kernel
theorem dX8_init_24 : decode cX8_init 24 = .ok (.invokespecial 11, 3) := by decide +kernel
theorem dX8_init_27 : decode cX8_init 27 = .ok (.putfield 18, 3) := by decide +kernel
theorem dX8_init_30 : decode cX8_init 30 = .ok (.aload_n 0, 1) := by decide +kernel
theorem dX8_init_31 : decode cX8_init 31 = .ok (.new 21, 3) := by decide +kernel
theorem dX8_init_34 : decode cX8_init 34 = .ok (.dup, 1) := by decide +kernel
theorem dX8_init_35 : decode cX8_init 35 = .ok (.aload_n 0, 1) := by decide +kernel
theorem dX8_init_36 : decode cX8_init 36 = .ok (.getfield 14, 3) := by decide +kernel
theorem dX8_init_39 : decode cX8_init 39 = .ok (.invokespecial 23, 3) := by decide +kernel
theorem dX8_init_42 : decode cX8_init 42 = .ok (.putfield 26, 3) := by decide +kernel
theorem dX8_init_45 : decode cX8_init 45 = .ok (.aload_n 0, 1) := by decide +kernel
theorem dX8_init_46 : decode cX8_init 46 = .ok (.new 30, 3) := by decide +kernel
theorem dX8_init_49 : decode cX8_init 49 = .ok (.dup, 1) := by decide +kernel
theorem dX8_init_50 : decode cX8_init 50 = .ok (.invokespecial 32, 3) := by decide +kernel
theorem dX8_init_53 : decode cX8_init 53 = .ok (.putfield 33, 3) := by decide +kernel
theorem dX8_init_56 : decode cX8_init 56 = .ok (.aload_n 0, 1) := by decide +kernel
theorem dX8_init_57 : decode cX8_init 57 = .ok (.new 37, 3) := by decide +kernel
theorem dX8_init_60 : decode cX8_init 60 = .ok (.dup, 1) := by decide +kernel
theorem dX8_init_61 : decode cX8_init 61 = .ok (.invokespecial 39, 3) := by decide +kernel
theorem dX8_init_64 : decode cX8_init 64 = .ok (.putfield 40, 3) := by decide +kernel
theorem dX8_init_67 : decode cX8_init 67 = .ok (.aload_n 0, 1) := by decide +kernel
theorem dX8_init_68 : decode cX8_init 68 = .ok (.new 44, 3) := by decide +kernel
theorem dX8_init_71 : decode cX8_init 71 = .ok (.dup, 1) := by decide +kernel
theorem dX8_init_72 : decode cX8_init 72 = .ok (.aload_n 0, 1) := by decide +kernel
theorem dX8_init_73 : decode cX8_init 73 = .ok (.getfield 33, 3) := by decide +kernel
theorem dX8_init_76 : decode cX8_init 76 = .ok (.aload_n 0, 1) := by decide +kernel
theorem dX8_init_77 : decode cX8_init 77 = .ok (.getfield 18, 3) := by decide +kernel
theorem dX8_init_80 : decode cX8_init 80 = .ok (.aload_n 0, 1) := by decide +kernel
theorem dX8_init_81 : decode cX8_init 81 = .ok (.getfield 40, 3) := by decide +kernel
theorem dX8_init_84 : decode cX8_init 84 = .ok (.invokespecial 46, 3) := by decide +kernel
theorem dX8_init_87 : decode cX8_init 87 = .ok (.putfield 49, 3) := by decide +kernel
theorem dX8_init_90 : decode cX8_init 90 = .ok (.aload_n 0, 1) := by decide +kernel
theorem dX8_init_91 : decode cX8_init 91 = .ok (.new 53, 3) := by decide +kernel
theorem dX8_init_94 : decode cX8_init 94 = .ok (.dup, 1) := by decide +kernel
theorem dX8_init_95 : decode cX8_init 95 = .ok (.invokespecial 55, 3) := by decide +kernel
theorem dX8_init_98 : decode cX8_init 98 = .ok (.putfield 56, 3) := by decide +kernel
theorem dX8_init_101 : decode cX8_init 101 = .ok (.return_, 1) := by decide +kernel
theorem dX8_type_0 : decode cX8_type 0 = .ok (.iload_n 1, 1) := by decide +kernel
theorem dX8_type_1 : decode cX8_type 1 = .ok (.invokestatic 60, 3) := by decide +kernel
theorem dX8_type_4 : decode cX8_type 4 = .ok (.ifCond .eq 18, 3) := by decide +kernel
theorem dX8_type_7 : decode cX8_type 7 = .ok (.aload_n 0, 1) := by decide +kernel
theorem dX8_type_8 : decode cX8_type 8 = .ok (.getfield 14, 3) := by decide +kernel
theorem dX8_type_11 : decode cX8_type 11 = .ok (.iload_n 1, 1) := by decide +kernel
theorem dX8_type_12 : decode cX8_type 12 = .ok (.invokevirtual 64, 3) := by decide +kernel
theorem dX8_type_15 : decode cX8_type 15 = .ok (.ifCond .eq 7, 3) := by decide +kernel
theorem dX8_type_18 : decode cX8_type 18 = .ok (.iconst 1, 1) := by decide +kernel
theorem dX8_type_19 : decode cX8_type 19 = .ok (.goto 4, 3) := by decide +kernel
theorem dX8_type_22 : decode cX8_type 22 = .ok (.iconst 0, 1) := by decide +kernel
theorem dX8_type_23 : decode cX8_type 23 = .ok (.ireturn, 1) := by decide +kernel
theorem dX8_rule_0 : decode cX8_rule 0 = .ok (.aload_n 0, 1) := by decide +kernel
theorem dX8_rule_1 : decode cX8_rule 1 = .ok (.getfield 26, 3) := by decide +kernel
theorem dX8_rule_4 : decode cX8_rule 4 = .ok (.invokevirtual 67, 3) := by decide +kernel
theorem dX8_rule_7 : decode cX8_rule 7 = .ok (.astore_n 1, 1) := by decide +kernel
theorem dX8_rule_8 : decode cX8_rule 8 = .ok (.aload_n 0, 1) := by decide +kernel
theorem dX8_rule_9 : decode cX8_rule 9 = .ok (.getfield 14, 3) := by decide +kernel
theorem dX8_rule_12 : decode cX8_rule 12 = .ok (.invokevirtual 71, 3) := by decide +kernel
theorem dX8_rule_15 : decode cX8_rule 15 = .ok (.aload_n 1, 1) := by decide +kernel
theorem dX8_rule_16 : decode cX8_rule 16 = .ok (.ifnonnull 13, 3) := by decide +kernel
theorem dX8_rule_19 : decode cX8_rule 19 = .ok (.iconst 1, 1) := by decide +kernel
theorem dX8_rule_20 : decode cX8_rule 20 = .ok (.aload_n 0, 1) := by decide +kernel
theorem dX8_rule_21 : decode cX8_rule 21 = .ok (.getfield 26, 3) := by decide +kernel
theorem dX8_rule_24 : decode cX8_rule 24 = .ok (.invokevirtual 74, 3) := by decide +kernel
theorem dX8_rule_27 : decode cX8_rule 27 = .ok (.iadd, 1) := by decide +kernel
theorem dX8_rule_28 : decode cX8_rule 28 = .ok (.ireturn, 1) := by decide +kernel
theorem dX8_rule_29 : decode cX8_rule 29 = .ok (.aload_n 0, 1) := by decide +kernel
theorem dX8_rule_30 : decode cX8_rule 30 = .ok (.getfield 33, 3) := by decide +kernel
theorem dX8_rule_33 : decode cX8_rule 33 = .ok (.aload_n 0, 1) := by decide +kernel
theorem dX8_rule_34 : decode cX8_rule 34 = .ok (.getfield 26, 3) := by decide +kernel
theorem dX8_rule_37 : decode cX8_rule 37 = .ok (.invokevirtual 78, 3) := by decide +kernel
theorem dX8_rule_40 : decode cX8_rule 40 = .ok (.aload_n 1, 1) := by decide +kernel
theorem dX8_rule_41 : decode cX8_rule 41 = .ok (.invokevirtual 81, 3) := by decide +kernel
theorem dX8_rule_44 : decode cX8_rule 44 = .ok (.aload_n 0, 1) := by decide +kernel
theorem dX8_rule_45 : decode cX8_rule 45 = .ok (.getfield 40, 3) := by decide +kernel
theorem dX8_rule_48 : decode cX8_rule 48 = .ok (.invokevirtual 85, 3) := by decide +kernel
theorem dX8_rule_51 : decode cX8_rule 51 = .ok (.iconst 0, 1) := by decide +kernel
theorem dX8_rule_52 : decode cX8_rule 52 = .ok (.ireturn, 1) := by decide +kernel
theorem dX8_drop_0 : decode cX8_drop 0 = .ok (.iload_n 1, 1) := by decide +kernel
theorem dX8_drop_1 : decode cX8_drop 1 = .ok (.invokestatic 88, 3) := by decide +kernel
theorem dX8_drop_4 : decode cX8_drop 4 = .ok (.ifCond .ne 13, 3) := by decide +kernel
theorem dX8_drop_7 : decode cX8_drop 7 = .ok (.new 92, 3) := by decide +kernel
theorem dX8_drop_10 : decode cX8_drop 10 = .ok (.dup, 1) := by decide +kernel
theorem dX8_drop_11 : decode cX8_drop 11 = .ok (.ldc 94, 2) := by decide +kernel
theorem dX8_drop_13 : decode cX8_drop 13 = .ok (.invokespecial 96, 3) := by decide +kernel
theorem dX8_drop_16 : decode cX8_drop 16 = .ok (.athrow, 1) := by decide +kernel
theorem dX8_drop_17 : decode cX8_drop 17 = .ok (.aload_n 0, 1) := by decide +kernel
theorem dX8_drop_18 : decode cX8_drop 18 = .ok (.getfield 33, 3) := by decide +kernel
theorem dX8_drop_21 : decode cX8_drop 21 = .ok (.iload_n 1, 1) := by decide +kernel
theorem dX8_drop_22 : decode cX8_drop 22 = .ok (.invokevirtual 99, 3) := by decide +kernel
theorem dX8_drop_25 : decode cX8_drop 25 = .ok (.ifnonnull 5, 3) := by decide +kernel
theorem dX8_drop_28 : decode cX8_drop 28 = .ok (.iconst 0, 1) := by decide +kernel
theorem dX8_drop_29 : decode cX8_drop 29 = .ok (.ireturn, 1) := by decide +kernel
theorem dX8_drop_30 : decode cX8_drop 30 = .ok (.aload_n 0, 1) := by decide +kernel
theorem dX8_drop_31 : decode cX8_drop 31 = .ok (.getfield 33, 3) := by decide +kernel
theorem dX8_drop_34 : decode cX8_drop 34 = .ok (.iload_n 1, 1) := by decide +kernel
theorem dX8_drop_35 : decode cX8_drop 35 = .ok (.aconst_null, 1) := by decide +kernel
theorem dX8_drop_36 : decode cX8_drop 36 = .ok (.invokevirtual 81, 3) := by decide +kernel
theorem dX8_drop_39 : decode cX8_drop 39 = .ok (.aload_n 0, 1) := by decide +kernel
theorem dX8_drop_40 : decode cX8_drop 40 = .ok (.getfield 40, 3) := by decide +kernel
theorem dX8_drop_43 : decode cX8_drop 43 = .ok (.invokevirtual 85, 3) := by decide +kernel
theorem dX8_drop_46 : decode cX8_drop 46 = .ok (.iconst 1, 1) := by decide +kernel
theorem dX8_drop_47 : decode cX8_drop 47 = .ok (.ireturn, 1) := by decide +kernel
theorem dX8_feed_0 : decode cX8_feed 0 = .ok (.iload_n 1, 1) := by decide +kernel
theorem dX8_feed_1 : decode cX8_feed 1 = .ok (.invokestatic 103, 3) := by decide +kernel
theorem dX8_feed_4 : decode cX8_feed 4 = .ok (.ifCond .ne 13, 3) := by decide +kernel
theorem dX8_feed_7 : decode cX8_feed 7 = .ok (.new 106, 3) := by decide +kernel
theorem dX8_feed_10 : decode cX8_feed 10 = .ok (.dup, 1) := by decide +kernel
theorem dX8_feed_11 : decode cX8_feed 11 = .ok (.ldc 108, 2) := by decide +kernel
theorem dX8_feed_13 : decode cX8_feed 13 = .ok (.invokespecial 110, 3) := by decide +kernel
theorem dX8_feed_16 : decode cX8_feed 16 = .ok (.athrow, 1) := by decide +kernel
theorem dX8_feed_17 : decode cX8_feed 17 = .ok (.aload_n 0, 1) := by decide +kernel
theorem dX8_feed_18 : decode cX8_feed 18 = .ok (.getfield 18, 3) := by decide +kernel
theorem dX8_feed_21 : decode cX8_feed 21 = .ok (.iload_n 1, 1) := by decide +kernel
theorem dX8_feed_22 : decode cX8_feed 22 = .ok (.invokevirtual 64, 3) := by decide +kernel
theorem dX8_feed_25 : decode cX8_feed 25 = .ok (.ifCond .ne 13, 3) := by decide +kernel
theorem dX8_feed_28 : decode cX8_feed 28 = .ok (.new 111, 3) := by decide +kernel
theorem dX8_feed_31 : decode cX8_feed 31 = .ok (.dup, 1) := by decide +kernel
theorem dX8_feed_32 : decode cX8_feed 32 = .ok (.ldc 113, 2) := by decide +kernel
theorem dX8_feed_34 : decode cX8_feed 34 = .ok (.invokespecial 115, 3) := by decide +kernel
theorem dX8_feed_37 : decode cX8_feed 37 = .ok (.athrow, 1) := by decide +kernel
theorem dX8_feed_38 : decode cX8_feed 38 = .ok (.aload_n 0, 1) := by decide +kernel
theorem dX8_feed_39 : decode cX8_feed 39 = .ok (.getfield 40, 3) := by decide +kernel
theorem dX8_feed_42 : decode cX8_feed 42 = .ok (.invokevirtual 85, 3) := by decide +kernel
theorem dX8_feed_45 : decode cX8_feed 45 = .ok (.aload_n 0, 1) := by decide +kernel
theorem dX8_feed_46 : decode cX8_feed 46 = .ok (.getfield 18, 3) := by decide +kernel
theorem dX8_feed_49 : decode cX8_feed 49 = .ok (.invokevirtual 116, 3) := by decide +kernel
theorem dX8_feed_52 : decode cX8_feed 52 = .ok (.ireturn, 1) := by decide +kernel
theorem dX8_clear_0 : decode cX8_clear 0 = .ok (.aload_n 0, 1) := by decide +kernel
theorem dX8_clear_1 : decode cX8_clear 1 = .ok (.getfield 18, 3) := by decide +kernel
theorem dX8_clear_4 : decode cX8_clear 4 = .ok (.invokevirtual 116, 3) := by decide +kernel
theorem dX8_clear_7 : decode cX8_clear 7 = .ok (.istore_n 1, 1) := by decide +kernel
theorem dX8_clear_8 : decode cX8_clear 8 = .ok (.iload_n 1, 1) := by decide +kernel
theorem dX8_clear_9 : decode cX8_clear 9 = .ok (.ifCond .le 17, 3) := by decide +kernel
theorem dX8_clear_12 : decode cX8_clear 12 = .ok (.aload_n 0, 1) := by decide +kernel
theorem dX8_clear_13 : decode cX8_clear 13 = .ok (.getfield 18, 3) := by decide +kernel
theorem dX8_clear_16 : decode cX8_clear 16 = .ok (.invokevirtual 71, 3) := by decide +kernel
theorem dX8_clear_19 : decode cX8_clear 19 = .ok (.aload_n 0, 1) := by decide +kernel
theorem dX8_clear_20 : decode cX8_clear 20 = .ok (.getfield 40, 3) := by decide +kernel
theorem dX8_clear_23 : decode cX8_clear 23 = .ok (.invokevirtual 85, 3) := by decide +kernel
theorem dX8_clear_26 : decode cX8_clear 26 = .ok (.iload_n 1, 1) := by decide +kernel
theorem dX8_clear_27 : decode cX8_clear 27 = .ok (.ireturn, 1) := by decide +kernel
theorem dX8_outcomes_0 : decode cX8_outcomes 0 = .ok (.aload_n 0, 1) := by decide +kernel
theorem dX8_outcomes_1 : decode cX8_outcomes 1 = .ok (.getfield 33, 3) := by decide +kernel
theorem dX8_outcomes_4 : decode cX8_outcomes 4 = .ok (.iload_n 1, 1) := by decide +kernel
theorem dX8_outcomes_5 : decode cX8_outcomes 5 = .ok (.invokevirtual 99, 3) := by decide +kernel
theorem dX8_outcomes_8 : decode cX8_outcomes 8 = .ok (.astore_n 2, 1) := by decide +kernel
theorem dX8_outcomes_9 : decode cX8_outcomes 9 = .ok (.aload_n 2, 1) := by decide +kernel
theorem dX8_outcomes_10 : decode cX8_outcomes 10 = .ok (.ifnonnull 13, 3) := by decide +kernel
theorem dX8_outcomes_13 : decode cX8_outcomes 13 = .ok (.new 92, 3) := by decide +kernel
theorem dX8_outcomes_16 : decode cX8_outcomes 16 = .ok (.dup, 1) := by decide +kernel
theorem dX8_outcomes_17 : decode cX8_outcomes 17 = .ok (.ldc 119, 2) := by decide +kernel
theorem dX8_outcomes_19 : decode cX8_outcomes 19 = .ok (.invokespecial 96, 3) := by decide +kernel
theorem dX8_outcomes_22 : decode cX8_outcomes 22 = .ok (.athrow, 1) := by decide +kernel
theorem dX8_outcomes_23 : decode cX8_outcomes 23 = .ok (.aload_n 0, 1) := by decide +kernel
theorem dX8_outcomes_24 : decode cX8_outcomes 24 = .ok (.getfield 33, 3) := by decide +kernel
theorem dX8_outcomes_27 : decode cX8_outcomes 27 = .ok (.invokevirtual 121, 3) := by decide +kernel
theorem dX8_outcomes_30 : decode cX8_outcomes 30 = .ok (.ifCond .eq 13, 3) := by decide +kernel
theorem dX8_outcomes_33 : decode cX8_outcomes 33 = .ok (.new 111, 3) := by decide +kernel
theorem dX8_outcomes_36 : decode cX8_outcomes 36 = .ok (.dup, 1) := by decide +kernel
theorem dX8_outcomes_37 : decode cX8_outcomes 37 = .ok (.ldc 125, 2) := by decide +kernel
theorem dX8_outcomes_39 : decode cX8_outcomes 39 = .ok (.invokespecial 115, 3) := by decide +kernel
theorem dX8_outcomes_42 : decode cX8_outcomes 42 = .ok (.athrow, 1) := by decide +kernel
theorem dX8_outcomes_43 : decode cX8_outcomes 43 = .ok (.aload_n 2, 1) := by decide +kernel
theorem dX8_outcomes_44 : decode cX8_outcomes 44 = .ok (.invokevirtual 127, 3) := by decide +kernel
theorem dX8_outcomes_47 : decode cX8_outcomes 47 = .ok (.ireturn, 1) := by decide +kernel
theorem dX8_check_0 : decode cX8_check 0 = .ok (.aload_n 0, 1) := by decide +kernel
theorem dX8_check_1 : decode cX8_check 1 = .ok (.getfield 33, 3) := by decide +kernel
theorem dX8_check_4 : decode cX8_check 4 = .ok (.invokevirtual 132, 3) := by decide +kernel
theorem dX8_check_7 : decode cX8_check 7 = .ok (.ireturn, 1) := by decide +kernel
theorem dX8_match_0 : decode cX8_match 0 = .ok (.aload_n 0, 1) := by decide +kernel
theorem dX8_match_1 : decode cX8_match 1 = .ok (.getfield 56, 3) := by decide +kernel
theorem dX8_match_4 : decode cX8_match 4 = .ok (.invokevirtual 135, 3) := by decide +kernel
theorem dX8_match_7 : decode cX8_match 7 = .ok (.aload_n 0, 1) := by decide +kernel
theorem dX8_match_8 : decode cX8_match 8 = .ok (.getfield 33, 3) := by decide +kernel
theorem dX8_match_11 : decode cX8_match 11 = .ok (.iload_n 1, 1) := by decide +kernel
theorem dX8_match_12 : decode cX8_match 12 = .ok (.invokevirtual 99, 3) := by decide +kernel
theorem dX8_match_15 : decode cX8_match 15 = .ok (.ifnonnull 13, 3) := by decide +kernel
theorem dX8_match_18 : decode cX8_match 18 = .ok (.new 92, 3) := by decide +kernel
theorem dX8_match_21 : decode cX8_match 21 = .ok (.dup, 1) := by decide +kernel
theorem dX8_match_22 : decode cX8_match 22 = .ok (.ldc 119, 2) := by decide +kernel
theorem dX8_match_24 : decode cX8_match 24 = .ok (.invokespecial 96, 3) := by decide +kernel
theorem dX8_match_27 : decode cX8_match 27 = .ok (.athrow, 1) := by decide +kernel
theorem dX8_match_28 : decode cX8_match 28 = .ok (.aload_n 0, 1) := by decide +kernel
theorem dX8_match_29 : decode cX8_match 29 = .ok (.iload_n 2, 1) := by decide +kernel
theorem dX8_match_30 : decode cX8_match 30 = .ok (.invokevirtual 138, 3) := by decide +kernel
theorem dX8_match_33 : decode cX8_match 33 = .ok (.ifCond .ne 13, 3) := by decide +kernel
theorem dX8_match_36 : decode cX8_match 36 = .ok (.new 106, 3) := by decide +kernel
theorem dX8_match_39 : decode cX8_match 39 = .ok (.dup, 1) := by decide +kernel
theorem dX8_match_40 : decode cX8_match 40 = .ok (.ldc 141, 2) := by decide +kernel
theorem dX8_match_42 : decode cX8_match 42 = .ok (.invokespecial 110, 3) := by decide +kernel
theorem dX8_match_45 : decode cX8_match 45 = .ok (.athrow, 1) := by decide +kernel
theorem dX8_match_46 : decode cX8_match 46 = .ok (.aload_n 0, 1) := by decide +kernel
theorem dX8_match_47 : decode cX8_match 47 = .ok (.getfield 33, 3) := by decide +kernel
theorem dX8_match_50 : decode cX8_match 50 = .ok (.invokevirtual 132, 3) := by decide +kernel
theorem dX8_match_53 : decode cX8_match 53 = .ok (.ifCond .eq 13, 3) := by decide +kernel
theorem dX8_match_56 : decode cX8_match 56 = .ok (.new 111, 3) := by decide +kernel
theorem dX8_match_59 : decode cX8_match 59 = .ok (.dup, 1) := by decide +kernel
theorem dX8_match_60 : decode cX8_match 60 = .ok (.ldc 143, 2) := by decide +kernel
theorem dX8_match_62 : decode cX8_match 62 = .ok (.invokespecial 115, 3) := by decide +kernel
theorem dX8_match_65 : decode cX8_match 65 = .ok (.athrow, 1) := by decide +kernel
theorem dX8_match_66 : decode cX8_match 66 = .ok (.aload_n 0, 1) := by decide +kernel
theorem dX8_match_67 : decode cX8_match 67 = .ok (.getfield 49, 3) := by decide +kernel
theorem dX8_match_70 : decode cX8_match 70 = .ok (.iload_n 1, 1) := by decide +kernel
theorem dX8_match_71 : decode cX8_match 71 = .ok (.iload_n 2, 1) := by decide +kernel
theorem dX8_match_72 : decode cX8_match 72 = .ok (.iconst 1, 1) := by decide +kernel
theorem dX8_match_73 : decode cX8_match 73 = .ok (.invokevirtual 145, 3) := by decide +kernel
theorem dX8_match_76 : decode cX8_match 76 = .ok (.istore_n 3, 1) := by decide +kernel
theorem dX8_match_77 : decode cX8_match 77 = .ok (.iload_n 3, 1) := by decide +kernel
theorem dX8_match_78 : decode cX8_match 78 = .ok (.iconst (-1), 1) := by decide +kernel
theorem dX8_match_79 : decode cX8_match 79 = .ok (.if_icmp .eq 19, 3) := by decide +kernel
theorem dX8_match_82 : decode cX8_match 82 = .ok (.aload_n 0, 1) := by decide +kernel
theorem dX8_match_83 : decode cX8_match 83 = .ok (.getfield 56, 3) := by decide +kernel
theorem dX8_match_86 : decode cX8_match 86 = .ok (.aload_n 0, 1) := by decide +kernel
theorem dX8_match_87 : decode cX8_match 87 = .ok (.getfield 40, 3) := by decide +kernel
theorem dX8_match_90 : decode cX8_match 90 = .ok (.iload_n 1, 1) := by decide +kernel
theorem dX8_match_91 : decode cX8_match 91 = .ok (.iload_n 2, 1) := by decide +kernel
theorem dX8_match_92 : decode cX8_match 92 = .ok (.invokestatic 149, 3) := by decide +kernel
theorem dX8_match_95 : decode cX8_match 95 = .ok (.invokevirtual 153, 3) := by decide +kernel
theorem dX8_match_98 : decode cX8_match 98 = .ok (.iload_n 3, 1) := by decide +kernel
theorem dX8_match_99 : decode cX8_match 99 = .ok (.ireturn, 1) := by decide +kernel
theorem dX8_memory_0 : decode cX8_memory 0 = .ok (.iload_n 1, 1) := by decide +kernel
theorem dX8_memory_1 : decode cX8_memory 1 = .ok (.invokestatic 88, 3) := by decide +kernel
theorem dX8_memory_4 : decode cX8_memory 4 = .ok (.ifCond .eq 11, 3) := by decide +kernel
theorem dX8_memory_7 : decode cX8_memory 7 = .ok (.aload_n 0, 1) := by decide +kernel
theorem dX8_memory_8 : decode cX8_memory 8 = .ok (.iload_n 2, 1) := by decide +kernel
theorem dX8_memory_9 : decode cX8_memory 9 = .ok (.invokevirtual 138, 3) := by decide +kernel
theorem dX8_memory_12 : decode cX8_memory 12 = .ok (.ifCond .ne 13, 3) := by decide +kernel
theorem dX8_memory_15 : decode cX8_memory 15 = .ok (.new 157, 3) := by decide +kernel
theorem dX8_memory_18 : decode cX8_memory 18 = .ok (.dup, 1) := by decide +kernel
theorem dX8_memory_19 : decode cX8_memory 19 = .ok (.ldc 159, 2) := by decide +kernel
theorem dX8_memory_21 : decode cX8_memory 21 = .ok (.invokespecial 161, 3) := by decide +kernel
theorem dX8_memory_24 : decode cX8_memory 24 = .ok (.athrow, 1) := by decide +kernel
theorem dX8_memory_25 : decode cX8_memory 25 = .ok (.aload_n 0, 1) := by decide +kernel
theorem dX8_memory_26 : decode cX8_memory 26 = .ok (.getfield 40, 3) := by decide +kernel
theorem dX8_memory_29 : decode cX8_memory 29 = .ok (.iload_n 1, 1) := by decide +kernel
theorem dX8_memory_30 : decode cX8_memory 30 = .ok (.iload_n 2, 1) := by decide +kernel
theorem dX8_memory_31 : decode cX8_memory 31 = .ok (.invokestatic 149, 3) := by decide +kernel
theorem dX8_memory_34 : decode cX8_memory 34 = .ok (.invokevirtual 162, 3) := by decide +kernel
theorem dX8_memory_37 : decode cX8_memory 37 = .ok (.ireturn, 1) := by decide +kernel
theorem dX8_node_0 : decode cX8_node 0 = .ok (.aload_n 0, 1) := by decide +kernel
theorem dX8_node_1 : decode cX8_node 1 = .ok (.getfield 56, 3) := by decide +kernel
theorem dX8_node_4 : decode cX8_node 4 = .ok (.iload_n 1, 1) := by decide +kernel
theorem dX8_node_5 : decode cX8_node 5 = .ok (.iload_n 2, 1) := by decide +kernel
theorem dX8_node_6 : decode cX8_node 6 = .ok (.invokevirtual 166, 3) := by decide +kernel
theorem dX8_node_9 : decode cX8_node 9 = .ok (.ifCond .ne 13, 3) := by decide +kernel
theorem dX8_node_12 : decode cX8_node 12 = .ok (.new 157, 3) := by decide +kernel
theorem dX8_node_15 : decode cX8_node 15 = .ok (.dup, 1) := by decide +kernel
theorem dX8_node_16 : decode cX8_node 16 = .ok (.ldc 170, 2) := by decide +kernel
theorem dX8_node_18 : decode cX8_node 18 = .ok (.invokespecial 161, 3) := by decide +kernel
theorem dX8_node_21 : decode cX8_node 21 = .ok (.athrow, 1) := by decide +kernel
theorem dX8_node_22 : decode cX8_node 22 = .ok (.aload_n 0, 1) := by decide +kernel
theorem dX8_node_23 : decode cX8_node 23 = .ok (.getfield 56, 3) := by decide +kernel
theorem dX8_node_26 : decode cX8_node 26 = .ok (.iload_n 1, 1) := by decide +kernel
theorem dX8_node_27 : decode cX8_node 27 = .ok (.iload_n 2, 1) := by decide +kernel
theorem dX8_node_28 : decode cX8_node 28 = .ok (.invokevirtual 172, 3) := by decide +kernel
theorem dX8_node_31 : decode cX8_node 31 = .ok (.ireturn, 1) := by decide +kernel
theorem dX8_count_0 : decode cX8_count 0 = .ok (.iload_n 1, 1) := by decide +kernel
theorem dX8_count_1 : decode cX8_count 1 = .ok (.tableswitch 87 0 5 #[39, 47, 55, 63, 71, 79], 39) := by decide +kernel
theorem dX8_count_40 : decode cX8_count 40 = .ok (.aload_n 0, 1) := by decide +kernel
theorem dX8_count_41 : decode cX8_count 41 = .ok (.getfield 33, 3) := by decide +kernel
theorem dX8_count_44 : decode cX8_count 44 = .ok (.invokevirtual 175, 3) := by decide +kernel
theorem dX8_count_47 : decode cX8_count 47 = .ok (.ireturn, 1) := by decide +kernel
theorem dX8_count_48 : decode cX8_count 48 = .ok (.aload_n 0, 1) := by decide +kernel
theorem dX8_count_49 : decode cX8_count 49 = .ok (.getfield 14, 3) := by decide +kernel
theorem dX8_count_52 : decode cX8_count 52 = .ok (.invokevirtual 116, 3) := by decide +kernel
theorem dX8_count_55 : decode cX8_count 55 = .ok (.ireturn, 1) := by decide +kernel
theorem dX8_count_56 : decode cX8_count 56 = .ok (.aload_n 0, 1) := by decide +kernel
theorem dX8_count_57 : decode cX8_count 57 = .ok (.getfield 18, 3) := by decide +kernel
theorem dX8_count_60 : decode cX8_count 60 = .ok (.invokevirtual 116, 3) := by decide +kernel
theorem dX8_count_63 : decode cX8_count 63 = .ok (.ireturn, 1) := by decide +kernel
theorem dX8_count_64 : decode cX8_count 64 = .ok (.aload_n 0, 1) := by decide +kernel
theorem dX8_count_65 : decode cX8_count 65 = .ok (.getfield 56, 3) := by decide +kernel
theorem dX8_count_68 : decode cX8_count 68 = .ok (.invokevirtual 176, 3) := by decide +kernel
theorem dX8_count_71 : decode cX8_count 71 = .ok (.ireturn, 1) := by decide +kernel
theorem dX8_count_72 : decode cX8_count 72 = .ok (.aload_n 0, 1) := by decide +kernel
theorem dX8_count_73 : decode cX8_count 73 = .ok (.getfield 49, 3) := by decide +kernel
theorem dX8_count_76 : decode cX8_count 76 = .ok (.invokevirtual 177, 3) := by decide +kernel
theorem dX8_count_79 : decode cX8_count 79 = .ok (.ireturn, 1) := by decide +kernel
theorem dX8_count_80 : decode cX8_count 80 = .ok (.aload_n 0, 1) := by decide +kernel
theorem dX8_count_81 : decode cX8_count 81 = .ok (.getfield 49, 3) := by decide +kernel
theorem dX8_count_84 : decode cX8_count 84 = .ok (.invokevirtual 180, 3) := by decide +kernel
theorem dX8_count_87 : decode cX8_count 87 = .ok (.ireturn, 1) := by decide +kernel
theorem dX8_count_88 : decode cX8_count 88 = .ok (.new 157, 3) := by decide +kernel
theorem dX8_count_91 : decode cX8_count 91 = .ok (.dup, 1) := by decide +kernel
theorem dX8_count_92 : decode cX8_count 92 = .ok (.ldc 183, 2) := by decide +kernel
theorem dX8_count_94 : decode cX8_count 94 = .ok (.invokespecial 161, 3) := by decide +kernel
theorem dX8_count_97 : decode cX8_count 97 = .ok (.athrow, 1) := by decide +kernel
theorem dX8_full_0 : decode cX8_full 0 = .ok (.aload_n 0, 1) := by decide +kernel
theorem dX8_full_1 : decode cX8_full 1 = .ok (.getfield 33, 3) := by decide +kernel
theorem dX8_full_4 : decode cX8_full 4 = .ok (.invokevirtual 175, 3) := by decide +kernel
theorem dX8_full_7 : decode cX8_full 7 = .ok (.aload_n 0, 1) := by decide +kernel
theorem dX8_full_8 : decode cX8_full 8 = .ok (.getfield 18, 3) := by decide +kernel
theorem dX8_full_11 : decode cX8_full 11 = .ok (.invokevirtual 116, 3) := by decide +kernel
theorem dX8_full_14 : decode cX8_full 14 = .ok (.iconst 1, 1) := by decide +kernel
theorem dX8_full_15 : decode cX8_full 15 = .ok (.iadd, 1) := by decide +kernel
theorem dX8_full_16 : decode cX8_full 16 = .ok (.imul, 1) := by decide +kernel
theorem dX8_full_17 : decode cX8_full 17 = .ok (.istore_n 1, 1) := by decide +kernel
theorem dX8_full_18 : decode cX8_full 18 = .ok (.iload_n 1, 1) := by decide +kernel
theorem dX8_full_19 : decode cX8_full 19 = .ok (.ifCond .gt 5, 3) := by decide +kernel
theorem dX8_full_22 : decode cX8_full 22 = .ok (.fconst 0, 1) := by decide +kernel
theorem dX8_full_23 : decode cX8_full 23 = .ok (.freturn, 1) := by decide +kernel
theorem dX8_full_24 : decode cX8_full 24 = .ok (.aload_n 0, 1) := by decide +kernel
theorem dX8_full_25 : decode cX8_full 25 = .ok (.getfield 40, 3) := by decide +kernel
theorem dX8_full_28 : decode cX8_full 28 = .ok (.invokevirtual 185, 3) := by decide +kernel
theorem dX8_full_31 : decode cX8_full 31 = .ok (.i2f, 1) := by decide +kernel
theorem dX8_full_32 : decode cX8_full 32 = .ok (.iload_n 1, 1) := by decide +kernel
theorem dX8_full_33 : decode cX8_full 33 = .ok (.i2f, 1) := by decide +kernel
theorem dX8_full_34 : decode cX8_full 34 = .ok (.fdiv, 1) := by decide +kernel
theorem dX8_full_35 : decode cX8_full 35 = .ok (.freturn, 1) := by decide +kernel
theorem dX8_isPlace_0 : decode cX8_isPlace 0 = .ok (.iload_n 1, 1) := by decide +kernel
theorem dX8_isPlace_1 : decode cX8_isPlace 1 = .ok (.ifCond .lt 18, 3) := by decide +kernel
theorem dX8_isPlace_4 : decode cX8_isPlace 4 = .ok (.iload_n 1, 1) := by decide +kernel
theorem dX8_isPlace_5 : decode cX8_isPlace 5 = .ok (.aload_n 0, 1) := by decide +kernel
theorem dX8_isPlace_6 : decode cX8_isPlace 6 = .ok (.getfield 18, 3) := by decide +kernel
theorem dX8_isPlace_9 : decode cX8_isPlace 9 = .ok (.invokevirtual 116, 3) := by decide +kernel
theorem dX8_isPlace_12 : decode cX8_isPlace 12 = .ok (.if_icmp .gt 7, 3) := by decide +kernel
theorem dX8_isPlace_15 : decode cX8_isPlace 15 = .ok (.iconst 1, 1) := by decide +kernel
theorem dX8_isPlace_16 : decode cX8_isPlace 16 = .ok (.goto 4, 3) := by decide +kernel
theorem dX8_isPlace_19 : decode cX8_isPlace 19 = .ok (.iconst 0, 1) := by decide +kernel
theorem dX8_isPlace_20 : decode cX8_isPlace 20 = .ok (.ireturn, 1) := by decide +kernel
theorem dX8_isRule_0 : decode cX8_isRule 0 = .ok (.iload_n 0, 1) := by decide +kernel
theorem dX8_isRule_1 : decode cX8_isRule 1 = .ok (.ifCond .lt 13, 3) := by decide +kernel
theorem dX8_isRule_4 : decode cX8_isRule 4 = .ok (.iload_n 0, 1) := by decide +kernel
theorem dX8_isRule_5 : decode cX8_isRule 5 = .ok (.bipush 6, 2) := by decide +kernel
theorem dX8_isRule_7 : decode cX8_isRule 7 = .ok (.if_icmp .ge 7, 3) := by decide +kernel
theorem dX8_isRule_10 : decode cX8_isRule 10 = .ok (.iconst 1, 1) := by decide +kernel
theorem dX8_isRule_11 : decode cX8_isRule 11 = .ok (.goto 4, 3) := by decide +kernel
theorem dX8_isRule_14 : decode cX8_isRule 14 = .ok (.iconst 0, 1) := by decide +kernel
theorem dX8_isRule_15 : decode cX8_isRule 15 = .ok (.ireturn, 1) := by decide +kernel
theorem dX8_isLetter_0 : decode cX8_isLetter 0 = .ok (.iload_n 0, 1) := by decide +kernel
theorem dX8_isLetter_1 : decode cX8_isLetter 1 = .ok (.bipush 97, 2) := by decide +kernel
theorem dX8_isLetter_3 : decode cX8_isLetter 3 = .ok (.if_icmp .lt 13, 3) := by decide +kernel
theorem dX8_isLetter_6 : decode cX8_isLetter 6 = .ok (.iload_n 0, 1) := by decide +kernel
theorem dX8_isLetter_7 : decode cX8_isLetter 7 = .ok (.bipush 105, 2) := by decide +kernel
theorem dX8_isLetter_9 : decode cX8_isLetter 9 = .ok (.if_icmp .gt 7, 3) := by decide +kernel
theorem dX8_isLetter_12 : decode cX8_isLetter 12 = .ok (.iconst 1, 1) := by decide +kernel
theorem dX8_isLetter_13 : decode cX8_isLetter 13 = .ok (.goto 4, 3) := by decide +kernel
theorem dX8_isLetter_16 : decode cX8_isLetter 16 = .ok (.iconst 0, 1) := by decide +kernel
theorem dX8_isLetter_17 : decode cX8_isLetter 17 = .ok (.ireturn, 1) := by decide +kernel
theorem dX8_isRuleLetter_0 : decode cX8_isRuleLetter 0 = .ok (.iload_n 0, 1) := by decide +kernel
theorem dX8_isRuleLetter_1 : decode cX8_isRuleLetter 1 = .ok (.bipush 65, 2) := by decide +kernel
theorem dX8_isRuleLetter_3 : decode cX8_isRuleLetter 3 = .ok (.if_icmp .lt 13, 3) := by decide +kernel
theorem dX8_isRuleLetter_6 : decode cX8_isRuleLetter 6 = .ok (.iload_n 0, 1) := by decide +kernel
theorem dX8_isRuleLetter_7 : decode cX8_isRuleLetter 7 = .ok (.bipush 70, 2) := by decide +kernel
theorem dX8_isRuleLetter_9 : decode cX8_isRuleLetter 9 = .ok (.if_icmp .gt 7, 3) := by decide +kernel
theorem dX8_isRuleLetter_12 : decode cX8_isRuleLetter 12 = .ok (.iconst 1, 1) := by decide +kernel
theorem dX8_isRuleLetter_13 : decode cX8_isRuleLetter 13 = .ok (.goto 4, 3) := by decide +kernel
theorem dX8_isRuleLetter_16 : decode cX8_isRuleLetter 16 = .ok (.iconst 0, 1) := by decide +kernel
theorem dX8_isRuleLetter_17 : decode cX8_isRuleLetter 17 = .ok (.ireturn, 1) := by decide +kernel
theorem dX8_standsInTexts_0 : decode cX8_standsInTexts 0 = .ok (.iload_n 0, 1) := by decide +kernel
theorem dX8_standsInTexts_1 : decode cX8_standsInTexts 1 = .ok (.invokestatic 103, 3) := by decide +kernel
theorem dX8_standsInTexts_4 : decode cX8_standsInTexts 4 = .ok (.ifCond .ne 19, 3) := by decide +kernel
theorem dX8_standsInTexts_7 : decode cX8_standsInTexts 7 = .ok (.iload_n 0, 1) := by decide +kernel
theorem dX8_standsInTexts_8 : decode cX8_standsInTexts 8 = .ok (.invokestatic 186, 3) := by decide +kernel
theorem dX8_standsInTexts_11 : decode cX8_standsInTexts 11 = .ok (.ifCond .ne 12, 3) := by decide +kernel
theorem dX8_standsInTexts_14 : decode cX8_standsInTexts 14 = .ok (.ldc 189, 2) := by decide +kernel
theorem dX8_standsInTexts_16 : decode cX8_standsInTexts 16 = .ok (.iload_n 0, 1) := by decide +kernel
theorem dX8_standsInTexts_17 : decode cX8_standsInTexts 17 = .ok (.invokevirtual 191, 3) := by decide +kernel
theorem dX8_standsInTexts_20 : decode cX8_standsInTexts 20 = .ok (.ifCond .lt 7, 3) := by decide +kernel
theorem dX8_standsInTexts_23 : decode cX8_standsInTexts 23 = .ok (.iconst 1, 1) := by decide +kernel
theorem dX8_standsInTexts_24 : decode cX8_standsInTexts 24 = .ok (.goto 4, 3) := by decide +kernel
theorem dX8_standsInTexts_27 : decode cX8_standsInTexts 27 = .ok (.iconst 0, 1) := by decide +kernel
theorem dX8_standsInTexts_28 : decode cX8_standsInTexts 28 = .ok (.ireturn, 1) := by decide +kernel
theorem dX9_init_0 : decode cX9_init 0 = .ok (.aload_n 0, 1) := by decide +kernel
theorem dX9_init_1 : decode cX9_init 1 = .ok (.invokespecial 1, 3) := by decide +kernel
theorem dX9_init_4 : decode cX9_init 4 = .ok (.aload_n 0, 1) := by decide +kernel
theorem dX9_init_5 : decode cX9_init 5 = .ok (.bipush 24, 2) := by decide +kernel
theorem dX9_init_7 : decode cX9_init 7 = .ok (.newarray .char, 2) := by decide +kernel
theorem dX9_init_9 : decode cX9_init 9 = .ok (.putfield 7, 3) := by decide +kernel
theorem dX9_init_12 : decode cX9_init 12 = .ok (.aload_n 0, 1) := by decide +kernel
theorem dX9_init_13 : decode cX9_init 13 = .ok (.bipush 20, 2) := by decide +kernel
theorem dX9_init_15 : decode cX9_init 15 = .ok (.newarray .int, 2) := by decide +kernel
theorem dX9_init_17 : decode cX9_init 17 = .ok (.putfield 13, 3) := by decide +kernel
theorem dX9_init_20 : decode cX9_init 20 = .ok (.aload_n 0, 1) := by decide +kernel
theorem dX9_init_21 : decode cX9_init 21 = .ok (.sipush 448, 3) := by decide +kernel
theorem dX9_init_24 : decode cX9_init 24 = .ok (.newarray .int, 2) := by decide +kernel
theorem dX9_init_26 : decode cX9_init 26 = .ok (.putfield 17, 3) := by decide +kernel
theorem dX9_init_29 : decode cX9_init 29 = .ok (.aload_n 0, 1) := by decide +kernel
theorem dX9_init_30 : decode cX9_init 30 = .ok (.sipush 448, 3) := by decide +kernel
theorem dX9_init_33 : decode cX9_init 33 = .ok (.newarray .int, 2) := by decide +kernel
theorem dX9_init_35 : decode cX9_init 35 = .ok (.putfield 20, 3) := by decide +kernel
theorem dX9_init_38 : decode cX9_init 38 = .ok (.aload_n 0, 1) := by decide +kernel
theorem dX9_init_39 : decode cX9_init 39 = .ok (.sipush 448, 3) := by decide +kernel
theorem dX9_init_42 : decode cX9_init 42 = .ok (.newarray .int, 2) := by decide +kernel
theorem dX9_init_44 : decode cX9_init 44 = .ok (.putfield 23, 3) := by decide +kernel
theorem dX9_init_47 : decode cX9_init 47 = .ok (.aload_n 0, 1) := by decide +kernel
theorem dX9_init_48 : decode cX9_init 48 = .ok (.sipush 448, 3) := by decide +kernel
theorem dX9_init_51 : decode cX9_init 51 = .ok (.newarray .int, 2) := by decide +kernel
theorem dX9_init_53 : decode cX9_init 53 = .ok (.putfield 26, 3) := by decide +kernel
theorem dX9_init_56 : decode cX9_init 56 = .ok (.aload_n 0, 1) := by decide +kernel
theorem dX9_init_57 : decode cX9_init 57 = .ok (.sipush 448, 3) := by decide +kernel
theorem dX9_init_60 : decode cX9_init 60 = .ok (.newarray .boolean, 2) := by decide +kernel
theorem dX9_init_62 : decode cX9_init 62 = .ok (.putfield 29, 3) := by decide +kernel
theorem dX9_init_65 : decode cX9_init 65 = .ok (.aload_n 0, 1) := by decide +kernel
theorem dX9_init_66 : decode cX9_init 66 = .ok (.bipush 7, 2) := by decide +kernel
theorem dX9_init_68 : decode cX9_init 68 = .ok (.newarray .int, 2) := by decide +kernel
theorem dX9_init_70 : decode cX9_init 70 = .ok (.putfield 33, 3) := by decide +kernel
theorem dX9_init_73 : decode cX9_init 73 = .ok (.aload_n 0, 1) := by decide +kernel
theorem dX9_init_74 : decode cX9_init 74 = .ok (.sipush 384, 3) := by decide +kernel
theorem dX9_init_77 : decode cX9_init 77 = .ok (.newarray .int, 2) := by decide +kernel
theorem dX9_init_79 : decode cX9_init 79 = .ok (.putfield 36, 3) := by decide +kernel
theorem dX9_init_82 : decode cX9_init 82 = .ok (.aload_n 0, 1) := by decide +kernel
theorem dX9_init_83 : decode cX9_init 83 = .ok (.sipush 384, 3) := by decide +kernel
theorem dX9_init_86 : decode cX9_init 86 = .ok (.newarray .boolean, 2) := by decide +kernel
theorem dX9_init_88 : decode cX9_init 88 = .ok (.putfield 39, 3) := by decide +kernel
theorem dX9_init_91 : decode cX9_init 91 = .ok (.aload_n 0, 1) := by decide +kernel
theorem dX9_init_92 : decode cX9_init 92 = .ok (.bipush 126, 2) := by decide +kernel
theorem dX9_init_94 : decode cX9_init 94 = .ok (.newarray .int, 2) := by decide +kernel
theorem dX9_init_96 : decode cX9_init 96 = .ok (.putfield 42, 3) := by decide +kernel
theorem dX9_init_99 : decode cX9_init 99 = .ok (.aload_n 0, 1) := by decide +kernel
theorem dX9_init_100 : decode cX9_init 100 = .ok (.sipush 960, 3) := by decide +kernel
theorem dX9_init_103 : decode cX9_init 103 = .ok (.newarray .int, 2) := by decide +kernel
theorem dX9_init_105 : decode cX9_init 105 = .ok (.putfield 45, 3) := by decide +kernel
theorem dX9_init_108 : decode cX9_init 108 = .ok (.aload_n 0, 1) := by decide +kernel
theorem dX9_init_109 : decode cX9_init 109 = .ok (.sipush 960, 3) := by decide +kernel
theorem dX9_init_112 : decode cX9_init 112 = .ok (.newarray .int, 2) := by decide +kernel
theorem dX9_init_114 : decode cX9_init 114 = .ok (.putfield 48, 3) := by decide +kernel
theorem dX9_init_117 : decode cX9_init 117 = .ok (.aload_n 0, 1) := by decide +kernel
theorem dX9_init_118 : decode cX9_init 118 = .ok (.sipush 960, 3) := by decide +kernel
theorem dX9_init_121 : decode cX9_init 121 = .ok (.newarray .int, 2) := by decide +kernel
theorem dX9_init_123 : decode cX9_init 123 = .ok (.putfield 51, 3) := by decide +kernel
theorem dX9_init_126 : decode cX9_init 126 = .ok (.aload_n 0, 1) := by decide +kernel
theorem dX9_init_127 : decode cX9_init 127 = .ok (.sipush 960, 3) := by decide +kernel
theorem dX9_init_130 : decode cX9_init 130 = .ok (.newarray .boolean, 2) := by decide +kernel
theorem dX9_init_132 : decode cX9_init 132 = .ok (.putfield 54, 3) := by decide +kernel
theorem dX9_init_135 : decode cX9_init 135 = .ok (.aload_n 0, 1) := by decide +kernel
theorem dX9_init_136 : decode cX9_init 136 = .ok (.sipush 960, 3) := by decide +kernel
theorem dX9_init_139 : decode cX9_init 139 = .ok (.newarray .int, 2) := by decide +kernel
theorem dX9_init_141 : decode cX9_init 141 = .ok (.putfield 57, 3) := by decide +kernel
theorem dX9_init_144 : decode cX9_init 144 = .ok (.aload_n 0, 1) := by decide +kernel
theorem dX9_init_145 : decode cX9_init 145 = .ok (.bipush 64, 2) := by decide +kernel
theorem dX9_init_147 : decode cX9_init 147 = .ok (.newarray .int, 2) := by decide +kernel
theorem dX9_init_149 : decode cX9_init 149 = .ok (.putfield 60, 3) := by decide +kernel
theorem dX9_init_152 : decode cX9_init 152 = .ok (.aload_n 0, 1) := by decide +kernel
theorem dX9_init_153 : decode cX9_init 153 = .ok (.bipush 64, 2) := by decide +kernel
theorem dX9_init_155 : decode cX9_init 155 = .ok (.newarray .int, 2) := by decide +kernel
theorem dX9_init_157 : decode cX9_init 157 = .ok (.putfield 63, 3) := by decide +kernel
theorem dX9_init_160 : decode cX9_init 160 = .ok (.aload_n 0, 1) := by decide +kernel
theorem dX9_init_161 : decode cX9_init 161 = .ok (.bipush 64, 2) := by decide +kernel
theorem dX9_init_163 : decode cX9_init 163 = .ok (.newarray .int, 2) := by decide +kernel
theorem dX9_init_165 : decode cX9_init 165 = .ok (.putfield 66, 3) := by decide +kernel
theorem dX9_init_168 : decode cX9_init 168 = .ok (.aload_n 0, 1) := by decide +kernel
theorem dX9_init_169 : decode cX9_init 169 = .ok (.bipush 60, 2) := by decide +kernel
theorem dX9_init_171 : decode cX9_init 171 = .ok (.newarray .int, 2) := by decide +kernel
theorem dX9_init_173 : decode cX9_init 173 = .ok (.putfield 69, 3) := by decide +kernel
theorem dX9_init_176 : decode cX9_init 176 = .ok (.aload_n 0, 1) := by decide +kernel
theorem dX9_init_177 : decode cX9_init 177 = .ok (.bipush 60, 2) := by decide +kernel
theorem dX9_init_179 : decode cX9_init 179 = .ok (.newarray .int, 2) := by decide +kernel
theorem dX9_init_181 : decode cX9_init 181 = .ok (.putfield 72, 3) := by decide +kernel
theorem dX9_init_184 : decode cX9_init 184 = .ok (.aload_n 0, 1) := by decide +kernel
theorem dX9_init_185 : decode cX9_init 185 = .ok (.bipush 60, 2) := by decide +kernel
theorem dX9_init_187 : decode cX9_init 187 = .ok (.newarray .int, 2) := by decide +kernel
theorem dX9_init_189 : decode cX9_init 189 = .ok (.putfield 75, 3) := by decide +kernel
theorem dX9_init_192 : decode cX9_init 192 = .ok (.aload_n 0, 1) := by decide +kernel
theorem dX9_init_193 : decode cX9_init 193 = .ok (.bipush 60, 2) := by decide +kernel
theorem dX9_init_195 : decode cX9_init 195 = .ok (.newarray .int, 2) := by decide +kernel
theorem dX9_init_197 : decode cX9_init 197 = .ok (.putfield 78, 3) := by decide +kernel
theorem dX9_init_200 : decode cX9_init 200 = .ok (.aload_n 0, 1) := by decide +kernel
theorem dX9_init_201 : decode cX9_init 201 = .ok (.bipush 64, 2) := by decide +kernel
theorem dX9_init_203 : decode cX9_init 203 = .ok (.newarray .int, 2) := by decide +kernel
theorem dX9_init_205 : decode cX9_init 205 = .ok (.putfield 81, 3) := by decide +kernel
theorem dX9_init_208 : decode cX9_init 208 = .ok (.aload_n 0, 1) := by decide +kernel
theorem dX9_init_209 : decode cX9_init 209 = .ok (.bipush 64, 2) := by decide +kernel
theorem dX9_init_211 : decode cX9_init 211 = .ok (.newarray .int, 2) := by decide +kernel
theorem dX9_init_213 : decode cX9_init 213 = .ok (.putfield 84, 3) := by decide +kernel
theorem dX9_init_216 : decode cX9_init 216 = .ok (.aload_n 0, 1) := by decide +kernel
theorem dX9_init_217 : decode cX9_init 217 = .ok (.bipush 32, 2) := by decide +kernel
theorem dX9_init_219 : decode cX9_init 219 = .ok (.newarray .int, 2) := by decide +kernel
theorem dX9_init_221 : decode cX9_init 221 = .ok (.putfield 87, 3) := by decide +kernel
theorem dX9_init_224 : decode cX9_init 224 = .ok (.aload_n 0, 1) := by decide +kernel
theorem dX9_init_225 : decode cX9_init 225 = .ok (.bipush 32, 2) := by decide +kernel
theorem dX9_init_227 : decode cX9_init 227 = .ok (.newarray .int, 2) := by decide +kernel
theorem dX9_init_229 : decode cX9_init 229 = .ok (.putfield 90, 3) := by decide +kernel
theorem dX9_init_232 : decode cX9_init 232 = .ok (.aload_n 0, 1) := by decide +kernel
theorem dX9_init_233 : decode cX9_init 233 = .ok (.bipush 8, 2) := by decide +kernel
theorem dX9_init_235 : decode cX9_init 235 = .ok (.newarray .int, 2) := by decide +kernel
theorem dX9_init_237 : decode cX9_init 237 = .ok (.putfield 93, 3) := by decide +kernel
theorem dX9_init_240 : decode cX9_init 240 = .ok (.aload_n 0, 1) := by decide +kernel
theorem dX9_init_241 : decode cX9_init 241 = .ok (.bipush 8, 2) := by decide +kernel
theorem dX9_init_243 : decode cX9_init 243 = .ok (.newarray .int, 2) := by decide +kernel
theorem dX9_init_245 : decode cX9_init 245 = .ok (.putfield 96, 3) := by decide +kernel
theorem dX9_init_248 : decode cX9_init 248 = .ok (.aload_n 0, 1) := by decide +kernel
theorem dX9_init_249 : decode cX9_init 249 = .ok (.bipush 8, 2) := by decide +kernel
theorem dX9_init_251 : decode cX9_init 251 = .ok (.newarray .char, 2) := by decide +kernel
theorem dX9_init_253 : decode cX9_init 253 = .ok (.putfield 99, 3) := by decide +kernel
theorem dX9_init_256 : decode cX9_init 256 = .ok (.aload_n 0, 1) := by decide +kernel
theorem dX9_init_257 : decode cX9_init 257 = .ok (.invokevirtual 102, 3) := by decide +kernel
theorem dX9_init_260 : decode cX9_init 260 = .ok (.return_, 1) := by decide +kernel
theorem dX9_thrown_0 : decode cX9_thrown 0 = .ok (.aload_n 0, 1) := by decide +kernel
theorem dX9_thrown_1 : decode cX9_thrown 1 = .ok (.getfield 105, 3) := by decide +kernel
theorem dX9_thrown_4 : decode cX9_thrown 4 = .ok (.ireturn, 1) := by decide +kernel
theorem dX9_fail_0 : decode cX9_fail 0 = .ok (.aload_n 0, 1) := by decide +kernel
theorem dX9_fail_1 : decode cX9_fail 1 = .ok (.iload_n 1, 1) := by decide +kernel
theorem dX9_fail_2 : decode cX9_fail 2 = .ok (.putfield 105, 3) := by decide +kernel
theorem dX9_fail_5 : decode cX9_fail 5 = .ok (.iconst 0, 1) := by decide +kernel
theorem dX9_fail_6 : decode cX9_fail 6 = .ok (.ireturn, 1) := by decide +kernel
theorem dX9_in_0 : decode cX9_in 0 = .ok (.iload_n 0, 1) := by decide +kernel
theorem dX9_in_1 : decode cX9_in 1 = .ok (.iload_n 1, 1) := by decide +kernel
theorem dX9_in_2 : decode cX9_in 2 = .ok (.if_icmp .lt 12, 3) := by decide +kernel
theorem dX9_in_5 : decode cX9_in 5 = .ok (.iload_n 0, 1) := by decide +kernel
theorem dX9_in_6 : decode cX9_in 6 = .ok (.iload_n 2, 1) := by decide +kernel
theorem dX9_in_7 : decode cX9_in 7 = .ok (.if_icmp .gt 7, 3) := by decide +kernel
theorem dX9_in_10 : decode cX9_in 10 = .ok (.iconst 1, 1) := by decide +kernel
theorem dX9_in_11 : decode cX9_in 11 = .ok (.goto 4, 3) := by decide +kernel
theorem dX9_in_14 : decode cX9_in 14 = .ok (.iconst 0, 1) := by decide +kernel
theorem dX9_in_15 : decode cX9_in 15 = .ok (.ireturn, 1) := by decide +kernel
theorem dX9_forget_0 : decode cX9_forget 0 = .ok (.iconst 0, 1) := by decide +kernel
theorem dX9_forget_1 : decode cX9_forget 1 = .ok (.istore_n 1, 1) := by decide +kernel
theorem dX9_forget_2 : decode cX9_forget 2 = .ok (.iload_n 1, 1) := by decide +kernel
theorem dX9_forget_3 : decode cX9_forget 3 = .ok (.bipush 126, 2) := by decide +kernel
theorem dX9_forget_5 : decode cX9_forget 5 = .ok (.if_icmp .ge 17, 3) := by decide +kernel
theorem dX9_forget_8 : decode cX9_forget 8 = .ok (.aload_n 0, 1) := by decide +kernel
theorem dX9_forget_9 : decode cX9_forget 9 = .ok (.getfield 42, 3) := by decide +kernel
theorem dX9_forget_12 : decode cX9_forget 12 = .ok (.iload_n 1, 1) := by decide +kernel
theorem dX9_forget_13 : decode cX9_forget 13 = .ok (.bipush (-2), 2) := by decide +kernel
theorem dX9_forget_15 : decode cX9_forget 15 = .ok (.iastore, 1) := by decide +kernel
theorem dX9_forget_16 : decode cX9_forget 16 = .ok (.iinc 1 1, 3) := by decide +kernel
theorem dX9_forget_19 : decode cX9_forget 19 = .ok (.goto (-17), 3) := by decide +kernel
theorem dX9_forget_22 : decode cX9_forget 22 = .ok (.return_, 1) := by decide +kernel
theorem dX9_hasRule_0 : decode cX9_hasRule 0 = .ok (.iload_n 1, 1) := by decide +kernel
theorem dX9_hasRule_1 : decode cX9_hasRule 1 = .ok (.iconst 0, 1) := by decide +kernel
theorem dX9_hasRule_2 : decode cX9_hasRule 2 = .ok (.iconst 5, 1) := by decide +kernel
theorem dX9_hasRule_3 : decode cX9_hasRule 3 = .ok (.invokestatic 109, 3) := by decide +kernel
theorem dX9_hasRule_6 : decode cX9_hasRule 6 = .ok (.ifCond .eq 29, 3) := by decide +kernel
theorem dX9_hasRule_9 : decode cX9_hasRule 9 = .ok (.aload_n 0, 1) := by decide +kernel
theorem dX9_hasRule_10 : decode cX9_hasRule 10 = .ok (.getfield 33, 3) := by decide +kernel
theorem dX9_hasRule_13 : decode cX9_hasRule 13 = .ok (.iload_n 1, 1) := by decide +kernel
theorem dX9_hasRule_14 : decode cX9_hasRule 14 = .ok (.iconst 0, 1) := by decide +kernel
theorem dX9_hasRule_15 : decode cX9_hasRule 15 = .ok (.iconst 5, 1) := by decide +kernel
theorem dX9_hasRule_16 : decode cX9_hasRule 16 = .ok (.invokestatic 109, 3) := by decide +kernel
theorem dX9_hasRule_19 : decode cX9_hasRule 19 = .ok (.ifCond .eq 7, 3) := by decide +kernel
theorem dX9_hasRule_22 : decode cX9_hasRule 22 = .ok (.iload_n 1, 1) := by decide +kernel
theorem dX9_hasRule_23 : decode cX9_hasRule 23 = .ok (.goto 4, 3) := by decide +kernel
theorem dX9_hasRule_26 : decode cX9_hasRule 26 = .ok (.iconst 0, 1) := by decide +kernel
theorem dX9_hasRule_27 : decode cX9_hasRule 27 = .ok (.iaload, 1) := by decide +kernel
theorem dX9_hasRule_28 : decode cX9_hasRule 28 = .ok (.ifCond .le 7, 3) := by decide +kernel
theorem dX9_hasRule_31 : decode cX9_hasRule 31 = .ok (.iconst 1, 1) := by decide +kernel
theorem dX9_hasRule_32 : decode cX9_hasRule 32 = .ok (.goto 4, 3) := by decide +kernel
theorem dX9_hasRule_35 : decode cX9_hasRule 35 = .ok (.iconst 0, 1) := by decide +kernel
theorem dX9_hasRule_36 : decode cX9_hasRule 36 = .ok (.ireturn, 1) := by decide +kernel
theorem dX9_isLetter_0 : decode cX9_isLetter 0 = .ok (.iload_n 0, 1) := by decide +kernel
theorem dX9_isLetter_1 : decode cX9_isLetter 1 = .ok (.bipush 97, 2) := by decide +kernel
theorem dX9_isLetter_3 : decode cX9_isLetter 3 = .ok (.if_icmp .lt 13, 3) := by decide +kernel
theorem dX9_isLetter_6 : decode cX9_isLetter 6 = .ok (.iload_n 0, 1) := by decide +kernel
theorem dX9_isLetter_7 : decode cX9_isLetter 7 = .ok (.bipush 105, 2) := by decide +kernel
theorem dX9_isLetter_9 : decode cX9_isLetter 9 = .ok (.if_icmp .gt 7, 3) := by decide +kernel
theorem dX9_isLetter_12 : decode cX9_isLetter 12 = .ok (.iconst 1, 1) := by decide +kernel
theorem dX9_isLetter_13 : decode cX9_isLetter 13 = .ok (.goto 4, 3) := by decide +kernel
theorem dX9_isLetter_16 : decode cX9_isLetter 16 = .ok (.iconst 0, 1) := by decide +kernel
theorem dX9_isLetter_17 : decode cX9_isLetter 17 = .ok (.ireturn, 1) := by decide +kernel
theorem dX9_isRule_0 : decode cX9_isRule 0 = .ok (.iload_n 0, 1) := by decide +kernel
theorem dX9_isRule_1 : decode cX9_isRule 1 = .ok (.bipush 65, 2) := by decide +kernel
theorem dX9_isRule_3 : decode cX9_isRule 3 = .ok (.if_icmp .lt 13, 3) := by decide +kernel
theorem dX9_isRule_6 : decode cX9_isRule 6 = .ok (.iload_n 0, 1) := by decide +kernel
theorem dX9_isRule_7 : decode cX9_isRule 7 = .ok (.bipush 70, 2) := by decide +kernel
theorem dX9_isRule_9 : decode cX9_isRule 9 = .ok (.if_icmp .gt 7, 3) := by decide +kernel
theorem dX9_isRule_12 : decode cX9_isRule 12 = .ok (.iconst 1, 1) := by decide +kernel
theorem dX9_isRule_13 : decode cX9_isRule 13 = .ok (.goto 4, 3) := by decide +kernel
theorem dX9_isRule_16 : decode cX9_isRule 16 = .ok (.iconst 0, 1) := by decide +kernel
theorem dX9_isRule_17 : decode cX9_isRule 17 = .ok (.ireturn, 1) := by decide +kernel
theorem dX9_type_0 : decode cX9_type 0 = .ok (.aload_n 0, 1) := by decide +kernel
theorem dX9_type_1 : decode cX9_type 1 = .ok (.iconst 0, 1) := by decide +kernel
theorem dX9_type_2 : decode cX9_type 2 = .ok (.putfield 105, 3) := by decide +kernel
theorem dX9_type_5 : decode cX9_type 5 = .ok (.iload_n 1, 1) := by decide +kernel
theorem dX9_type_6 : decode cX9_type 6 = .ok (.invokestatic 113, 3) := by decide +kernel
theorem dX9_type_9 : decode cX9_type 9 = .ok (.ifCond .ne 88, 3) := by decide +kernel
theorem dX9_type_12 : decode cX9_type 12 = .ok (.iload_n 1, 1) := by decide +kernel
theorem dX9_type_13 : decode cX9_type 13 = .ok (.invokestatic 117, 3) := by decide +kernel
theorem dX9_type_16 : decode cX9_type 16 = .ok (.ifCond .ne 81, 3) := by decide +kernel
theorem dX9_type_19 : decode cX9_type 19 = .ok (.iload_n 1, 1) := by decide +kernel
theorem dX9_type_20 : decode cX9_type 20 = .ok (.bipush 61, 2) := by decide +kernel
theorem dX9_type_22 : decode cX9_type 22 = .ok (.if_icmp .eq 75, 3) := by decide +kernel
theorem dX9_type_25 : decode cX9_type 25 = .ok (.iload_n 1, 1) := by decide +kernel
theorem dX9_type_26 : decode cX9_type 26 = .ok (.bipush 47, 2) := by decide +kernel
theorem dX9_type_28 : decode cX9_type 28 = .ok (.if_icmp .eq 69, 3) := by decide +kernel
theorem dX9_type_31 : decode cX9_type 31 = .ok (.iload_n 1, 1) := by decide +kernel
theorem dX9_type_32 : decode cX9_type 32 = .ok (.bipush 38, 2) := by decide +kernel
theorem dX9_type_34 : decode cX9_type 34 = .ok (.if_icmp .eq 63, 3) := by decide +kernel
theorem dX9_type_37 : decode cX9_type 37 = .ok (.iload_n 1, 1) := by decide +kernel
theorem dX9_type_38 : decode cX9_type 38 = .ok (.bipush 33, 2) := by decide +kernel
theorem dX9_type_40 : decode cX9_type 40 = .ok (.if_icmp .eq 57, 3) := by decide +kernel
theorem dX9_type_43 : decode cX9_type 43 = .ok (.iload_n 1, 1) := by decide +kernel
theorem dX9_type_44 : decode cX9_type 44 = .ok (.bipush 42, 2) := by decide +kernel
theorem dX9_type_46 : decode cX9_type 46 = .ok (.if_icmp .eq 51, 3) := by decide +kernel
theorem dX9_type_49 : decode cX9_type 49 = .ok (.iload_n 1, 1) := by decide +kernel
theorem dX9_type_50 : decode cX9_type 50 = .ok (.bipush 43, 2) := by decide +kernel
theorem dX9_type_52 : decode cX9_type 52 = .ok (.if_icmp .eq 45, 3) := by decide +kernel
theorem dX9_type_55 : decode cX9_type 55 = .ok (.iload_n 1, 1) := by decide +kernel
theorem dX9_type_56 : decode cX9_type 56 = .ok (.bipush 63, 2) := by decide +kernel
theorem dX9_type_58 : decode cX9_type 58 = .ok (.if_icmp .eq 39, 3) := by decide +kernel
theorem dX9_type_61 : decode cX9_type 61 = .ok (.iload_n 1, 1) := by decide +kernel
theorem dX9_type_62 : decode cX9_type 62 = .ok (.bipush 46, 2) := by decide +kernel
theorem dX9_type_64 : decode cX9_type 64 = .ok (.if_icmp .eq 33, 3) := by decide +kernel
theorem dX9_type_67 : decode cX9_type 67 = .ok (.iload_n 1, 1) := by decide +kernel
theorem dX9_type_68 : decode cX9_type 68 = .ok (.bipush 91, 2) := by decide +kernel
theorem dX9_type_70 : decode cX9_type 70 = .ok (.if_icmp .eq 27, 3) := by decide +kernel
theorem dX9_type_73 : decode cX9_type 73 = .ok (.iload_n 1, 1) := by decide +kernel
theorem dX9_type_74 : decode cX9_type 74 = .ok (.bipush 45, 2) := by decide +kernel
theorem dX9_type_76 : decode cX9_type 76 = .ok (.if_icmp .eq 21, 3) := by decide +kernel
theorem dX9_type_79 : decode cX9_type 79 = .ok (.iload_n 1, 1) := by decide +kernel
theorem dX9_type_80 : decode cX9_type 80 = .ok (.bipush 93, 2) := by decide +kernel
theorem dX9_type_82 : decode cX9_type 82 = .ok (.if_icmp .eq 15, 3) := by decide +kernel
theorem dX9_type_85 : decode cX9_type 85 = .ok (.iload_n 1, 1) := by decide +kernel
theorem dX9_type_86 : decode cX9_type 86 = .ok (.bipush 40, 2) := by decide +kernel
theorem dX9_type_88 : decode cX9_type 88 = .ok (.if_icmp .eq 9, 3) := by decide +kernel
theorem dX9_type_91 : decode cX9_type 91 = .ok (.iload_n 1, 1) := by decide +kernel
theorem dX9_type_92 : decode cX9_type 92 = .ok (.bipush 41, 2) := by decide +kernel
theorem dX9_type_94 : decode cX9_type 94 = .ok (.if_icmp .ne 7, 3) := by decide +kernel
theorem dX9_type_97 : decode cX9_type 97 = .ok (.iconst 1, 1) := by decide +kernel
theorem dX9_type_98 : decode cX9_type 98 = .ok (.goto 4, 3) := by decide +kernel
theorem dX9_type_101 : decode cX9_type 101 = .ok (.iconst 0, 1) := by decide +kernel
theorem dX9_type_102 : decode cX9_type 102 = .ok (.istore_n 2, 1) := by decide +kernel
theorem dX9_type_103 : decode cX9_type 103 = .ok (.iload_n 2, 1) := by decide +kernel
theorem dX9_type_104 : decode cX9_type 104 = .ok (.ifCond .eq 12, 3) := by decide +kernel
theorem dX9_type_107 : decode cX9_type 107 = .ok (.aload_n 0, 1) := by decide +kernel
theorem dX9_type_108 : decode cX9_type 108 = .ok (.getfield 120, 3) := by decide +kernel
theorem dX9_type_111 : decode cX9_type 111 = .ok (.bipush 24, 2) := by decide +kernel
theorem dX9_type_113 : decode cX9_type 113 = .ok (.if_icmp .ne 5, 3) := by decide +kernel
theorem dX9_type_116 : decode cX9_type 116 = .ok (.iconst 0, 1) := by decide +kernel
theorem dX9_type_117 : decode cX9_type 117 = .ok (.ireturn, 1) := by decide +kernel
theorem dX9_type_118 : decode cX9_type 118 = .ok (.aload_n 0, 1) := by decide +kernel
theorem dX9_type_119 : decode cX9_type 119 = .ok (.getfield 7, 3) := by decide +kernel
theorem dX9_type_122 : decode cX9_type 122 = .ok (.aload_n 0, 1) := by decide +kernel
theorem dX9_type_123 : decode cX9_type 123 = .ok (.getfield 120, 3) := by decide +kernel
theorem dX9_type_126 : decode cX9_type 126 = .ok (.iload_n 1, 1) := by decide +kernel
theorem dX9_type_127 : decode cX9_type 127 = .ok (.castore, 1) := by decide +kernel
theorem dX9_type_128 : decode cX9_type 128 = .ok (.aload_n 0, 1) := by decide +kernel
theorem dX9_type_129 : decode cX9_type 129 = .ok (.dup, 1) := by decide +kernel
theorem dX9_type_130 : decode cX9_type 130 = .ok (.getfield 120, 3) := by decide +kernel
theorem dX9_type_133 : decode cX9_type 133 = .ok (.iconst 1, 1) := by decide +kernel
theorem dX9_type_134 : decode cX9_type 134 = .ok (.iadd, 1) := by decide +kernel
theorem dX9_type_135 : decode cX9_type 135 = .ok (.putfield 120, 3) := by decide +kernel
theorem dX9_type_138 : decode cX9_type 138 = .ok (.iconst 1, 1) := by decide +kernel
theorem dX9_type_139 : decode cX9_type 139 = .ok (.ireturn, 1) := by decide +kernel
theorem dX9_look_0 : decode cX9_look 0 = .ok (.iload_n 1, 1) := by decide +kernel
theorem dX9_look_1 : decode cX9_look 1 = .ok (.aload_n 0, 1) := by decide +kernel
theorem dX9_look_2 : decode cX9_look 2 = .ok (.getfield 120, 3) := by decide +kernel
theorem dX9_look_5 : decode cX9_look 5 = .ok (.if_icmp .ge 12, 3) := by decide +kernel
theorem dX9_look_8 : decode cX9_look 8 = .ok (.aload_n 0, 1) := by decide +kernel
theorem dX9_look_9 : decode cX9_look 9 = .ok (.getfield 7, 3) := by decide +kernel
theorem dX9_look_12 : decode cX9_look 12 = .ok (.iload_n 1, 1) := by decide +kernel
theorem dX9_look_13 : decode cX9_look 13 = .ok (.caload, 1) := by decide +kernel
theorem dX9_look_14 : decode cX9_look 14 = .ok (.goto 4, 3) := by decide +kernel
theorem dX9_look_17 : decode cX9_look 17 = .ok (.iconst 0, 1) := by decide +kernel
theorem dX9_look_18 : decode cX9_look 18 = .ok (.ireturn, 1) := by decide +kernel
theorem dX9_made_0 : decode cX9_made 0 = .ok (.sipush 384, 3) := by decide +kernel
theorem dX9_made_3 : decode cX9_made 3 = .ok (.aload_n 0, 1) := by decide +kernel
theorem dX9_made_4 : decode cX9_made 4 = .ok (.getfield 33, 3) := by decide +kernel
theorem dX9_made_7 : decode cX9_made 7 = .ok (.bipush 6, 2) := by decide +kernel
theorem dX9_made_9 : decode cX9_made 9 = .ok (.iaload, 1) := by decide +kernel
theorem dX9_made_10 : decode cX9_made 10 = .ok (.iadd, 1) := by decide +kernel
theorem dX9_made_11 : decode cX9_made 11 = .ok (.istore 4, 2) := by decide +kernel
theorem dX9_made_13 : decode cX9_made 13 = .ok (.aload_n 0, 1) := by decide +kernel
theorem dX9_made_14 : decode cX9_made 14 = .ok (.getfield 17, 3) := by decide +kernel
theorem dX9_made_17 : decode cX9_made 17 = .ok (.iload 4, 2) := by decide +kernel
theorem dX9_made_19 : decode cX9_made 19 = .ok (.iload_n 1, 1) := by decide +kernel
theorem dX9_made_20 : decode cX9_made 20 = .ok (.iastore, 1) := by decide +kernel
theorem dX9_made_21 : decode cX9_made 21 = .ok (.aload_n 0, 1) := by decide +kernel
theorem dX9_made_22 : decode cX9_made 22 = .ok (.getfield 20, 3) := by decide +kernel
theorem dX9_made_25 : decode cX9_made 25 = .ok (.iload 4, 2) := by decide +kernel
theorem dX9_made_27 : decode cX9_made 27 = .ok (.iload_n 2, 1) := by decide +kernel
theorem dX9_made_28 : decode cX9_made 28 = .ok (.iastore, 1) := by decide +kernel
theorem dX9_made_29 : decode cX9_made 29 = .ok (.aload_n 0, 1) := by decide +kernel
theorem dX9_made_30 : decode cX9_made 30 = .ok (.getfield 23, 3) := by decide +kernel
theorem dX9_made_33 : decode cX9_made 33 = .ok (.iload 4, 2) := by decide +kernel
theorem dX9_made_35 : decode cX9_made 35 = .ok (.iload_n 3, 1) := by decide +kernel
theorem dX9_made_36 : decode cX9_made 36 = .ok (.iastore, 1) := by decide +kernel
theorem dX9_made_37 : decode cX9_made 37 = .ok (.aload_n 0, 1) := by decide +kernel
theorem dX9_made_38 : decode cX9_made 38 = .ok (.getfield 29, 3) := by decide +kernel
theorem dX9_made_41 : decode cX9_made 41 = .ok (.iload 4, 2) := by decide +kernel
theorem dX9_made_43 : decode cX9_made 43 = .ok (.iconst 0, 1) := by decide +kernel
theorem dX9_made_44 : decode cX9_made 44 = .ok (.bastore, 1) := by decide +kernel
theorem dX9_made_45 : decode cX9_made 45 = .ok (.aload_n 0, 1) := by decide +kernel
theorem dX9_made_46 : decode cX9_made 46 = .ok (.getfield 33, 3) := by decide +kernel
theorem dX9_made_49 : decode cX9_made 49 = .ok (.bipush 6, 2) := by decide +kernel
theorem dX9_made_51 : decode cX9_made 51 = .ok (.dup2, 1) := by decide +kernel
theorem dX9_made_52 : decode cX9_made 52 = .ok (.iaload, 1) := by decide +kernel
theorem dX9_made_53 : decode cX9_made 53 = .ok (.iconst 1, 1) := by decide +kernel
theorem dX9_made_54 : decode cX9_made 54 = .ok (.iadd, 1) := by decide +kernel
theorem dX9_made_55 : decode cX9_made 55 = .ok (.iastore, 1) := by decide +kernel
theorem dX9_made_56 : decode cX9_made 56 = .ok (.aload_n 0, 1) := by decide +kernel
theorem dX9_made_57 : decode cX9_made 57 = .ok (.getfield 33, 3) := by decide +kernel
theorem dX9_made_60 : decode cX9_made 60 = .ok (.bipush 6, 2) := by decide +kernel
theorem dX9_made_62 : decode cX9_made 62 = .ok (.iaload, 1) := by decide +kernel
theorem dX9_made_63 : decode cX9_made 63 = .ok (.iconst 1, 1) := by decide +kernel
theorem dX9_made_64 : decode cX9_made 64 = .ok (.isub, 1) := by decide +kernel
theorem dX9_made_65 : decode cX9_made 65 = .ok (.ireturn, 1) := by decide +kernel
theorem dX9_partDone_0 : decode cX9_partDone 0 = .ok (.aload_n 0, 1) := by decide +kernel
theorem dX9_partDone_1 : decode cX9_partDone 1 = .ok (.iload_n 2, 1) := by decide +kernel
theorem dX9_partDone_2 : decode cX9_partDone 2 = .ok (.invokevirtual 123, 3) := by decide +kernel
theorem dX9_partDone_5 : decode cX9_partDone 5 = .ok (.istore_n 3, 1) := by decide +kernel
theorem dX9_partDone_6 : decode cX9_partDone 6 = .ok (.iload_n 3, 1) := by decide +kernel
theorem dX9_partDone_7 : decode cX9_partDone 7 = .ok (.bipush 42, 2) := by decide +kernel
theorem dX9_partDone_9 : decode cX9_partDone 9 = .ok (.if_icmp .ne 13, 3) := by decide +kernel
theorem dX9_partDone_12 : decode cX9_partDone 12 = .ok (.aload_n 0, 1) := by decide +kernel
theorem dX9_partDone_13 : decode cX9_partDone 13 = .ok (.iconst 4, 1) := by decide +kernel
theorem dX9_partDone_14 : decode cX9_partDone 14 = .ok (.iload_n 1, 1) := by decide +kernel
theorem dX9_partDone_15 : decode cX9_partDone 15 = .ok (.iconst 0, 1) := by decide +kernel
theorem dX9_partDone_16 : decode cX9_partDone 16 = .ok (.invokevirtual 127, 3) := by decide +kernel
theorem dX9_partDone_19 : decode cX9_partDone 19 = .ok (.goto 37, 3) := by decide +kernel
theorem dX9_partDone_22 : decode cX9_partDone 22 = .ok (.iload_n 3, 1) := by decide +kernel
theorem dX9_partDone_23 : decode cX9_partDone 23 = .ok (.bipush 43, 2) := by decide +kernel
theorem dX9_partDone_25 : decode cX9_partDone 25 = .ok (.if_icmp .ne 13, 3) := by decide +kernel
theorem dX9_partDone_28 : decode cX9_partDone 28 = .ok (.aload_n 0, 1) := by decide +kernel
theorem dX9_partDone_29 : decode cX9_partDone 29 = .ok (.iconst 5, 1) := by decide +kernel
theorem dX9_partDone_30 : decode cX9_partDone 30 = .ok (.iload_n 1, 1) := by decide +kernel
theorem dX9_partDone_31 : decode cX9_partDone 31 = .ok (.iconst 0, 1) := by decide +kernel
theorem dX9_partDone_32 : decode cX9_partDone 32 = .ok (.invokevirtual 127, 3) := by decide +kernel
theorem dX9_partDone_35 : decode cX9_partDone 35 = .ok (.goto 21, 3) := by decide +kernel
theorem dX9_partDone_38 : decode cX9_partDone 38 = .ok (.iload_n 3, 1) := by decide +kernel
theorem dX9_partDone_39 : decode cX9_partDone 39 = .ok (.bipush 63, 2) := by decide +kernel
theorem dX9_partDone_41 : decode cX9_partDone 41 = .ok (.if_icmp .ne 14, 3) := by decide +kernel
theorem dX9_partDone_44 : decode cX9_partDone 44 = .ok (.aload_n 0, 1) := by decide +kernel
theorem dX9_partDone_45 : decode cX9_partDone 45 = .ok (.bipush 6, 2) := by decide +kernel
theorem dX9_partDone_47 : decode cX9_partDone 47 = .ok (.iload_n 1, 1) := by decide +kernel
theorem dX9_partDone_48 : decode cX9_partDone 48 = .ok (.iconst 0, 1) := by decide +kernel
theorem dX9_partDone_49 : decode cX9_partDone 49 = .ok (.invokevirtual 127, 3) := by decide +kernel
theorem dX9_partDone_52 : decode cX9_partDone 52 = .ok (.goto 4, 3) := by decide +kernel
theorem dX9_partDone_55 : decode cX9_partDone 55 = .ok (.iload_n 1, 1) := by decide +kernel
theorem dX9_partDone_56 : decode cX9_partDone 56 = .ok (.istore 4, 2) := by decide +kernel
theorem dX9_partDone_58 : decode cX9_partDone 58 = .ok (.aload_n 0, 1) := by decide +kernel
