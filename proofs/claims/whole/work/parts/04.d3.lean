theorem dX9_partDone_59 : decode cX9_partDone 59 = .ok (.getfield 99, 3) := by decide +kernel
theorem dX9_partDone_62 : decode cX9_partDone 62 = .ok (.aload_n 0, 1) := by decide +kernel
theorem dX9_partDone_63 : decode cX9_partDone 63 = .ok (.getfield 131, 3) := by decide +kernel
theorem dX9_partDone_66 : decode cX9_partDone 66 = .ok (.caload, 1) := by decide +kernel
theorem dX9_partDone_67 : decode cX9_partDone 67 = .ok (.bipush 38, 2) := by decide +kernel
theorem dX9_partDone_69 : decode cX9_partDone 69 = .ok (.if_icmp .ne 15, 3) := by decide +kernel
theorem dX9_partDone_72 : decode cX9_partDone 72 = .ok (.aload_n 0, 1) := by decide +kernel
theorem dX9_partDone_73 : decode cX9_partDone 73 = .ok (.bipush 7, 2) := by decide +kernel
theorem dX9_partDone_75 : decode cX9_partDone 75 = .ok (.iload 4, 2) := by decide +kernel
theorem dX9_partDone_77 : decode cX9_partDone 77 = .ok (.iconst 0, 1) := by decide +kernel
theorem dX9_partDone_78 : decode cX9_partDone 78 = .ok (.invokevirtual 127, 3) := by decide +kernel
theorem dX9_partDone_81 : decode cX9_partDone 81 = .ok (.goto 31, 3) := by decide +kernel
theorem dX9_partDone_84 : decode cX9_partDone 84 = .ok (.aload_n 0, 1) := by decide +kernel
theorem dX9_partDone_85 : decode cX9_partDone 85 = .ok (.getfield 99, 3) := by decide +kernel
theorem dX9_partDone_88 : decode cX9_partDone 88 = .ok (.aload_n 0, 1) := by decide +kernel
theorem dX9_partDone_89 : decode cX9_partDone 89 = .ok (.getfield 131, 3) := by decide +kernel
theorem dX9_partDone_92 : decode cX9_partDone 92 = .ok (.caload, 1) := by decide +kernel
theorem dX9_partDone_93 : decode cX9_partDone 93 = .ok (.bipush 33, 2) := by decide +kernel
theorem dX9_partDone_95 : decode cX9_partDone 95 = .ok (.if_icmp .ne 15, 3) := by decide +kernel
theorem dX9_partDone_98 : decode cX9_partDone 98 = .ok (.aload_n 0, 1) := by decide +kernel
theorem dX9_partDone_99 : decode cX9_partDone 99 = .ok (.bipush 8, 2) := by decide +kernel
theorem dX9_partDone_101 : decode cX9_partDone 101 = .ok (.iload 4, 2) := by decide +kernel
theorem dX9_partDone_103 : decode cX9_partDone 103 = .ok (.iconst 0, 1) := by decide +kernel
theorem dX9_partDone_104 : decode cX9_partDone 104 = .ok (.invokevirtual 127, 3) := by decide +kernel
theorem dX9_partDone_107 : decode cX9_partDone 107 = .ok (.goto 5, 3) := by decide +kernel
theorem dX9_partDone_110 : decode cX9_partDone 110 = .ok (.iload 4, 2) := by decide +kernel
theorem dX9_partDone_112 : decode cX9_partDone 112 = .ok (.istore 4, 2) := by decide +kernel
theorem dX9_partDone_114 : decode cX9_partDone 114 = .ok (.aload_n 0, 1) := by decide +kernel
theorem dX9_partDone_115 : decode cX9_partDone 115 = .ok (.getfield 99, 3) := by decide +kernel
theorem dX9_partDone_118 : decode cX9_partDone 118 = .ok (.aload_n 0, 1) := by decide +kernel
theorem dX9_partDone_119 : decode cX9_partDone 119 = .ok (.getfield 131, 3) := by decide +kernel
theorem dX9_partDone_122 : decode cX9_partDone 122 = .ok (.iconst 0, 1) := by decide +kernel
theorem dX9_partDone_123 : decode cX9_partDone 123 = .ok (.castore, 1) := by decide +kernel
theorem dX9_partDone_124 : decode cX9_partDone 124 = .ok (.aload_n 0, 1) := by decide +kernel
theorem dX9_partDone_125 : decode cX9_partDone 125 = .ok (.getfield 87, 3) := by decide +kernel
theorem dX9_partDone_128 : decode cX9_partDone 128 = .ok (.aload_n 0, 1) := by decide +kernel
theorem dX9_partDone_129 : decode cX9_partDone 129 = .ok (.getfield 134, 3) := by decide +kernel
theorem dX9_partDone_132 : decode cX9_partDone 132 = .ok (.iload 4, 2) := by decide +kernel
theorem dX9_partDone_134 : decode cX9_partDone 134 = .ok (.iastore, 1) := by decide +kernel
theorem dX9_partDone_135 : decode cX9_partDone 135 = .ok (.aload_n 0, 1) := by decide +kernel
theorem dX9_partDone_136 : decode cX9_partDone 136 = .ok (.dup, 1) := by decide +kernel
theorem dX9_partDone_137 : decode cX9_partDone 137 = .ok (.getfield 134, 3) := by decide +kernel
theorem dX9_partDone_140 : decode cX9_partDone 140 = .ok (.iconst 1, 1) := by decide +kernel
theorem dX9_partDone_141 : decode cX9_partDone 141 = .ok (.iadd, 1) := by decide +kernel
theorem dX9_partDone_142 : decode cX9_partDone 142 = .ok (.putfield 134, 3) := by decide +kernel
theorem dX9_partDone_145 : decode cX9_partDone 145 = .ok (.iload_n 3, 1) := by decide +kernel
theorem dX9_partDone_146 : decode cX9_partDone 146 = .ok (.bipush 42, 2) := by decide +kernel
theorem dX9_partDone_148 : decode cX9_partDone 148 = .ok (.if_icmp .eq 15, 3) := by decide +kernel
theorem dX9_partDone_151 : decode cX9_partDone 151 = .ok (.iload_n 3, 1) := by decide +kernel
theorem dX9_partDone_152 : decode cX9_partDone 152 = .ok (.bipush 43, 2) := by decide +kernel
theorem dX9_partDone_154 : decode cX9_partDone 154 = .ok (.if_icmp .eq 9, 3) := by decide +kernel
theorem dX9_partDone_157 : decode cX9_partDone 157 = .ok (.iload_n 3, 1) := by decide +kernel
theorem dX9_partDone_158 : decode cX9_partDone 158 = .ok (.bipush 63, 2) := by decide +kernel
theorem dX9_partDone_160 : decode cX9_partDone 160 = .ok (.if_icmp .ne 9, 3) := by decide +kernel
theorem dX9_partDone_163 : decode cX9_partDone 163 = .ok (.iload_n 2, 1) := by decide +kernel
theorem dX9_partDone_164 : decode cX9_partDone 164 = .ok (.iconst 1, 1) := by decide +kernel
theorem dX9_partDone_165 : decode cX9_partDone 165 = .ok (.iadd, 1) := by decide +kernel
theorem dX9_partDone_166 : decode cX9_partDone 166 = .ok (.goto 4, 3) := by decide +kernel
theorem dX9_partDone_169 : decode cX9_partDone 169 = .ok (.iload_n 2, 1) := by decide +kernel
theorem dX9_partDone_170 : decode cX9_partDone 170 = .ok (.ireturn, 1) := by decide +kernel
theorem dX9_rowDone_0 : decode cX9_rowDone 0 = .ok (.aload_n 0, 1) := by decide +kernel
theorem dX9_rowDone_1 : decode cX9_rowDone 1 = .ok (.getfield 87, 3) := by decide +kernel
theorem dX9_rowDone_4 : decode cX9_rowDone 4 = .ok (.aload_n 0, 1) := by decide +kernel
theorem dX9_rowDone_5 : decode cX9_rowDone 5 = .ok (.getfield 134, 3) := by decide +kernel
theorem dX9_rowDone_8 : decode cX9_rowDone 8 = .ok (.iconst 1, 1) := by decide +kernel
theorem dX9_rowDone_9 : decode cX9_rowDone 9 = .ok (.isub, 1) := by decide +kernel
theorem dX9_rowDone_10 : decode cX9_rowDone 10 = .ok (.iaload, 1) := by decide +kernel
theorem dX9_rowDone_11 : decode cX9_rowDone 11 = .ok (.istore_n 1, 1) := by decide +kernel
theorem dX9_rowDone_12 : decode cX9_rowDone 12 = .ok (.aload_n 0, 1) := by decide +kernel
theorem dX9_rowDone_13 : decode cX9_rowDone 13 = .ok (.dup, 1) := by decide +kernel
theorem dX9_rowDone_14 : decode cX9_rowDone 14 = .ok (.getfield 134, 3) := by decide +kernel
theorem dX9_rowDone_17 : decode cX9_rowDone 17 = .ok (.iconst 1, 1) := by decide +kernel
theorem dX9_rowDone_18 : decode cX9_rowDone 18 = .ok (.isub, 1) := by decide +kernel
theorem dX9_rowDone_19 : decode cX9_rowDone 19 = .ok (.putfield 134, 3) := by decide +kernel
theorem dX9_rowDone_22 : decode cX9_rowDone 22 = .ok (.iconst 0, 1) := by decide +kernel
theorem dX9_rowDone_23 : decode cX9_rowDone 23 = .ok (.istore_n 2, 1) := by decide +kernel
theorem dX9_rowDone_24 : decode cX9_rowDone 24 = .ok (.aload_n 0, 1) := by decide +kernel
theorem dX9_rowDone_25 : decode cX9_rowDone 25 = .ok (.getfield 134, 3) := by decide +kernel
theorem dX9_rowDone_28 : decode cX9_rowDone 28 = .ok (.aload_n 0, 1) := by decide +kernel
theorem dX9_rowDone_29 : decode cX9_rowDone 29 = .ok (.getfield 93, 3) := by decide +kernel
theorem dX9_rowDone_32 : decode cX9_rowDone 32 = .ok (.aload_n 0, 1) := by decide +kernel
theorem dX9_rowDone_33 : decode cX9_rowDone 33 = .ok (.getfield 131, 3) := by decide +kernel
theorem dX9_rowDone_36 : decode cX9_rowDone 36 = .ok (.iaload, 1) := by decide +kernel
theorem dX9_rowDone_37 : decode cX9_rowDone 37 = .ok (.if_icmp .le 45, 3) := by decide +kernel
theorem dX9_rowDone_40 : decode cX9_rowDone 40 = .ok (.aload_n 0, 1) := by decide +kernel
theorem dX9_rowDone_41 : decode cX9_rowDone 41 = .ok (.dup, 1) := by decide +kernel
theorem dX9_rowDone_42 : decode cX9_rowDone 42 = .ok (.getfield 134, 3) := by decide +kernel
theorem dX9_rowDone_45 : decode cX9_rowDone 45 = .ok (.iconst 1, 1) := by decide +kernel
theorem dX9_rowDone_46 : decode cX9_rowDone 46 = .ok (.isub, 1) := by decide +kernel
theorem dX9_rowDone_47 : decode cX9_rowDone 47 = .ok (.putfield 134, 3) := by decide +kernel
theorem dX9_rowDone_50 : decode cX9_rowDone 50 = .ok (.aload_n 0, 1) := by decide +kernel
theorem dX9_rowDone_51 : decode cX9_rowDone 51 = .ok (.iconst 2, 1) := by decide +kernel
theorem dX9_rowDone_52 : decode cX9_rowDone 52 = .ok (.aload_n 0, 1) := by decide +kernel
theorem dX9_rowDone_53 : decode cX9_rowDone 53 = .ok (.getfield 87, 3) := by decide +kernel
theorem dX9_rowDone_56 : decode cX9_rowDone 56 = .ok (.aload_n 0, 1) := by decide +kernel
theorem dX9_rowDone_57 : decode cX9_rowDone 57 = .ok (.getfield 134, 3) := by decide +kernel
theorem dX9_rowDone_60 : decode cX9_rowDone 60 = .ok (.iaload, 1) := by decide +kernel
theorem dX9_rowDone_61 : decode cX9_rowDone 61 = .ok (.iload_n 1, 1) := by decide +kernel
theorem dX9_rowDone_62 : decode cX9_rowDone 62 = .ok (.invokevirtual 127, 3) := by decide +kernel
theorem dX9_rowDone_65 : decode cX9_rowDone 65 = .ok (.istore_n 1, 1) := by decide +kernel
theorem dX9_rowDone_66 : decode cX9_rowDone 66 = .ok (.aload_n 0, 1) := by decide +kernel
theorem dX9_rowDone_67 : decode cX9_rowDone 67 = .ok (.getfield 29, 3) := by decide +kernel
theorem dX9_rowDone_70 : decode cX9_rowDone 70 = .ok (.sipush 384, 3) := by decide +kernel
theorem dX9_rowDone_73 : decode cX9_rowDone 73 = .ok (.iload_n 1, 1) := by decide +kernel
theorem dX9_rowDone_74 : decode cX9_rowDone 74 = .ok (.iadd, 1) := by decide +kernel
theorem dX9_rowDone_75 : decode cX9_rowDone 75 = .ok (.iload_n 2, 1) := by decide +kernel
theorem dX9_rowDone_76 : decode cX9_rowDone 76 = .ok (.bastore, 1) := by decide +kernel
theorem dX9_rowDone_77 : decode cX9_rowDone 77 = .ok (.iconst 1, 1) := by decide +kernel
theorem dX9_rowDone_78 : decode cX9_rowDone 78 = .ok (.istore_n 2, 1) := by decide +kernel
theorem dX9_rowDone_79 : decode cX9_rowDone 79 = .ok (.goto (-55), 3) := by decide +kernel
theorem dX9_rowDone_82 : decode cX9_rowDone 82 = .ok (.aload_n 0, 1) := by decide +kernel
theorem dX9_rowDone_83 : decode cX9_rowDone 83 = .ok (.getfield 90, 3) := by decide +kernel
theorem dX9_rowDone_86 : decode cX9_rowDone 86 = .ok (.aload_n 0, 1) := by decide +kernel
theorem dX9_rowDone_87 : decode cX9_rowDone 87 = .ok (.getfield 137, 3) := by decide +kernel
theorem dX9_rowDone_90 : decode cX9_rowDone 90 = .ok (.iload_n 1, 1) := by decide +kernel
theorem dX9_rowDone_91 : decode cX9_rowDone 91 = .ok (.iastore, 1) := by decide +kernel
theorem dX9_rowDone_92 : decode cX9_rowDone 92 = .ok (.aload_n 0, 1) := by decide +kernel
theorem dX9_rowDone_93 : decode cX9_rowDone 93 = .ok (.dup, 1) := by decide +kernel
theorem dX9_rowDone_94 : decode cX9_rowDone 94 = .ok (.getfield 137, 3) := by decide +kernel
theorem dX9_rowDone_97 : decode cX9_rowDone 97 = .ok (.iconst 1, 1) := by decide +kernel
theorem dX9_rowDone_98 : decode cX9_rowDone 98 = .ok (.iadd, 1) := by decide +kernel
theorem dX9_rowDone_99 : decode cX9_rowDone 99 = .ok (.putfield 137, 3) := by decide +kernel
theorem dX9_rowDone_102 : decode cX9_rowDone 102 = .ok (.return_, 1) := by decide +kernel
theorem dX9_choiceDone_0 : decode cX9_choiceDone 0 = .ok (.aload_n 0, 1) := by decide +kernel
theorem dX9_choiceDone_1 : decode cX9_choiceDone 1 = .ok (.invokevirtual 140, 3) := by decide +kernel
theorem dX9_choiceDone_4 : decode cX9_choiceDone 4 = .ok (.aload_n 0, 1) := by decide +kernel
theorem dX9_choiceDone_5 : decode cX9_choiceDone 5 = .ok (.getfield 90, 3) := by decide +kernel
theorem dX9_choiceDone_8 : decode cX9_choiceDone 8 = .ok (.aload_n 0, 1) := by decide +kernel
theorem dX9_choiceDone_9 : decode cX9_choiceDone 9 = .ok (.getfield 137, 3) := by decide +kernel
theorem dX9_choiceDone_12 : decode cX9_choiceDone 12 = .ok (.iconst 1, 1) := by decide +kernel
theorem dX9_choiceDone_13 : decode cX9_choiceDone 13 = .ok (.isub, 1) := by decide +kernel
theorem dX9_choiceDone_14 : decode cX9_choiceDone 14 = .ok (.iaload, 1) := by decide +kernel
theorem dX9_choiceDone_15 : decode cX9_choiceDone 15 = .ok (.istore_n 1, 1) := by decide +kernel
theorem dX9_choiceDone_16 : decode cX9_choiceDone 16 = .ok (.aload_n 0, 1) := by decide +kernel
theorem dX9_choiceDone_17 : decode cX9_choiceDone 17 = .ok (.dup, 1) := by decide +kernel
theorem dX9_choiceDone_18 : decode cX9_choiceDone 18 = .ok (.getfield 137, 3) := by decide +kernel
theorem dX9_choiceDone_21 : decode cX9_choiceDone 21 = .ok (.iconst 1, 1) := by decide +kernel
theorem dX9_choiceDone_22 : decode cX9_choiceDone 22 = .ok (.isub, 1) := by decide +kernel
theorem dX9_choiceDone_23 : decode cX9_choiceDone 23 = .ok (.putfield 137, 3) := by decide +kernel
theorem dX9_choiceDone_26 : decode cX9_choiceDone 26 = .ok (.iconst 0, 1) := by decide +kernel
theorem dX9_choiceDone_27 : decode cX9_choiceDone 27 = .ok (.istore_n 2, 1) := by decide +kernel
theorem dX9_choiceDone_28 : decode cX9_choiceDone 28 = .ok (.aload_n 0, 1) := by decide +kernel
theorem dX9_choiceDone_29 : decode cX9_choiceDone 29 = .ok (.getfield 137, 3) := by decide +kernel
theorem dX9_choiceDone_32 : decode cX9_choiceDone 32 = .ok (.aload_n 0, 1) := by decide +kernel
theorem dX9_choiceDone_33 : decode cX9_choiceDone 33 = .ok (.getfield 96, 3) := by decide +kernel
theorem dX9_choiceDone_36 : decode cX9_choiceDone 36 = .ok (.aload_n 0, 1) := by decide +kernel
theorem dX9_choiceDone_37 : decode cX9_choiceDone 37 = .ok (.getfield 131, 3) := by decide +kernel
theorem dX9_choiceDone_40 : decode cX9_choiceDone 40 = .ok (.iaload, 1) := by decide +kernel
theorem dX9_choiceDone_41 : decode cX9_choiceDone 41 = .ok (.if_icmp .le 45, 3) := by decide +kernel
theorem dX9_choiceDone_44 : decode cX9_choiceDone 44 = .ok (.aload_n 0, 1) := by decide +kernel
theorem dX9_choiceDone_45 : decode cX9_choiceDone 45 = .ok (.dup, 1) := by decide +kernel
theorem dX9_choiceDone_46 : decode cX9_choiceDone 46 = .ok (.getfield 137, 3) := by decide +kernel
theorem dX9_choiceDone_49 : decode cX9_choiceDone 49 = .ok (.iconst 1, 1) := by decide +kernel
theorem dX9_choiceDone_50 : decode cX9_choiceDone 50 = .ok (.isub, 1) := by decide +kernel
theorem dX9_choiceDone_51 : decode cX9_choiceDone 51 = .ok (.putfield 137, 3) := by decide +kernel
theorem dX9_choiceDone_54 : decode cX9_choiceDone 54 = .ok (.aload_n 0, 1) := by decide +kernel
theorem dX9_choiceDone_55 : decode cX9_choiceDone 55 = .ok (.iconst 3, 1) := by decide +kernel
theorem dX9_choiceDone_56 : decode cX9_choiceDone 56 = .ok (.aload_n 0, 1) := by decide +kernel
theorem dX9_choiceDone_57 : decode cX9_choiceDone 57 = .ok (.getfield 90, 3) := by decide +kernel
theorem dX9_choiceDone_60 : decode cX9_choiceDone 60 = .ok (.aload_n 0, 1) := by decide +kernel
theorem dX9_choiceDone_61 : decode cX9_choiceDone 61 = .ok (.getfield 137, 3) := by decide +kernel
theorem dX9_choiceDone_64 : decode cX9_choiceDone 64 = .ok (.iaload, 1) := by decide +kernel
theorem dX9_choiceDone_65 : decode cX9_choiceDone 65 = .ok (.iload_n 1, 1) := by decide +kernel
theorem dX9_choiceDone_66 : decode cX9_choiceDone 66 = .ok (.invokevirtual 127, 3) := by decide +kernel
theorem dX9_choiceDone_69 : decode cX9_choiceDone 69 = .ok (.istore_n 1, 1) := by decide +kernel
theorem dX9_choiceDone_70 : decode cX9_choiceDone 70 = .ok (.aload_n 0, 1) := by decide +kernel
theorem dX9_choiceDone_71 : decode cX9_choiceDone 71 = .ok (.getfield 29, 3) := by decide +kernel
theorem dX9_choiceDone_74 : decode cX9_choiceDone 74 = .ok (.sipush 384, 3) := by decide +kernel
theorem dX9_choiceDone_77 : decode cX9_choiceDone 77 = .ok (.iload_n 1, 1) := by decide +kernel
theorem dX9_choiceDone_78 : decode cX9_choiceDone 78 = .ok (.iadd, 1) := by decide +kernel
theorem dX9_choiceDone_79 : decode cX9_choiceDone 79 = .ok (.iload_n 2, 1) := by decide +kernel
theorem dX9_choiceDone_80 : decode cX9_choiceDone 80 = .ok (.bastore, 1) := by decide +kernel
theorem dX9_choiceDone_81 : decode cX9_choiceDone 81 = .ok (.iconst 1, 1) := by decide +kernel
theorem dX9_choiceDone_82 : decode cX9_choiceDone 82 = .ok (.istore_n 2, 1) := by decide +kernel
theorem dX9_choiceDone_83 : decode cX9_choiceDone 83 = .ok (.goto (-55), 3) := by decide +kernel
theorem dX9_choiceDone_86 : decode cX9_choiceDone 86 = .ok (.iload_n 1, 1) := by decide +kernel
theorem dX9_choiceDone_87 : decode cX9_choiceDone 87 = .ok (.ireturn, 1) := by decide +kernel
theorem dX9_enter_0 : decode cX9_enter 0 = .ok (.aload_n 0, 1) := by decide +kernel
theorem dX9_enter_1 : decode cX9_enter 1 = .ok (.getfield 93, 3) := by decide +kernel
theorem dX9_enter_4 : decode cX9_enter 4 = .ok (.aload_n 0, 1) := by decide +kernel
theorem dX9_enter_5 : decode cX9_enter 5 = .ok (.getfield 131, 3) := by decide +kernel
theorem dX9_enter_8 : decode cX9_enter 8 = .ok (.aload_n 0, 1) := by decide +kernel
theorem dX9_enter_9 : decode cX9_enter 9 = .ok (.getfield 134, 3) := by decide +kernel
theorem dX9_enter_12 : decode cX9_enter 12 = .ok (.iastore, 1) := by decide +kernel
theorem dX9_enter_13 : decode cX9_enter 13 = .ok (.aload_n 0, 1) := by decide +kernel
theorem dX9_enter_14 : decode cX9_enter 14 = .ok (.getfield 96, 3) := by decide +kernel
theorem dX9_enter_17 : decode cX9_enter 17 = .ok (.aload_n 0, 1) := by decide +kernel
theorem dX9_enter_18 : decode cX9_enter 18 = .ok (.getfield 131, 3) := by decide +kernel
theorem dX9_enter_21 : decode cX9_enter 21 = .ok (.aload_n 0, 1) := by decide +kernel
theorem dX9_enter_22 : decode cX9_enter 22 = .ok (.getfield 137, 3) := by decide +kernel
theorem dX9_enter_25 : decode cX9_enter 25 = .ok (.iastore, 1) := by decide +kernel
theorem dX9_enter_26 : decode cX9_enter 26 = .ok (.aload_n 0, 1) := by decide +kernel
theorem dX9_enter_27 : decode cX9_enter 27 = .ok (.getfield 99, 3) := by decide +kernel
theorem dX9_enter_30 : decode cX9_enter 30 = .ok (.aload_n 0, 1) := by decide +kernel
theorem dX9_enter_31 : decode cX9_enter 31 = .ok (.getfield 131, 3) := by decide +kernel
theorem dX9_enter_34 : decode cX9_enter 34 = .ok (.iconst 0, 1) := by decide +kernel
theorem dX9_enter_35 : decode cX9_enter 35 = .ok (.castore, 1) := by decide +kernel
theorem dX9_enter_36 : decode cX9_enter 36 = .ok (.return_, 1) := by decide +kernel
theorem dX9_simple_0 : decode cX9_simple 0 = .ok (.aload_n 0, 1) := by decide +kernel
theorem dX9_simple_1 : decode cX9_simple 1 = .ok (.iload_n 1, 1) := by decide +kernel
theorem dX9_simple_2 : decode cX9_simple 2 = .ok (.invokevirtual 123, 3) := by decide +kernel
theorem dX9_simple_5 : decode cX9_simple 5 = .ok (.istore_n 2, 1) := by decide +kernel
theorem dX9_simple_6 : decode cX9_simple 6 = .ok (.iload_n 2, 1) := by decide +kernel
theorem dX9_simple_7 : decode cX9_simple 7 = .ok (.invokestatic 113, 3) := by decide +kernel
theorem dX9_simple_10 : decode cX9_simple 10 = .ok (.ifCond .ne 9, 3) := by decide +kernel
theorem dX9_simple_13 : decode cX9_simple 13 = .ok (.iload_n 2, 1) := by decide +kernel
theorem dX9_simple_14 : decode cX9_simple 14 = .ok (.bipush 46, 2) := by decide +kernel
theorem dX9_simple_16 : decode cX9_simple 16 = .ok (.if_icmp .ne 47, 3) := by decide +kernel
theorem dX9_simple_19 : decode cX9_simple 19 = .ok (.aload_n 0, 1) := by decide +kernel
theorem dX9_simple_20 : decode cX9_simple 20 = .ok (.iconst 0, 1) := by decide +kernel
theorem dX9_simple_21 : decode cX9_simple 21 = .ok (.iload_n 2, 1) := by decide +kernel
theorem dX9_simple_22 : decode cX9_simple 22 = .ok (.bipush 46, 2) := by decide +kernel
theorem dX9_simple_24 : decode cX9_simple 24 = .ok (.if_icmp .ne 7, 3) := by decide +kernel
theorem dX9_simple_27 : decode cX9_simple 27 = .ok (.iconst 0, 1) := by decide +kernel
theorem dX9_simple_28 : decode cX9_simple 28 = .ok (.goto 7, 3) := by decide +kernel
theorem dX9_simple_31 : decode cX9_simple 31 = .ok (.iload_n 2, 1) := by decide +kernel
theorem dX9_simple_32 : decode cX9_simple 32 = .ok (.bipush 97, 2) := by decide +kernel
theorem dX9_simple_34 : decode cX9_simple 34 = .ok (.isub, 1) := by decide +kernel
theorem dX9_simple_35 : decode cX9_simple 35 = .ok (.iload_n 2, 1) := by decide +kernel
theorem dX9_simple_36 : decode cX9_simple 36 = .ok (.bipush 46, 2) := by decide +kernel
theorem dX9_simple_38 : decode cX9_simple 38 = .ok (.if_icmp .ne 8, 3) := by decide +kernel
theorem dX9_simple_41 : decode cX9_simple 41 = .ok (.bipush 8, 2) := by decide +kernel
theorem dX9_simple_43 : decode cX9_simple 43 = .ok (.goto 7, 3) := by decide +kernel
theorem dX9_simple_46 : decode cX9_simple 46 = .ok (.iload_n 2, 1) := by decide +kernel
theorem dX9_simple_47 : decode cX9_simple 47 = .ok (.bipush 97, 2) := by decide +kernel
theorem dX9_simple_49 : decode cX9_simple 49 = .ok (.isub, 1) := by decide +kernel
theorem dX9_simple_50 : decode cX9_simple 50 = .ok (.invokevirtual 127, 3) := by decide +kernel
theorem dX9_simple_53 : decode cX9_simple 53 = .ok (.istore_n 3, 1) := by decide +kernel
theorem dX9_simple_54 : decode cX9_simple 54 = .ok (.aload_n 0, 1) := by decide +kernel
theorem dX9_simple_55 : decode cX9_simple 55 = .ok (.iload_n 3, 1) := by decide +kernel
theorem dX9_simple_56 : decode cX9_simple 56 = .ok (.iload_n 1, 1) := by decide +kernel
theorem dX9_simple_57 : decode cX9_simple 57 = .ok (.iconst 1, 1) := by decide +kernel
theorem dX9_simple_58 : decode cX9_simple 58 = .ok (.iadd, 1) := by decide +kernel
theorem dX9_simple_59 : decode cX9_simple 59 = .ok (.invokevirtual 143, 3) := by decide +kernel
theorem dX9_simple_62 : decode cX9_simple 62 = .ok (.ireturn, 1) := by decide +kernel
theorem dX9_simple_63 : decode cX9_simple 63 = .ok (.iload_n 2, 1) := by decide +kernel
theorem dX9_simple_64 : decode cX9_simple 64 = .ok (.invokestatic 117, 3) := by decide +kernel
theorem dX9_simple_67 : decode cX9_simple 67 = .ok (.ifCond .eq 21, 3) := by decide +kernel
theorem dX9_simple_70 : decode cX9_simple 70 = .ok (.aload_n 0, 1) := by decide +kernel
theorem dX9_simple_71 : decode cX9_simple 71 = .ok (.aload_n 0, 1) := by decide +kernel
theorem dX9_simple_72 : decode cX9_simple 72 = .ok (.iconst 1, 1) := by decide +kernel
theorem dX9_simple_73 : decode cX9_simple 73 = .ok (.iload_n 2, 1) := by decide +kernel
theorem dX9_simple_74 : decode cX9_simple 74 = .ok (.bipush 65, 2) := by decide +kernel
theorem dX9_simple_76 : decode cX9_simple 76 = .ok (.isub, 1) := by decide +kernel
theorem dX9_simple_77 : decode cX9_simple 77 = .ok (.iconst 0, 1) := by decide +kernel
theorem dX9_simple_78 : decode cX9_simple 78 = .ok (.invokevirtual 127, 3) := by decide +kernel
theorem dX9_simple_81 : decode cX9_simple 81 = .ok (.iload_n 1, 1) := by decide +kernel
theorem dX9_simple_82 : decode cX9_simple 82 = .ok (.iconst 1, 1) := by decide +kernel
theorem dX9_simple_83 : decode cX9_simple 83 = .ok (.iadd, 1) := by decide +kernel
theorem dX9_simple_84 : decode cX9_simple 84 = .ok (.invokevirtual 143, 3) := by decide +kernel
theorem dX9_simple_87 : decode cX9_simple 87 = .ok (.ireturn, 1) := by decide +kernel
theorem dX9_simple_88 : decode cX9_simple 88 = .ok (.iload_n 2, 1) := by decide +kernel
theorem dX9_simple_89 : decode cX9_simple 89 = .ok (.bipush 91, 2) := by decide +kernel
theorem dX9_simple_91 : decode cX9_simple 91 = .ok (.if_icmp .eq 7, 3) := by decide +kernel
theorem dX9_simple_94 : decode cX9_simple 94 = .ok (.iconst (-1), 1) := by decide +kernel
theorem dX9_simple_95 : decode cX9_simple 95 = .ok (.iload_n 1, 1) := by decide +kernel
theorem dX9_simple_96 : decode cX9_simple 96 = .ok (.isub, 1) := by decide +kernel
theorem dX9_simple_97 : decode cX9_simple 97 = .ok (.ireturn, 1) := by decide +kernel
theorem dX9_simple_98 : decode cX9_simple 98 = .ok (.aload_n 0, 1) := by decide +kernel
theorem dX9_simple_99 : decode cX9_simple 99 = .ok (.iload_n 1, 1) := by decide +kernel
theorem dX9_simple_100 : decode cX9_simple 100 = .ok (.iconst 1, 1) := by decide +kernel
theorem dX9_simple_101 : decode cX9_simple 101 = .ok (.iadd, 1) := by decide +kernel
theorem dX9_simple_102 : decode cX9_simple 102 = .ok (.invokevirtual 123, 3) := by decide +kernel
theorem dX9_simple_105 : decode cX9_simple 105 = .ok (.invokestatic 113, 3) := by decide +kernel
theorem dX9_simple_108 : decode cX9_simple 108 = .ok (.ifCond .ne 8, 3) := by decide +kernel
theorem dX9_simple_111 : decode cX9_simple 111 = .ok (.bipush (-2), 2) := by decide +kernel
theorem dX9_simple_113 : decode cX9_simple 113 = .ok (.iload_n 1, 1) := by decide +kernel
theorem dX9_simple_114 : decode cX9_simple 114 = .ok (.isub, 1) := by decide +kernel
theorem dX9_simple_115 : decode cX9_simple 115 = .ok (.ireturn, 1) := by decide +kernel
theorem dX9_simple_116 : decode cX9_simple 116 = .ok (.aload_n 0, 1) := by decide +kernel
theorem dX9_simple_117 : decode cX9_simple 117 = .ok (.iload_n 1, 1) := by decide +kernel
theorem dX9_simple_118 : decode cX9_simple 118 = .ok (.iconst 2, 1) := by decide +kernel
theorem dX9_simple_119 : decode cX9_simple 119 = .ok (.iadd, 1) := by decide +kernel
theorem dX9_simple_120 : decode cX9_simple 120 = .ok (.invokevirtual 123, 3) := by decide +kernel
theorem dX9_simple_123 : decode cX9_simple 123 = .ok (.bipush 45, 2) := by decide +kernel
theorem dX9_simple_125 : decode cX9_simple 125 = .ok (.if_icmp .eq 8, 3) := by decide +kernel
theorem dX9_simple_128 : decode cX9_simple 128 = .ok (.bipush (-3), 2) := by decide +kernel
theorem dX9_simple_130 : decode cX9_simple 130 = .ok (.iload_n 1, 1) := by decide +kernel
theorem dX9_simple_131 : decode cX9_simple 131 = .ok (.isub, 1) := by decide +kernel
theorem dX9_simple_132 : decode cX9_simple 132 = .ok (.ireturn, 1) := by decide +kernel
theorem dX9_simple_133 : decode cX9_simple 133 = .ok (.aload_n 0, 1) := by decide +kernel
theorem dX9_simple_134 : decode cX9_simple 134 = .ok (.iload_n 1, 1) := by decide +kernel
theorem dX9_simple_135 : decode cX9_simple 135 = .ok (.iconst 3, 1) := by decide +kernel
theorem dX9_simple_136 : decode cX9_simple 136 = .ok (.iadd, 1) := by decide +kernel
theorem dX9_simple_137 : decode cX9_simple 137 = .ok (.invokevirtual 123, 3) := by decide +kernel
theorem dX9_simple_140 : decode cX9_simple 140 = .ok (.invokestatic 113, 3) := by decide +kernel
theorem dX9_simple_143 : decode cX9_simple 143 = .ok (.ifCond .eq 20, 3) := by decide +kernel
theorem dX9_simple_146 : decode cX9_simple 146 = .ok (.aload_n 0, 1) := by decide +kernel
theorem dX9_simple_147 : decode cX9_simple 147 = .ok (.iload_n 1, 1) := by decide +kernel
theorem dX9_simple_148 : decode cX9_simple 148 = .ok (.iconst 3, 1) := by decide +kernel
theorem dX9_simple_149 : decode cX9_simple 149 = .ok (.iadd, 1) := by decide +kernel
theorem dX9_simple_150 : decode cX9_simple 150 = .ok (.invokevirtual 123, 3) := by decide +kernel
theorem dX9_simple_153 : decode cX9_simple 153 = .ok (.aload_n 0, 1) := by decide +kernel
theorem dX9_simple_154 : decode cX9_simple 154 = .ok (.iload_n 1, 1) := by decide +kernel
theorem dX9_simple_155 : decode cX9_simple 155 = .ok (.iconst 1, 1) := by decide +kernel
theorem dX9_simple_156 : decode cX9_simple 156 = .ok (.iadd, 1) := by decide +kernel
theorem dX9_simple_157 : decode cX9_simple 157 = .ok (.invokevirtual 123, 3) := by decide +kernel
theorem dX9_simple_160 : decode cX9_simple 160 = .ok (.if_icmp .ge 8, 3) := by decide +kernel
theorem dX9_simple_163 : decode cX9_simple 163 = .ok (.bipush (-4), 2) := by decide +kernel
theorem dX9_simple_165 : decode cX9_simple 165 = .ok (.iload_n 1, 1) := by decide +kernel
theorem dX9_simple_166 : decode cX9_simple 166 = .ok (.isub, 1) := by decide +kernel
theorem dX9_simple_167 : decode cX9_simple 167 = .ok (.ireturn, 1) := by decide +kernel
theorem dX9_simple_168 : decode cX9_simple 168 = .ok (.aload_n 0, 1) := by decide +kernel
theorem dX9_simple_169 : decode cX9_simple 169 = .ok (.iload_n 1, 1) := by decide +kernel
theorem dX9_simple_170 : decode cX9_simple 170 = .ok (.iconst 4, 1) := by decide +kernel
theorem dX9_simple_171 : decode cX9_simple 171 = .ok (.iadd, 1) := by decide +kernel
theorem dX9_simple_172 : decode cX9_simple 172 = .ok (.invokevirtual 123, 3) := by decide +kernel
theorem dX9_simple_175 : decode cX9_simple 175 = .ok (.bipush 93, 2) := by decide +kernel
theorem dX9_simple_177 : decode cX9_simple 177 = .ok (.if_icmp .eq 8, 3) := by decide +kernel
theorem dX9_simple_180 : decode cX9_simple 180 = .ok (.bipush (-5), 2) := by decide +kernel
theorem dX9_simple_182 : decode cX9_simple 182 = .ok (.iload_n 1, 1) := by decide +kernel
theorem dX9_simple_183 : decode cX9_simple 183 = .ok (.isub, 1) := by decide +kernel
theorem dX9_simple_184 : decode cX9_simple 184 = .ok (.ireturn, 1) := by decide +kernel
theorem dX9_simple_185 : decode cX9_simple 185 = .ok (.aload_n 0, 1) := by decide +kernel
theorem dX9_simple_186 : decode cX9_simple 186 = .ok (.aload_n 0, 1) := by decide +kernel
theorem dX9_simple_187 : decode cX9_simple 187 = .ok (.iconst 0, 1) := by decide +kernel
theorem dX9_simple_188 : decode cX9_simple 188 = .ok (.aload_n 0, 1) := by decide +kernel
theorem dX9_simple_189 : decode cX9_simple 189 = .ok (.iload_n 1, 1) := by decide +kernel
theorem dX9_simple_190 : decode cX9_simple 190 = .ok (.iconst 1, 1) := by decide +kernel
theorem dX9_simple_191 : decode cX9_simple 191 = .ok (.iadd, 1) := by decide +kernel
theorem dX9_simple_192 : decode cX9_simple 192 = .ok (.invokevirtual 123, 3) := by decide +kernel
theorem dX9_simple_195 : decode cX9_simple 195 = .ok (.bipush 97, 2) := by decide +kernel
theorem dX9_simple_197 : decode cX9_simple 197 = .ok (.isub, 1) := by decide +kernel
theorem dX9_simple_198 : decode cX9_simple 198 = .ok (.aload_n 0, 1) := by decide +kernel
theorem dX9_simple_199 : decode cX9_simple 199 = .ok (.iload_n 1, 1) := by decide +kernel
theorem dX9_simple_200 : decode cX9_simple 200 = .ok (.iconst 3, 1) := by decide +kernel
theorem dX9_simple_201 : decode cX9_simple 201 = .ok (.iadd, 1) := by decide +kernel
theorem dX9_simple_202 : decode cX9_simple 202 = .ok (.invokevirtual 123, 3) := by decide +kernel
theorem dX9_simple_205 : decode cX9_simple 205 = .ok (.bipush 97, 2) := by decide +kernel
theorem dX9_simple_207 : decode cX9_simple 207 = .ok (.isub, 1) := by decide +kernel
theorem dX9_simple_208 : decode cX9_simple 208 = .ok (.invokevirtual 127, 3) := by decide +kernel
theorem dX9_simple_211 : decode cX9_simple 211 = .ok (.iload_n 1, 1) := by decide +kernel
theorem dX9_simple_212 : decode cX9_simple 212 = .ok (.iconst 5, 1) := by decide +kernel
theorem dX9_simple_213 : decode cX9_simple 213 = .ok (.iadd, 1) := by decide +kernel
theorem dX9_simple_214 : decode cX9_simple 214 = .ok (.invokevirtual 143, 3) := by decide +kernel
theorem dX9_simple_217 : decode cX9_simple 217 = .ok (.ireturn, 1) := by decide +kernel
theorem dX9_read_0 : decode cX9_read 0 = .ok (.aload_n 0, 1) := by decide +kernel
theorem dX9_read_1 : decode cX9_read 1 = .ok (.getfield 33, 3) := by decide +kernel
theorem dX9_read_4 : decode cX9_read 4 = .ok (.bipush 6, 2) := by decide +kernel
theorem dX9_read_6 : decode cX9_read 6 = .ok (.iconst 0, 1) := by decide +kernel
theorem dX9_read_7 : decode cX9_read 7 = .ok (.iastore, 1) := by decide +kernel
theorem dX9_read_8 : decode cX9_read 8 = .ok (.aload_n 0, 1) := by decide +kernel
theorem dX9_read_9 : decode cX9_read 9 = .ok (.iconst 0, 1) := by decide +kernel
theorem dX9_read_10 : decode cX9_read 10 = .ok (.putfield 131, 3) := by decide +kernel
theorem dX9_read_13 : decode cX9_read 13 = .ok (.aload_n 0, 1) := by decide +kernel
theorem dX9_read_14 : decode cX9_read 14 = .ok (.iconst 0, 1) := by decide +kernel
theorem dX9_read_15 : decode cX9_read 15 = .ok (.putfield 134, 3) := by decide +kernel
theorem dX9_read_18 : decode cX9_read 18 = .ok (.aload_n 0, 1) := by decide +kernel
theorem dX9_read_19 : decode cX9_read 19 = .ok (.iconst 0, 1) := by decide +kernel
theorem dX9_read_20 : decode cX9_read 20 = .ok (.putfield 137, 3) := by decide +kernel
theorem dX9_read_23 : decode cX9_read 23 = .ok (.aload_n 0, 1) := by decide +kernel
theorem dX9_read_24 : decode cX9_read 24 = .ok (.invokevirtual 147, 3) := by decide +kernel
theorem dX9_read_27 : decode cX9_read 27 = .ok (.aload_n 0, 1) := by decide +kernel
theorem dX9_read_28 : decode cX9_read 28 = .ok (.iconst 0, 1) := by decide +kernel
theorem dX9_read_29 : decode cX9_read 29 = .ok (.invokevirtual 123, 3) := by decide +kernel
theorem dX9_read_32 : decode cX9_read 32 = .ok (.invokestatic 117, 3) := by decide +kernel
theorem dX9_read_35 : decode cX9_read 35 = .ok (.ifCond .ne 5, 3) := by decide +kernel
theorem dX9_read_38 : decode cX9_read 38 = .ok (.iconst 0, 1) := by decide +kernel
theorem dX9_read_39 : decode cX9_read 39 = .ok (.ireturn, 1) := by decide +kernel
theorem dX9_read_40 : decode cX9_read 40 = .ok (.aload_n 0, 1) := by decide +kernel
theorem dX9_read_41 : decode cX9_read 41 = .ok (.iconst 1, 1) := by decide +kernel
theorem dX9_read_42 : decode cX9_read 42 = .ok (.invokevirtual 123, 3) := by decide +kernel
theorem dX9_read_45 : decode cX9_read 45 = .ok (.bipush 61, 2) := by decide +kernel
theorem dX9_read_47 : decode cX9_read 47 = .ok (.if_icmp .eq 5, 3) := by decide +kernel
theorem dX9_read_50 : decode cX9_read 50 = .ok (.iconst 1, 1) := by decide +kernel
theorem dX9_read_51 : decode cX9_read 51 = .ok (.ireturn, 1) := by decide +kernel
theorem dX9_read_52 : decode cX9_read 52 = .ok (.iconst 2, 1) := by decide +kernel
theorem dX9_read_53 : decode cX9_read 53 = .ok (.istore_n 1, 1) := by decide +kernel
theorem dX9_read_54 : decode cX9_read 54 = .ok (.iconst 1, 1) := by decide +kernel
theorem dX9_read_55 : decode cX9_read 55 = .ok (.istore_n 2, 1) := by decide +kernel
theorem dX9_read_56 : decode cX9_read 56 = .ok (.iload_n 1, 1) := by decide +kernel
theorem dX9_read_57 : decode cX9_read 57 = .ok (.aload_n 0, 1) := by decide +kernel
theorem dX9_read_58 : decode cX9_read 58 = .ok (.getfield 120, 3) := by decide +kernel
theorem dX9_read_61 : decode cX9_read 61 = .ok (.if_icmp .ge 182, 3) := by decide +kernel
theorem dX9_read_64 : decode cX9_read 64 = .ok (.aload_n 0, 1) := by decide +kernel
theorem dX9_read_65 : decode cX9_read 65 = .ok (.iload_n 1, 1) := by decide +kernel
theorem dX9_read_66 : decode cX9_read 66 = .ok (.invokevirtual 123, 3) := by decide +kernel
theorem dX9_read_69 : decode cX9_read 69 = .ok (.istore_n 3, 1) := by decide +kernel
theorem dX9_read_70 : decode cX9_read 70 = .ok (.iload_n 3, 1) := by decide +kernel
theorem dX9_read_71 : decode cX9_read 71 = .ok (.bipush 38, 2) := by decide +kernel
theorem dX9_read_73 : decode cX9_read 73 = .ok (.if_icmp .eq 9, 3) := by decide +kernel
theorem dX9_read_76 : decode cX9_read 76 = .ok (.iload_n 3, 1) := by decide +kernel
theorem dX9_read_77 : decode cX9_read 77 = .ok (.bipush 33, 2) := by decide +kernel
theorem dX9_read_79 : decode cX9_read 79 = .ok (.if_icmp .ne 33, 3) := by decide +kernel
theorem dX9_read_82 : decode cX9_read 82 = .ok (.aload_n 0, 1) := by decide +kernel
theorem dX9_read_83 : decode cX9_read 83 = .ok (.getfield 99, 3) := by decide +kernel
theorem dX9_read_86 : decode cX9_read 86 = .ok (.aload_n 0, 1) := by decide +kernel
theorem dX9_read_87 : decode cX9_read 87 = .ok (.getfield 131, 3) := by decide +kernel
theorem dX9_read_90 : decode cX9_read 90 = .ok (.caload, 1) := by decide +kernel
theorem dX9_read_91 : decode cX9_read 91 = .ok (.ifCond .ne 21, 3) := by decide +kernel
theorem dX9_read_94 : decode cX9_read 94 = .ok (.aload_n 0, 1) := by decide +kernel
theorem dX9_read_95 : decode cX9_read 95 = .ok (.getfield 99, 3) := by decide +kernel
theorem dX9_read_98 : decode cX9_read 98 = .ok (.aload_n 0, 1) := by decide +kernel
theorem dX9_read_99 : decode cX9_read 99 = .ok (.getfield 131, 3) := by decide +kernel
theorem dX9_read_102 : decode cX9_read 102 = .ok (.iload_n 3, 1) := by decide +kernel
theorem dX9_read_103 : decode cX9_read 103 = .ok (.castore, 1) := by decide +kernel
theorem dX9_read_104 : decode cX9_read 104 = .ok (.iinc 1 1, 3) := by decide +kernel
theorem dX9_read_107 : decode cX9_read 107 = .ok (.iconst 1, 1) := by decide +kernel
theorem dX9_read_108 : decode cX9_read 108 = .ok (.istore_n 2, 1) := by decide +kernel
theorem dX9_read_109 : decode cX9_read 109 = .ok (.goto 131, 3) := by decide +kernel
theorem dX9_read_112 : decode cX9_read 112 = .ok (.iload_n 3, 1) := by decide +kernel
theorem dX9_read_113 : decode cX9_read 113 = .ok (.bipush 40, 2) := by decide +kernel
theorem dX9_read_115 : decode cX9_read 115 = .ok (.if_icmp .ne 35, 3) := by decide +kernel
theorem dX9_read_118 : decode cX9_read 118 = .ok (.aload_n 0, 1) := by decide +kernel
theorem dX9_read_119 : decode cX9_read 119 = .ok (.getfield 131, 3) := by decide +kernel
theorem dX9_read_122 : decode cX9_read 122 = .ok (.iconst 4, 1) := by decide +kernel
theorem dX9_read_123 : decode cX9_read 123 = .ok (.if_icmp .ne 5, 3) := by decide +kernel
theorem dX9_read_126 : decode cX9_read 126 = .ok (.iload_n 1, 1) := by decide +kernel
theorem dX9_read_127 : decode cX9_read 127 = .ok (.ireturn, 1) := by decide +kernel
theorem dX9_read_128 : decode cX9_read 128 = .ok (.aload_n 0, 1) := by decide +kernel
theorem dX9_read_129 : decode cX9_read 129 = .ok (.dup, 1) := by decide +kernel
theorem dX9_read_130 : decode cX9_read 130 = .ok (.getfield 131, 3) := by decide +kernel
theorem dX9_read_133 : decode cX9_read 133 = .ok (.iconst 1, 1) := by decide +kernel
theorem dX9_read_134 : decode cX9_read 134 = .ok (.iadd, 1) := by decide +kernel
theorem dX9_read_135 : decode cX9_read 135 = .ok (.putfield 131, 3) := by decide +kernel
theorem dX9_read_138 : decode cX9_read 138 = .ok (.aload_n 0, 1) := by decide +kernel
theorem dX9_read_139 : decode cX9_read 139 = .ok (.invokevirtual 147, 3) := by decide +kernel
theorem dX9_read_142 : decode cX9_read 142 = .ok (.iinc 1 1, 3) := by decide +kernel
theorem dX9_read_145 : decode cX9_read 145 = .ok (.iconst 1, 1) := by decide +kernel
theorem dX9_read_146 : decode cX9_read 146 = .ok (.istore_n 2, 1) := by decide +kernel
theorem dX9_read_147 : decode cX9_read 147 = .ok (.goto 93, 3) := by decide +kernel
theorem dX9_read_150 : decode cX9_read 150 = .ok (.iload_n 2, 1) := by decide +kernel
theorem dX9_read_151 : decode cX9_read 151 = .ok (.ifCond .ne 21, 3) := by decide +kernel
theorem dX9_read_154 : decode cX9_read 154 = .ok (.iload_n 3, 1) := by decide +kernel
theorem dX9_read_155 : decode cX9_read 155 = .ok (.bipush 47, 2) := by decide +kernel
theorem dX9_read_157 : decode cX9_read 157 = .ok (.if_icmp .ne 15, 3) := by decide +kernel
theorem dX9_read_160 : decode cX9_read 160 = .ok (.aload_n 0, 1) := by decide +kernel
theorem dX9_read_161 : decode cX9_read 161 = .ok (.invokevirtual 140, 3) := by decide +kernel
theorem dX9_read_164 : decode cX9_read 164 = .ok (.iinc 1 1, 3) := by decide +kernel
theorem dX9_read_167 : decode cX9_read 167 = .ok (.iconst 1, 1) := by decide +kernel
theorem dX9_read_168 : decode cX9_read 168 = .ok (.istore_n 2, 1) := by decide +kernel
theorem dX9_read_169 : decode cX9_read 169 = .ok (.goto 71, 3) := by decide +kernel
theorem dX9_read_172 : decode cX9_read 172 = .ok (.iload_n 2, 1) := by decide +kernel
theorem dX9_read_173 : decode cX9_read 173 = .ok (.ifCond .ne 45, 3) := by decide +kernel
theorem dX9_read_176 : decode cX9_read 176 = .ok (.iload_n 3, 1) := by decide +kernel
theorem dX9_read_177 : decode cX9_read 177 = .ok (.bipush 41, 2) := by decide +kernel
theorem dX9_read_179 : decode cX9_read 179 = .ok (.if_icmp .ne 39, 3) := by decide +kernel
theorem dX9_read_182 : decode cX9_read 182 = .ok (.aload_n 0, 1) := by decide +kernel
theorem dX9_read_183 : decode cX9_read 183 = .ok (.getfield 131, 3) := by decide +kernel
theorem dX9_read_186 : decode cX9_read 186 = .ok (.ifCond .le 32, 3) := by decide +kernel
theorem dX9_read_189 : decode cX9_read 189 = .ok (.aload_n 0, 1) := by decide +kernel
theorem dX9_read_190 : decode cX9_read 190 = .ok (.invokevirtual 150, 3) := by decide +kernel
theorem dX9_read_193 : decode cX9_read 193 = .ok (.istore 4, 2) := by decide +kernel
theorem dX9_read_195 : decode cX9_read 195 = .ok (.aload_n 0, 1) := by decide +kernel
theorem dX9_read_196 : decode cX9_read 196 = .ok (.dup, 1) := by decide +kernel
theorem dX9_read_197 : decode cX9_read 197 = .ok (.getfield 131, 3) := by decide +kernel
theorem dX9_read_200 : decode cX9_read 200 = .ok (.iconst 1, 1) := by decide +kernel
theorem dX9_read_201 : decode cX9_read 201 = .ok (.isub, 1) := by decide +kernel
theorem dX9_read_202 : decode cX9_read 202 = .ok (.putfield 131, 3) := by decide +kernel
theorem dX9_read_205 : decode cX9_read 205 = .ok (.aload_n 0, 1) := by decide +kernel
theorem dX9_read_206 : decode cX9_read 206 = .ok (.iload 4, 2) := by decide +kernel
theorem dX9_read_208 : decode cX9_read 208 = .ok (.iload_n 1, 1) := by decide +kernel
theorem dX9_read_209 : decode cX9_read 209 = .ok (.iconst 1, 1) := by decide +kernel
theorem dX9_read_210 : decode cX9_read 210 = .ok (.iadd, 1) := by decide +kernel
theorem dX9_read_211 : decode cX9_read 211 = .ok (.invokevirtual 143, 3) := by decide +kernel
theorem dX9_read_214 : decode cX9_read 214 = .ok (.istore_n 1, 1) := by decide +kernel
theorem dX9_read_215 : decode cX9_read 215 = .ok (.goto 25, 3) := by decide +kernel
theorem dX9_read_218 : decode cX9_read 218 = .ok (.aload_n 0, 1) := by decide +kernel
theorem dX9_read_219 : decode cX9_read 219 = .ok (.iload_n 1, 1) := by decide +kernel
theorem dX9_read_220 : decode cX9_read 220 = .ok (.invokevirtual 154, 3) := by decide +kernel
theorem dX9_read_223 : decode cX9_read 223 = .ok (.istore 4, 2) := by decide +kernel
theorem dX9_read_225 : decode cX9_read 225 = .ok (.iload 4, 2) := by decide +kernel
theorem dX9_read_227 : decode cX9_read 227 = .ok (.ifCond .ge 8, 3) := by decide +kernel
theorem dX9_read_230 : decode cX9_read 230 = .ok (.iconst (-1), 1) := by decide +kernel
theorem dX9_read_231 : decode cX9_read 231 = .ok (.iload 4, 2) := by decide +kernel
theorem dX9_read_233 : decode cX9_read 233 = .ok (.isub, 1) := by decide +kernel
theorem dX9_read_234 : decode cX9_read 234 = .ok (.ireturn, 1) := by decide +kernel
theorem dX9_read_235 : decode cX9_read 235 = .ok (.iload 4, 2) := by decide +kernel
theorem dX9_read_237 : decode cX9_read 237 = .ok (.istore_n 1, 1) := by decide +kernel
theorem dX9_read_238 : decode cX9_read 238 = .ok (.iconst 0, 1) := by decide +kernel
theorem dX9_read_239 : decode cX9_read 239 = .ok (.istore_n 2, 1) := by decide +kernel
theorem dX9_read_240 : decode cX9_read 240 = .ok (.goto (-184), 3) := by decide +kernel
theorem dX9_read_243 : decode cX9_read 243 = .ok (.iload_n 2, 1) := by decide +kernel
theorem dX9_read_244 : decode cX9_read 244 = .ok (.ifCond .ne 10, 3) := by decide +kernel
theorem dX9_read_247 : decode cX9_read 247 = .ok (.aload_n 0, 1) := by decide +kernel
theorem dX9_read_248 : decode cX9_read 248 = .ok (.getfield 131, 3) := by decide +kernel
theorem dX9_read_251 : decode cX9_read 251 = .ok (.ifCond .le 8, 3) := by decide +kernel
theorem dX9_read_254 : decode cX9_read 254 = .ok (.aload_n 0, 1) := by decide +kernel
theorem dX9_read_255 : decode cX9_read 255 = .ok (.getfield 120, 3) := by decide +kernel
theorem dX9_read_258 : decode cX9_read 258 = .ok (.ireturn, 1) := by decide +kernel
theorem dX9_read_259 : decode cX9_read 259 = .ok (.aload_n 0, 1) := by decide +kernel
theorem dX9_read_260 : decode cX9_read 260 = .ok (.invokevirtual 150, 3) := by decide +kernel
theorem dX9_read_263 : decode cX9_read 263 = .ok (.istore_n 3, 1) := by decide +kernel
theorem dX9_read_264 : decode cX9_read 264 = .ok (.iconst (-1), 1) := by decide +kernel
theorem dX9_read_265 : decode cX9_read 265 = .ok (.ireturn, 1) := by decide +kernel
theorem dX9_findDepths_0 : decode cX9_findDepths 0 = .ok (.aload_n 0, 1) := by decide +kernel
theorem dX9_findDepths_1 : decode cX9_findDepths 1 = .ok (.getfield 33, 3) := by decide +kernel
theorem dX9_findDepths_4 : decode cX9_findDepths 4 = .ok (.iload_n 1, 1) := by decide +kernel
theorem dX9_findDepths_5 : decode cX9_findDepths 5 = .ok (.bipush 64, 2) := by decide +kernel
theorem dX9_findDepths_7 : decode cX9_findDepths 7 = .ok (.idiv, 1) := by decide +kernel
theorem dX9_findDepths_8 : decode cX9_findDepths 8 = .ok (.iaload, 1) := by decide +kernel
theorem dX9_findDepths_9 : decode cX9_findDepths 9 = .ok (.iconst 1, 1) := by decide +kernel
theorem dX9_findDepths_10 : decode cX9_findDepths 10 = .ok (.isub, 1) := by decide +kernel
theorem dX9_findDepths_11 : decode cX9_findDepths 11 = .ok (.istore_n 2, 1) := by decide +kernel
theorem dX9_findDepths_12 : decode cX9_findDepths 12 = .ok (.aload_n 0, 1) := by decide +kernel
theorem dX9_findDepths_13 : decode cX9_findDepths 13 = .ok (.getfield 26, 3) := by decide +kernel
theorem dX9_findDepths_16 : decode cX9_findDepths 16 = .ok (.iload_n 1, 1) := by decide +kernel
theorem dX9_findDepths_17 : decode cX9_findDepths 17 = .ok (.iload_n 2, 1) := by decide +kernel
theorem dX9_findDepths_18 : decode cX9_findDepths 18 = .ok (.iadd, 1) := by decide +kernel
theorem dX9_findDepths_19 : decode cX9_findDepths 19 = .ok (.iconst 0, 1) := by decide +kernel
theorem dX9_findDepths_20 : decode cX9_findDepths 20 = .ok (.iastore, 1) := by decide +kernel
theorem dX9_findDepths_21 : decode cX9_findDepths 21 = .ok (.iload_n 1, 1) := by decide +kernel
theorem dX9_findDepths_22 : decode cX9_findDepths 22 = .ok (.iload_n 2, 1) := by decide +kernel
theorem dX9_findDepths_23 : decode cX9_findDepths 23 = .ok (.iadd, 1) := by decide +kernel
theorem dX9_findDepths_24 : decode cX9_findDepths 24 = .ok (.istore_n 3, 1) := by decide +kernel
theorem dX9_findDepths_25 : decode cX9_findDepths 25 = .ok (.iload_n 3, 1) := by decide +kernel
theorem dX9_findDepths_26 : decode cX9_findDepths 26 = .ok (.iload_n 1, 1) := by decide +kernel
theorem dX9_findDepths_27 : decode cX9_findDepths 27 = .ok (.if_icmp .lt 99, 3) := by decide +kernel
theorem dX9_findDepths_30 : decode cX9_findDepths 30 = .ok (.aload_n 0, 1) := by decide +kernel
theorem dX9_findDepths_31 : decode cX9_findDepths 31 = .ok (.getfield 17, 3) := by decide +kernel
theorem dX9_findDepths_34 : decode cX9_findDepths 34 = .ok (.iload_n 3, 1) := by decide +kernel
theorem dX9_findDepths_35 : decode cX9_findDepths 35 = .ok (.iaload, 1) := by decide +kernel
theorem dX9_findDepths_36 : decode cX9_findDepths 36 = .ok (.iconst 1, 1) := by decide +kernel
theorem dX9_findDepths_37 : decode cX9_findDepths 37 = .ok (.if_icmp .le 24, 3) := by decide +kernel
theorem dX9_findDepths_40 : decode cX9_findDepths 40 = .ok (.aload_n 0, 1) := by decide +kernel
theorem dX9_findDepths_41 : decode cX9_findDepths 41 = .ok (.getfield 26, 3) := by decide +kernel
theorem dX9_findDepths_44 : decode cX9_findDepths 44 = .ok (.iload_n 1, 1) := by decide +kernel
theorem dX9_findDepths_45 : decode cX9_findDepths 45 = .ok (.aload_n 0, 1) := by decide +kernel
theorem dX9_findDepths_46 : decode cX9_findDepths 46 = .ok (.getfield 20, 3) := by decide +kernel
theorem dX9_findDepths_49 : decode cX9_findDepths 49 = .ok (.iload_n 3, 1) := by decide +kernel
theorem dX9_findDepths_50 : decode cX9_findDepths 50 = .ok (.iaload, 1) := by decide +kernel
theorem dX9_findDepths_51 : decode cX9_findDepths 51 = .ok (.iadd, 1) := by decide +kernel
theorem dX9_findDepths_52 : decode cX9_findDepths 52 = .ok (.aload_n 0, 1) := by decide +kernel
theorem dX9_findDepths_53 : decode cX9_findDepths 53 = .ok (.getfield 26, 3) := by decide +kernel
theorem dX9_findDepths_56 : decode cX9_findDepths 56 = .ok (.iload_n 3, 1) := by decide +kernel
theorem dX9_findDepths_57 : decode cX9_findDepths 57 = .ok (.iaload, 1) := by decide +kernel
theorem dX9_findDepths_58 : decode cX9_findDepths 58 = .ok (.iconst 1, 1) := by decide +kernel
theorem dX9_findDepths_59 : decode cX9_findDepths 59 = .ok (.iadd, 1) := by decide +kernel
theorem dX9_findDepths_60 : decode cX9_findDepths 60 = .ok (.iastore, 1) := by decide +kernel
theorem dX9_findDepths_61 : decode cX9_findDepths 61 = .ok (.aload_n 0, 1) := by decide +kernel
theorem dX9_findDepths_62 : decode cX9_findDepths 62 = .ok (.getfield 17, 3) := by decide +kernel
theorem dX9_findDepths_65 : decode cX9_findDepths 65 = .ok (.iload_n 3, 1) := by decide +kernel
theorem dX9_findDepths_66 : decode cX9_findDepths 66 = .ok (.iaload, 1) := by decide +kernel
theorem dX9_findDepths_67 : decode cX9_findDepths 67 = .ok (.iconst 2, 1) := by decide +kernel
theorem dX9_findDepths_68 : decode cX9_findDepths 68 = .ok (.if_icmp .eq 13, 3) := by decide +kernel
theorem dX9_findDepths_71 : decode cX9_findDepths 71 = .ok (.aload_n 0, 1) := by decide +kernel
theorem dX9_findDepths_72 : decode cX9_findDepths 72 = .ok (.getfield 17, 3) := by decide +kernel
theorem dX9_findDepths_75 : decode cX9_findDepths 75 = .ok (.iload_n 3, 1) := by decide +kernel
theorem dX9_findDepths_76 : decode cX9_findDepths 76 = .ok (.iaload, 1) := by decide +kernel
theorem dX9_findDepths_77 : decode cX9_findDepths 77 = .ok (.iconst 3, 1) := by decide +kernel
theorem dX9_findDepths_78 : decode cX9_findDepths 78 = .ok (.if_icmp .ne 42, 3) := by decide +kernel
theorem dX9_findDepths_81 : decode cX9_findDepths 81 = .ok (.aload_n 0, 1) := by decide +kernel
theorem dX9_findDepths_82 : decode cX9_findDepths 82 = .ok (.getfield 26, 3) := by decide +kernel
theorem dX9_findDepths_85 : decode cX9_findDepths 85 = .ok (.iload_n 1, 1) := by decide +kernel
theorem dX9_findDepths_86 : decode cX9_findDepths 86 = .ok (.aload_n 0, 1) := by decide +kernel
theorem dX9_findDepths_87 : decode cX9_findDepths 87 = .ok (.getfield 23, 3) := by decide +kernel
theorem dX9_findDepths_90 : decode cX9_findDepths 90 = .ok (.iload_n 3, 1) := by decide +kernel
theorem dX9_findDepths_91 : decode cX9_findDepths 91 = .ok (.iaload, 1) := by decide +kernel
theorem dX9_findDepths_92 : decode cX9_findDepths 92 = .ok (.iadd, 1) := by decide +kernel
theorem dX9_findDepths_93 : decode cX9_findDepths 93 = .ok (.aload_n 0, 1) := by decide +kernel
theorem dX9_findDepths_94 : decode cX9_findDepths 94 = .ok (.getfield 29, 3) := by decide +kernel
theorem dX9_findDepths_97 : decode cX9_findDepths 97 = .ok (.iload_n 3, 1) := by decide +kernel
theorem dX9_findDepths_98 : decode cX9_findDepths 98 = .ok (.baload, 1) := by decide +kernel
theorem dX9_findDepths_99 : decode cX9_findDepths 99 = .ok (.ifCond .eq 12, 3) := by decide +kernel
theorem dX9_findDepths_102 : decode cX9_findDepths 102 = .ok (.aload_n 0, 1) := by decide +kernel
theorem dX9_findDepths_103 : decode cX9_findDepths 103 = .ok (.getfield 26, 3) := by decide +kernel
theorem dX9_findDepths_106 : decode cX9_findDepths 106 = .ok (.iload_n 3, 1) := by decide +kernel
theorem dX9_findDepths_107 : decode cX9_findDepths 107 = .ok (.iaload, 1) := by decide +kernel
theorem dX9_findDepths_108 : decode cX9_findDepths 108 = .ok (.goto 11, 3) := by decide +kernel
theorem dX9_findDepths_111 : decode cX9_findDepths 111 = .ok (.aload_n 0, 1) := by decide +kernel
theorem dX9_findDepths_112 : decode cX9_findDepths 112 = .ok (.getfield 26, 3) := by decide +kernel
theorem dX9_findDepths_115 : decode cX9_findDepths 115 = .ok (.iload_n 3, 1) := by decide +kernel
theorem dX9_findDepths_116 : decode cX9_findDepths 116 = .ok (.iaload, 1) := by decide +kernel
theorem dX9_findDepths_117 : decode cX9_findDepths 117 = .ok (.iconst 1, 1) := by decide +kernel
theorem dX9_findDepths_118 : decode cX9_findDepths 118 = .ok (.iadd, 1) := by decide +kernel
theorem dX9_findDepths_119 : decode cX9_findDepths 119 = .ok (.iastore, 1) := by decide +kernel
theorem dX9_findDepths_120 : decode cX9_findDepths 120 = .ok (.iinc 3 (-1), 3) := by decide +kernel
theorem dX9_findDepths_123 : decode cX9_findDepths 123 = .ok (.goto (-98), 3) := by decide +kernel
theorem dX9_findDepths_126 : decode cX9_findDepths 126 = .ok (.return_, 1) := by decide +kernel
theorem dX9_rule_0 : decode cX9_rule 0 = .ok (.aload_n 0, 1) := by decide +kernel
theorem dX9_rule_1 : decode cX9_rule 1 = .ok (.iconst 0, 1) := by decide +kernel
theorem dX9_rule_2 : decode cX9_rule 2 = .ok (.putfield 105, 3) := by decide +kernel
theorem dX9_rule_5 : decode cX9_rule 5 = .ok (.aload_n 0, 1) := by decide +kernel
theorem dX9_rule_6 : decode cX9_rule 6 = .ok (.invokevirtual 158, 3) := by decide +kernel
theorem dX9_rule_9 : decode cX9_rule 9 = .ok (.istore_n 1, 1) := by decide +kernel
theorem dX9_rule_10 : decode cX9_rule 10 = .ok (.aload_n 0, 1) := by decide +kernel
theorem dX9_rule_11 : decode cX9_rule 11 = .ok (.getfield 120, 3) := by decide +kernel
theorem dX9_rule_14 : decode cX9_rule 14 = .ok (.ifCond .le 15, 3) := by decide +kernel
theorem dX9_rule_17 : decode cX9_rule 17 = .ok (.aload_n 0, 1) := by decide +kernel
theorem dX9_rule_18 : decode cX9_rule 18 = .ok (.getfield 7, 3) := by decide +kernel
theorem dX9_rule_21 : decode cX9_rule 21 = .ok (.iconst 0, 1) := by decide +kernel
theorem dX9_rule_22 : decode cX9_rule 22 = .ok (.caload, 1) := by decide +kernel
theorem dX9_rule_23 : decode cX9_rule 23 = .ok (.bipush 65, 2) := by decide +kernel
theorem dX9_rule_25 : decode cX9_rule 25 = .ok (.isub, 1) := by decide +kernel
theorem dX9_rule_26 : decode cX9_rule 26 = .ok (.goto 4, 3) := by decide +kernel
theorem dX9_rule_29 : decode cX9_rule 29 = .ok (.iconst 0, 1) := by decide +kernel
theorem dX9_rule_30 : decode cX9_rule 30 = .ok (.istore_n 2, 1) := by decide +kernel
theorem dX9_rule_31 : decode cX9_rule 31 = .ok (.aload_n 0, 1) := by decide +kernel
theorem dX9_rule_32 : decode cX9_rule 32 = .ok (.iconst 0, 1) := by decide +kernel
theorem dX9_rule_33 : decode cX9_rule 33 = .ok (.putfield 120, 3) := by decide +kernel
theorem dX9_rule_36 : decode cX9_rule 36 = .ok (.iload_n 1, 1) := by decide +kernel
theorem dX9_rule_37 : decode cX9_rule 37 = .ok (.ifCond .lt 7, 3) := by decide +kernel
theorem dX9_rule_40 : decode cX9_rule 40 = .ok (.iconst 1, 1) := by decide +kernel
theorem dX9_rule_41 : decode cX9_rule 41 = .ok (.iload_n 1, 1) := by decide +kernel
theorem dX9_rule_42 : decode cX9_rule 42 = .ok (.iadd, 1) := by decide +kernel
theorem dX9_rule_43 : decode cX9_rule 43 = .ok (.ireturn, 1) := by decide +kernel
theorem dX9_rule_44 : decode cX9_rule 44 = .ok (.aload_n 0, 1) := by decide +kernel
theorem dX9_rule_45 : decode cX9_rule 45 = .ok (.getfield 33, 3) := by decide +kernel
theorem dX9_rule_48 : decode cX9_rule 48 = .ok (.iload_n 2, 1) := by decide +kernel
theorem dX9_rule_49 : decode cX9_rule 49 = .ok (.aload_n 0, 1) := by decide +kernel
theorem dX9_rule_50 : decode cX9_rule 50 = .ok (.getfield 33, 3) := by decide +kernel
theorem dX9_rule_53 : decode cX9_rule 53 = .ok (.bipush 6, 2) := by decide +kernel
theorem dX9_rule_55 : decode cX9_rule 55 = .ok (.iaload, 1) := by decide +kernel
theorem dX9_rule_56 : decode cX9_rule 56 = .ok (.iastore, 1) := by decide +kernel
theorem dX9_rule_57 : decode cX9_rule 57 = .ok (.iconst 0, 1) := by decide +kernel
theorem dX9_rule_58 : decode cX9_rule 58 = .ok (.istore_n 3, 1) := by decide +kernel
theorem dX9_rule_59 : decode cX9_rule 59 = .ok (.iload_n 3, 1) := by decide +kernel
theorem dX9_rule_60 : decode cX9_rule 60 = .ok (.aload_n 0, 1) := by decide +kernel
theorem dX9_rule_61 : decode cX9_rule 61 = .ok (.getfield 33, 3) := by decide +kernel
theorem dX9_rule_64 : decode cX9_rule 64 = .ok (.bipush 6, 2) := by decide +kernel
theorem dX9_rule_66 : decode cX9_rule 66 = .ok (.iaload, 1) := by decide +kernel
theorem dX9_rule_67 : decode cX9_rule 67 = .ok (.if_icmp .ge 85, 3) := by decide +kernel
theorem dX9_rule_70 : decode cX9_rule 70 = .ok (.bipush 64, 2) := by decide +kernel
theorem dX9_rule_72 : decode cX9_rule 72 = .ok (.iload_n 2, 1) := by decide +kernel
theorem dX9_rule_73 : decode cX9_rule 73 = .ok (.imul, 1) := by decide +kernel
theorem dX9_rule_74 : decode cX9_rule 74 = .ok (.iload_n 3, 1) := by decide +kernel
theorem dX9_rule_75 : decode cX9_rule 75 = .ok (.iadd, 1) := by decide +kernel
theorem dX9_rule_76 : decode cX9_rule 76 = .ok (.istore 4, 2) := by decide +kernel
theorem dX9_rule_78 : decode cX9_rule 78 = .ok (.aload_n 0, 1) := by decide +kernel
theorem dX9_rule_79 : decode cX9_rule 79 = .ok (.getfield 17, 3) := by decide +kernel
theorem dX9_rule_82 : decode cX9_rule 82 = .ok (.iload 4, 2) := by decide +kernel
theorem dX9_rule_84 : decode cX9_rule 84 = .ok (.aload_n 0, 1) := by decide +kernel
theorem dX9_rule_85 : decode cX9_rule 85 = .ok (.getfield 17, 3) := by decide +kernel
theorem dX9_rule_88 : decode cX9_rule 88 = .ok (.sipush 384, 3) := by decide +kernel
theorem dX9_rule_91 : decode cX9_rule 91 = .ok (.iload_n 3, 1) := by decide +kernel
theorem dX9_rule_92 : decode cX9_rule 92 = .ok (.iadd, 1) := by decide +kernel
theorem dX9_rule_93 : decode cX9_rule 93 = .ok (.iaload, 1) := by decide +kernel
theorem dX9_rule_94 : decode cX9_rule 94 = .ok (.iastore, 1) := by decide +kernel
theorem dX9_rule_95 : decode cX9_rule 95 = .ok (.aload_n 0, 1) := by decide +kernel
theorem dX9_rule_96 : decode cX9_rule 96 = .ok (.getfield 20, 3) := by decide +kernel
theorem dX9_rule_99 : decode cX9_rule 99 = .ok (.iload 4, 2) := by decide +kernel
theorem dX9_rule_101 : decode cX9_rule 101 = .ok (.aload_n 0, 1) := by decide +kernel
theorem dX9_rule_102 : decode cX9_rule 102 = .ok (.getfield 20, 3) := by decide +kernel
theorem dX9_rule_105 : decode cX9_rule 105 = .ok (.sipush 384, 3) := by decide +kernel
theorem dX9_rule_108 : decode cX9_rule 108 = .ok (.iload_n 3, 1) := by decide +kernel
theorem dX9_rule_109 : decode cX9_rule 109 = .ok (.iadd, 1) := by decide +kernel
theorem dX9_rule_110 : decode cX9_rule 110 = .ok (.iaload, 1) := by decide +kernel
theorem dX9_rule_111 : decode cX9_rule 111 = .ok (.iastore, 1) := by decide +kernel
theorem dX9_rule_112 : decode cX9_rule 112 = .ok (.aload_n 0, 1) := by decide +kernel
theorem dX9_rule_113 : decode cX9_rule 113 = .ok (.getfield 23, 3) := by decide +kernel
theorem dX9_rule_116 : decode cX9_rule 116 = .ok (.iload 4, 2) := by decide +kernel
theorem dX9_rule_118 : decode cX9_rule 118 = .ok (.aload_n 0, 1) := by decide +kernel
theorem dX9_rule_119 : decode cX9_rule 119 = .ok (.getfield 23, 3) := by decide +kernel
theorem dX9_rule_122 : decode cX9_rule 122 = .ok (.sipush 384, 3) := by decide +kernel
theorem dX9_rule_125 : decode cX9_rule 125 = .ok (.iload_n 3, 1) := by decide +kernel
theorem dX9_rule_126 : decode cX9_rule 126 = .ok (.iadd, 1) := by decide +kernel
theorem dX9_rule_127 : decode cX9_rule 127 = .ok (.iaload, 1) := by decide +kernel
theorem dX9_rule_128 : decode cX9_rule 128 = .ok (.iastore, 1) := by decide +kernel
theorem dX9_rule_129 : decode cX9_rule 129 = .ok (.aload_n 0, 1) := by decide +kernel
theorem dX9_rule_130 : decode cX9_rule 130 = .ok (.getfield 29, 3) := by decide +kernel
theorem dX9_rule_133 : decode cX9_rule 133 = .ok (.iload 4, 2) := by decide +kernel
theorem dX9_rule_135 : decode cX9_rule 135 = .ok (.aload_n 0, 1) := by decide +kernel
theorem dX9_rule_136 : decode cX9_rule 136 = .ok (.getfield 29, 3) := by decide +kernel
theorem dX9_rule_139 : decode cX9_rule 139 = .ok (.sipush 384, 3) := by decide +kernel
theorem dX9_rule_142 : decode cX9_rule 142 = .ok (.iload_n 3, 1) := by decide +kernel
theorem dX9_rule_143 : decode cX9_rule 143 = .ok (.iadd, 1) := by decide +kernel
theorem dX9_rule_144 : decode cX9_rule 144 = .ok (.baload, 1) := by decide +kernel
theorem dX9_rule_145 : decode cX9_rule 145 = .ok (.bastore, 1) := by decide +kernel
theorem dX9_rule_146 : decode cX9_rule 146 = .ok (.iinc 3 1, 3) := by decide +kernel
theorem dX9_rule_149 : decode cX9_rule 149 = .ok (.goto (-90), 3) := by decide +kernel
theorem dX9_rule_152 : decode cX9_rule 152 = .ok (.aload_n 0, 1) := by decide +kernel
theorem dX9_rule_153 : decode cX9_rule 153 = .ok (.bipush 64, 2) := by decide +kernel
theorem dX9_rule_155 : decode cX9_rule 155 = .ok (.iload_n 2, 1) := by decide +kernel
theorem dX9_rule_156 : decode cX9_rule 156 = .ok (.imul, 1) := by decide +kernel
theorem dX9_rule_157 : decode cX9_rule 157 = .ok (.invokevirtual 161, 3) := by decide +kernel
theorem dX9_rule_160 : decode cX9_rule 160 = .ok (.aload_n 0, 1) := by decide +kernel
theorem dX9_rule_161 : decode cX9_rule 161 = .ok (.invokevirtual 102, 3) := by decide +kernel
theorem dX9_rule_164 : decode cX9_rule 164 = .ok (.iconst 0, 1) := by decide +kernel
theorem dX9_rule_165 : decode cX9_rule 165 = .ok (.ireturn, 1) := by decide +kernel
theorem dX9_drop_0 : decode cX9_drop 0 = .ok (.aload_n 0, 1) := by decide +kernel
theorem dX9_drop_1 : decode cX9_drop 1 = .ok (.iload_n 1, 1) := by decide +kernel
theorem dX9_drop_2 : decode cX9_drop 2 = .ok (.iconst 0, 1) := by decide +kernel
theorem dX9_drop_3 : decode cX9_drop 3 = .ok (.iconst 5, 1) := by decide +kernel
theorem dX9_drop_4 : decode cX9_drop 4 = .ok (.invokestatic 109, 3) := by decide +kernel
theorem dX9_drop_7 : decode cX9_drop 7 = .ok (.ifCond .eq 7, 3) := by decide +kernel
theorem dX9_drop_10 : decode cX9_drop 10 = .ok (.iconst 0, 1) := by decide +kernel
theorem dX9_drop_11 : decode cX9_drop 11 = .ok (.goto 4, 3) := by decide +kernel
theorem dX9_drop_14 : decode cX9_drop 14 = .ok (.iconst 1, 1) := by decide +kernel
theorem dX9_drop_15 : decode cX9_drop 15 = .ok (.putfield 105, 3) := by decide +kernel
theorem dX9_drop_18 : decode cX9_drop 18 = .ok (.aload_n 0, 1) := by decide +kernel
theorem dX9_drop_19 : decode cX9_drop 19 = .ok (.getfield 105, 3) := by decide +kernel
theorem dX9_drop_22 : decode cX9_drop 22 = .ok (.ifCond .gt 12, 3) := by decide +kernel
theorem dX9_drop_25 : decode cX9_drop 25 = .ok (.aload_n 0, 1) := by decide +kernel
theorem dX9_drop_26 : decode cX9_drop 26 = .ok (.getfield 33, 3) := by decide +kernel
theorem dX9_drop_29 : decode cX9_drop 29 = .ok (.iload_n 1, 1) := by decide +kernel
theorem dX9_drop_30 : decode cX9_drop 30 = .ok (.iaload, 1) := by decide +kernel
theorem dX9_drop_31 : decode cX9_drop 31 = .ok (.ifCond .ne 5, 3) := by decide +kernel
theorem dX9_drop_34 : decode cX9_drop 34 = .ok (.iconst 0, 1) := by decide +kernel
theorem dX9_drop_35 : decode cX9_drop 35 = .ok (.ireturn, 1) := by decide +kernel
theorem dX9_drop_36 : decode cX9_drop 36 = .ok (.aload_n 0, 1) := by decide +kernel
theorem dX9_drop_37 : decode cX9_drop 37 = .ok (.getfield 33, 3) := by decide +kernel
theorem dX9_drop_40 : decode cX9_drop 40 = .ok (.iload_n 1, 1) := by decide +kernel
theorem dX9_drop_41 : decode cX9_drop 41 = .ok (.iconst 0, 1) := by decide +kernel
theorem dX9_drop_42 : decode cX9_drop 42 = .ok (.iastore, 1) := by decide +kernel
theorem dX9_drop_43 : decode cX9_drop 43 = .ok (.aload_n 0, 1) := by decide +kernel
theorem dX9_drop_44 : decode cX9_drop 44 = .ok (.invokevirtual 102, 3) := by decide +kernel
theorem dX9_drop_47 : decode cX9_drop 47 = .ok (.iconst 1, 1) := by decide +kernel
theorem dX9_drop_48 : decode cX9_drop 48 = .ok (.ireturn, 1) := by decide +kernel
theorem dX9_feed_0 : decode cX9_feed 0 = .ok (.aload_n 0, 1) := by decide +kernel
theorem dX9_feed_1 : decode cX9_feed 1 = .ok (.iconst 0, 1) := by decide +kernel
theorem dX9_feed_2 : decode cX9_feed 2 = .ok (.putfield 105, 3) := by decide +kernel
theorem dX9_feed_5 : decode cX9_feed 5 = .ok (.iload_n 1, 1) := by decide +kernel
theorem dX9_feed_6 : decode cX9_feed 6 = .ok (.invokestatic 113, 3) := by decide +kernel
theorem dX9_feed_9 : decode cX9_feed 9 = .ok (.ifCond .ne 9, 3) := by decide +kernel
theorem dX9_feed_12 : decode cX9_feed 12 = .ok (.aload_n 0, 1) := by decide +kernel
theorem dX9_feed_13 : decode cX9_feed 13 = .ok (.iconst 1, 1) := by decide +kernel
theorem dX9_feed_14 : decode cX9_feed 14 = .ok (.invokevirtual 165, 3) := by decide +kernel
theorem dX9_feed_17 : decode cX9_feed 17 = .ok (.ireturn, 1) := by decide +kernel
theorem dX9_feed_18 : decode cX9_feed 18 = .ok (.aload_n 0, 1) := by decide +kernel
theorem dX9_feed_19 : decode cX9_feed 19 = .ok (.getfield 168, 3) := by decide +kernel
theorem dX9_feed_22 : decode cX9_feed 22 = .ok (.bipush 20, 2) := by decide +kernel
theorem dX9_feed_24 : decode cX9_feed 24 = .ok (.if_icmp .ne 9, 3) := by decide +kernel
theorem dX9_feed_27 : decode cX9_feed 27 = .ok (.aload_n 0, 1) := by decide +kernel
theorem dX9_feed_28 : decode cX9_feed 28 = .ok (.iconst 2, 1) := by decide +kernel
theorem dX9_feed_29 : decode cX9_feed 29 = .ok (.invokevirtual 165, 3) := by decide +kernel
theorem dX9_feed_32 : decode cX9_feed 32 = .ok (.ireturn, 1) := by decide +kernel
theorem dX9_feed_33 : decode cX9_feed 33 = .ok (.aload_n 0, 1) := by decide +kernel
theorem dX9_feed_34 : decode cX9_feed 34 = .ok (.getfield 13, 3) := by decide +kernel
theorem dX9_feed_37 : decode cX9_feed 37 = .ok (.aload_n 0, 1) := by decide +kernel
theorem dX9_feed_38 : decode cX9_feed 38 = .ok (.getfield 168, 3) := by decide +kernel
theorem dX9_feed_41 : decode cX9_feed 41 = .ok (.iload_n 1, 1) := by decide +kernel
theorem dX9_feed_42 : decode cX9_feed 42 = .ok (.bipush 97, 2) := by decide +kernel
theorem dX9_feed_44 : decode cX9_feed 44 = .ok (.isub, 1) := by decide +kernel
theorem dX9_feed_45 : decode cX9_feed 45 = .ok (.iastore, 1) := by decide +kernel
theorem dX9_feed_46 : decode cX9_feed 46 = .ok (.aload_n 0, 1) := by decide +kernel
theorem dX9_feed_47 : decode cX9_feed 47 = .ok (.dup, 1) := by decide +kernel
theorem dX9_feed_48 : decode cX9_feed 48 = .ok (.getfield 168, 3) := by decide +kernel
theorem dX9_feed_51 : decode cX9_feed 51 = .ok (.iconst 1, 1) := by decide +kernel
theorem dX9_feed_52 : decode cX9_feed 52 = .ok (.iadd, 1) := by decide +kernel
theorem dX9_feed_53 : decode cX9_feed 53 = .ok (.putfield 168, 3) := by decide +kernel
theorem dX9_feed_56 : decode cX9_feed 56 = .ok (.aload_n 0, 1) := by decide +kernel
theorem dX9_feed_57 : decode cX9_feed 57 = .ok (.invokevirtual 102, 3) := by decide +kernel
theorem dX9_feed_60 : decode cX9_feed 60 = .ok (.aload_n 0, 1) := by decide +kernel
theorem dX9_feed_61 : decode cX9_feed 61 = .ok (.getfield 168, 3) := by decide +kernel
theorem dX9_feed_64 : decode cX9_feed 64 = .ok (.ireturn, 1) := by decide +kernel
theorem dX9_clear_0 : decode cX9_clear 0 = .ok (.aload_n 0, 1) := by decide +kernel
theorem dX9_clear_1 : decode cX9_clear 1 = .ok (.iconst 0, 1) := by decide +kernel
theorem dX9_clear_2 : decode cX9_clear 2 = .ok (.putfield 105, 3) := by decide +kernel
theorem dX9_clear_5 : decode cX9_clear 5 = .ok (.aload_n 0, 1) := by decide +kernel
theorem dX9_clear_6 : decode cX9_clear 6 = .ok (.getfield 168, 3) := by decide +kernel
theorem dX9_clear_9 : decode cX9_clear 9 = .ok (.istore_n 1, 1) := by decide +kernel
theorem dX9_clear_10 : decode cX9_clear 10 = .ok (.aload_n 0, 1) := by decide +kernel
theorem dX9_clear_11 : decode cX9_clear 11 = .ok (.iconst 0, 1) := by decide +kernel
theorem dX9_clear_12 : decode cX9_clear 12 = .ok (.putfield 168, 3) := by decide +kernel
theorem dX9_clear_15 : decode cX9_clear 15 = .ok (.iload_n 1, 1) := by decide +kernel
theorem dX9_clear_16 : decode cX9_clear 16 = .ok (.ifCond .le 7, 3) := by decide +kernel
theorem dX9_clear_19 : decode cX9_clear 19 = .ok (.aload_n 0, 1) := by decide +kernel
theorem dX9_clear_20 : decode cX9_clear 20 = .ok (.invokevirtual 102, 3) := by decide +kernel
theorem dX9_clear_23 : decode cX9_clear 23 = .ok (.iload_n 1, 1) := by decide +kernel
theorem dX9_clear_24 : decode cX9_clear 24 = .ok (.ireturn, 1) := by decide +kernel
theorem dX9_lacking_0 : decode cX9_lacking 0 = .ok (.iconst (-1), 1) := by decide +kernel
theorem dX9_lacking_1 : decode cX9_lacking 1 = .ok (.istore_n 1, 1) := by decide +kernel
theorem dX9_lacking_2 : decode cX9_lacking 2 = .ok (.iconst 0, 1) := by decide +kernel
theorem dX9_lacking_3 : decode cX9_lacking 3 = .ok (.istore_n 2, 1) := by decide +kernel
theorem dX9_lacking_4 : decode cX9_lacking 4 = .ok (.iload_n 2, 1) := by decide +kernel
theorem dX9_lacking_5 : decode cX9_lacking 5 = .ok (.bipush 6, 2) := by decide +kernel
theorem dX9_lacking_7 : decode cX9_lacking 7 = .ok (.if_icmp .ge 96, 3) := by decide +kernel
theorem dX9_lacking_10 : decode cX9_lacking 10 = .ok (.bipush 64, 2) := by decide +kernel
theorem dX9_lacking_12 : decode cX9_lacking 12 = .ok (.iload_n 2, 1) := by decide +kernel
theorem dX9_lacking_13 : decode cX9_lacking 13 = .ok (.imul, 1) := by decide +kernel
theorem dX9_lacking_14 : decode cX9_lacking 14 = .ok (.istore_n 3, 1) := by decide +kernel
theorem dX9_lacking_15 : decode cX9_lacking 15 = .ok (.iload_n 3, 1) := by decide +kernel
theorem dX9_lacking_16 : decode cX9_lacking 16 = .ok (.bipush 64, 2) := by decide +kernel
theorem dX9_lacking_18 : decode cX9_lacking 18 = .ok (.iload_n 2, 1) := by decide +kernel
theorem dX9_lacking_19 : decode cX9_lacking 19 = .ok (.imul, 1) := by decide +kernel
theorem dX9_lacking_20 : decode cX9_lacking 20 = .ok (.aload_n 0, 1) := by decide +kernel
theorem dX9_lacking_21 : decode cX9_lacking 21 = .ok (.getfield 33, 3) := by decide +kernel
theorem dX9_lacking_24 : decode cX9_lacking 24 = .ok (.iload_n 2, 1) := by decide +kernel
theorem dX9_lacking_25 : decode cX9_lacking 25 = .ok (.iaload, 1) := by decide +kernel
theorem dX9_lacking_26 : decode cX9_lacking 26 = .ok (.iadd, 1) := by decide +kernel
theorem dX9_lacking_27 : decode cX9_lacking 27 = .ok (.if_icmp .ge 70, 3) := by decide +kernel
theorem dX9_lacking_30 : decode cX9_lacking 30 = .ok (.aload_n 0, 1) := by decide +kernel
theorem dX9_lacking_31 : decode cX9_lacking 31 = .ok (.getfield 17, 3) := by decide +kernel
theorem dX9_lacking_34 : decode cX9_lacking 34 = .ok (.iload_n 3, 1) := by decide +kernel
theorem dX9_lacking_35 : decode cX9_lacking 35 = .ok (.iaload, 1) := by decide +kernel
theorem dX9_lacking_36 : decode cX9_lacking 36 = .ok (.iconst 1, 1) := by decide +kernel
theorem dX9_lacking_37 : decode cX9_lacking 37 = .ok (.if_icmp .ne 21, 3) := by decide +kernel
theorem dX9_lacking_40 : decode cX9_lacking 40 = .ok (.aload_n 0, 1) := by decide +kernel
theorem dX9_lacking_41 : decode cX9_lacking 41 = .ok (.getfield 33, 3) := by decide +kernel
theorem dX9_lacking_44 : decode cX9_lacking 44 = .ok (.aload_n 0, 1) := by decide +kernel
theorem dX9_lacking_45 : decode cX9_lacking 45 = .ok (.getfield 20, 3) := by decide +kernel
theorem dX9_lacking_48 : decode cX9_lacking 48 = .ok (.iload_n 3, 1) := by decide +kernel
theorem dX9_lacking_49 : decode cX9_lacking 49 = .ok (.iaload, 1) := by decide +kernel
theorem dX9_lacking_50 : decode cX9_lacking 50 = .ok (.iaload, 1) := by decide +kernel
theorem dX9_lacking_51 : decode cX9_lacking 51 = .ok (.ifCond .ne 7, 3) := by decide +kernel
theorem dX9_lacking_54 : decode cX9_lacking 54 = .ok (.iconst 1, 1) := by decide +kernel
theorem dX9_lacking_55 : decode cX9_lacking 55 = .ok (.goto 4, 3) := by decide +kernel
theorem dX9_lacking_58 : decode cX9_lacking 58 = .ok (.iconst 0, 1) := by decide +kernel
theorem dX9_lacking_59 : decode cX9_lacking 59 = .ok (.istore 4, 2) := by decide +kernel
theorem dX9_lacking_61 : decode cX9_lacking 61 = .ok (.iload 4, 2) := by decide +kernel
theorem dX9_lacking_63 : decode cX9_lacking 63 = .ok (.ifCond .eq 26, 3) := by decide +kernel
theorem dX9_lacking_66 : decode cX9_lacking 66 = .ok (.iload_n 1, 1) := by decide +kernel
theorem dX9_lacking_67 : decode cX9_lacking 67 = .ok (.ifCond .lt 13, 3) := by decide +kernel
theorem dX9_lacking_70 : decode cX9_lacking 70 = .ok (.aload_n 0, 1) := by decide +kernel
theorem dX9_lacking_71 : decode cX9_lacking 71 = .ok (.getfield 20, 3) := by decide +kernel
theorem dX9_lacking_74 : decode cX9_lacking 74 = .ok (.iload_n 3, 1) := by decide +kernel
theorem dX9_lacking_75 : decode cX9_lacking 75 = .ok (.iaload, 1) := by decide +kernel
theorem dX9_lacking_76 : decode cX9_lacking 76 = .ok (.iload_n 1, 1) := by decide +kernel
theorem dX9_lacking_77 : decode cX9_lacking 77 = .ok (.if_icmp .ge 12, 3) := by decide +kernel
theorem dX9_lacking_80 : decode cX9_lacking 80 = .ok (.aload_n 0, 1) := by decide +kernel
theorem dX9_lacking_81 : decode cX9_lacking 81 = .ok (.getfield 20, 3) := by decide +kernel
theorem dX9_lacking_84 : decode cX9_lacking 84 = .ok (.iload_n 3, 1) := by decide +kernel
theorem dX9_lacking_85 : decode cX9_lacking 85 = .ok (.iaload, 1) := by decide +kernel
theorem dX9_lacking_86 : decode cX9_lacking 86 = .ok (.goto 4, 3) := by decide +kernel
theorem dX9_lacking_89 : decode cX9_lacking 89 = .ok (.iload_n 1, 1) := by decide +kernel
theorem dX9_lacking_90 : decode cX9_lacking 90 = .ok (.istore_n 1, 1) := by decide +kernel
theorem dX9_lacking_91 : decode cX9_lacking 91 = .ok (.iinc 3 1, 3) := by decide +kernel
theorem dX9_lacking_94 : decode cX9_lacking 94 = .ok (.goto (-79), 3) := by decide +kernel
theorem dX9_lacking_97 : decode cX9_lacking 97 = .ok (.iinc 2 1, 3) := by decide +kernel
theorem dX9_lacking_100 : decode cX9_lacking 100 = .ok (.goto (-96), 3) := by decide +kernel
theorem dX9_lacking_103 : decode cX9_lacking 103 = .ok (.iload_n 1, 1) := by decide +kernel
theorem dX9_lacking_104 : decode cX9_lacking 104 = .ok (.ireturn, 1) := by decide +kernel
theorem dX9_bit_0 : decode cX9_bit 0 = .ok (.iload_n 0, 1) := by decide +kernel
theorem dX9_bit_1 : decode cX9_bit 1 = .ok (.ifCond .eq 7, 3) := by decide +kernel
theorem dX9_bit_4 : decode cX9_bit 4 = .ok (.iload_n 1, 1) := by decide +kernel
theorem dX9_bit_5 : decode cX9_bit 5 = .ok (.goto 4, 3) := by decide +kernel
theorem dX9_bit_8 : decode cX9_bit 8 = .ok (.iconst 0, 1) := by decide +kernel
theorem dX9_bit_9 : decode cX9_bit 9 = .ok (.ireturn, 1) := by decide +kernel
theorem dX9_has_0 : decode cX9_has 0 = .ok (.iload_n 0, 1) := by decide +kernel
theorem dX9_has_1 : decode cX9_has 1 = .ok (.iload_n 1, 1) := by decide +kernel
theorem dX9_has_2 : decode cX9_has 2 = .ok (.iand, 1) := by decide +kernel
theorem dX9_has_3 : decode cX9_has 3 = .ok (.ifCond .eq 7, 3) := by decide +kernel
theorem dX9_has_6 : decode cX9_has 6 = .ok (.iconst 1, 1) := by decide +kernel
theorem dX9_has_7 : decode cX9_has 7 = .ok (.goto 4, 3) := by decide +kernel
theorem dX9_has_10 : decode cX9_has 10 = .ok (.iconst 0, 1) := by decide +kernel
theorem dX9_has_11 : decode cX9_has 11 = .ok (.ireturn, 1) := by decide +kernel
theorem dX9_row_0 : decode cX9_row 0 = .ok (.iload_n 0, 1) := by decide +kernel
theorem dX9_row_1 : decode cX9_row 1 = .ok (.iconst 2, 1) := by decide +kernel
theorem dX9_row_2 : decode cX9_row 2 = .ok (.invokestatic 171, 3) := by decide +kernel
theorem dX9_row_5 : decode cX9_row 5 = .ok (.ifCond .eq 11, 3) := by decide +kernel
theorem dX9_row_8 : decode cX9_row 8 = .ok (.iload_n 1, 1) := by decide +kernel
theorem dX9_row_9 : decode cX9_row 9 = .ok (.iconst 3, 1) := by decide +kernel
theorem dX9_row_10 : decode cX9_row 10 = .ok (.invokestatic 171, 3) := by decide +kernel
theorem dX9_row_13 : decode cX9_row 13 = .ok (.ifCond .ne 19, 3) := by decide +kernel
theorem dX9_row_16 : decode cX9_row 16 = .ok (.iload_n 0, 1) := by decide +kernel
theorem dX9_row_17 : decode cX9_row 17 = .ok (.iconst 1, 1) := by decide +kernel
theorem dX9_row_18 : decode cX9_row 18 = .ok (.invokestatic 171, 3) := by decide +kernel
theorem dX9_row_21 : decode cX9_row 21 = .ok (.ifCond .eq 15, 3) := by decide +kernel
theorem dX9_row_24 : decode cX9_row 24 = .ok (.iload_n 1, 1) := by decide +kernel
theorem dX9_row_25 : decode cX9_row 25 = .ok (.iconst 2, 1) := by decide +kernel
theorem dX9_row_26 : decode cX9_row 26 = .ok (.invokestatic 171, 3) := by decide +kernel
theorem dX9_row_29 : decode cX9_row 29 = .ok (.ifCond .eq 7, 3) := by decide +kernel
theorem dX9_row_32 : decode cX9_row 32 = .ok (.iconst 1, 1) := by decide +kernel
theorem dX9_row_33 : decode cX9_row 33 = .ok (.goto 4, 3) := by decide +kernel
theorem dX9_row_36 : decode cX9_row 36 = .ok (.iconst 0, 1) := by decide +kernel
theorem dX9_row_37 : decode cX9_row 37 = .ok (.istore_n 2, 1) := by decide +kernel
theorem dX9_row_38 : decode cX9_row 38 = .ok (.iload_n 0, 1) := by decide +kernel
theorem dX9_row_39 : decode cX9_row 39 = .ok (.iconst 4, 1) := by decide +kernel
theorem dX9_row_40 : decode cX9_row 40 = .ok (.invokestatic 171, 3) := by decide +kernel
theorem dX9_row_43 : decode cX9_row 43 = .ok (.ifCond .ne 19, 3) := by decide +kernel
theorem dX9_row_46 : decode cX9_row 46 = .ok (.iload_n 0, 1) := by decide +kernel
theorem dX9_row_47 : decode cX9_row 47 = .ok (.iconst 3, 1) := by decide +kernel
theorem dX9_row_48 : decode cX9_row 48 = .ok (.invokestatic 171, 3) := by decide +kernel
theorem dX9_row_51 : decode cX9_row 51 = .ok (.ifCond .eq 15, 3) := by decide +kernel
theorem dX9_row_54 : decode cX9_row 54 = .ok (.iload_n 1, 1) := by decide +kernel
theorem dX9_row_55 : decode cX9_row 55 = .ok (.iconst 4, 1) := by decide +kernel
theorem dX9_row_56 : decode cX9_row 56 = .ok (.invokestatic 171, 3) := by decide +kernel
theorem dX9_row_59 : decode cX9_row 59 = .ok (.ifCond .eq 7, 3) := by decide +kernel
theorem dX9_row_62 : decode cX9_row 62 = .ok (.iconst 1, 1) := by decide +kernel
theorem dX9_row_63 : decode cX9_row 63 = .ok (.goto 4, 3) := by decide +kernel
theorem dX9_row_66 : decode cX9_row 66 = .ok (.iconst 0, 1) := by decide +kernel
theorem dX9_row_67 : decode cX9_row 67 = .ok (.istore_n 3, 1) := by decide +kernel
theorem dX9_row_68 : decode cX9_row 68 = .ok (.iload_n 0, 1) := by decide +kernel
theorem dX9_row_69 : decode cX9_row 69 = .ok (.iload_n 1, 1) := by decide +kernel
theorem dX9_row_70 : decode cX9_row 70 = .ok (.iand, 1) := by decide +kernel
theorem dX9_row_71 : decode cX9_row 71 = .ok (.iconst 1, 1) := by decide +kernel
theorem dX9_row_72 : decode cX9_row 72 = .ok (.iand, 1) := by decide +kernel
theorem dX9_row_73 : decode cX9_row 73 = .ok (.iload_n 2, 1) := by decide +kernel
theorem dX9_row_74 : decode cX9_row 74 = .ok (.iconst 2, 1) := by decide +kernel
theorem dX9_row_75 : decode cX9_row 75 = .ok (.invokestatic 175, 3) := by decide +kernel
theorem dX9_row_78 : decode cX9_row 78 = .ok (.ior, 1) := by decide +kernel
theorem dX9_row_79 : decode cX9_row 79 = .ok (.iload_n 3, 1) := by decide +kernel
theorem dX9_row_80 : decode cX9_row 80 = .ok (.iconst 4, 1) := by decide +kernel
theorem dX9_row_81 : decode cX9_row 81 = .ok (.invokestatic 175, 3) := by decide +kernel
theorem dX9_row_84 : decode cX9_row 84 = .ok (.ior, 1) := by decide +kernel
theorem dX9_row_85 : decode cX9_row 85 = .ok (.ireturn, 1) := by decide +kernel
theorem dX9_outcomeOf_0 : decode cX9_outcomeOf 0 = .ok (.aload_n 0, 1) := by decide +kernel
theorem dX9_outcomeOf_1 : decode cX9_outcomeOf 1 = .ok (.getfield 17, 3) := by decide +kernel
theorem dX9_outcomeOf_4 : decode cX9_outcomeOf 4 = .ok (.iload_n 1, 1) := by decide +kernel
theorem dX9_outcomeOf_5 : decode cX9_outcomeOf 5 = .ok (.iaload, 1) := by decide +kernel
theorem dX9_outcomeOf_6 : decode cX9_outcomeOf 6 = .ok (.ifCond .ne 6, 3) := by decide +kernel
theorem dX9_outcomeOf_9 : decode cX9_outcomeOf 9 = .ok (.bipush 6, 2) := by decide +kernel
theorem dX9_outcomeOf_11 : decode cX9_outcomeOf 11 = .ok (.ireturn, 1) := by decide +kernel
theorem dX9_outcomeOf_12 : decode cX9_outcomeOf 12 = .ok (.aload_n 0, 1) := by decide +kernel
theorem dX9_outcomeOf_13 : decode cX9_outcomeOf 13 = .ok (.getfield 17, 3) := by decide +kernel
theorem dX9_outcomeOf_16 : decode cX9_outcomeOf 16 = .ok (.iload_n 1, 1) := by decide +kernel
theorem dX9_outcomeOf_17 : decode cX9_outcomeOf 17 = .ok (.iaload, 1) := by decide +kernel
theorem dX9_outcomeOf_18 : decode cX9_outcomeOf 18 = .ok (.iconst 1, 1) := by decide +kernel
theorem dX9_outcomeOf_19 : decode cX9_outcomeOf 19 = .ok (.if_icmp .ne 42, 3) := by decide +kernel
theorem dX9_outcomeOf_22 : decode cX9_outcomeOf 22 = .ok (.aload_n 0, 1) := by decide +kernel
theorem dX9_outcomeOf_23 : decode cX9_outcomeOf 23 = .ok (.getfield 20, 3) := by decide +kernel
theorem dX9_outcomeOf_26 : decode cX9_outcomeOf 26 = .ok (.iload_n 1, 1) := by decide +kernel
theorem dX9_outcomeOf_27 : decode cX9_outcomeOf 27 = .ok (.iaload, 1) := by decide +kernel
theorem dX9_outcomeOf_28 : decode cX9_outcomeOf 28 = .ok (.istore_n 3, 1) := by decide +kernel
theorem dX9_outcomeOf_29 : decode cX9_outcomeOf 29 = .ok (.aload_n 0, 1) := by decide +kernel
theorem dX9_outcomeOf_30 : decode cX9_outcomeOf 30 = .ok (.getfield 33, 3) := by decide +kernel
theorem dX9_outcomeOf_33 : decode cX9_outcomeOf 33 = .ok (.iload_n 3, 1) := by decide +kernel
theorem dX9_outcomeOf_34 : decode cX9_outcomeOf 34 = .ok (.iaload, 1) := by decide +kernel
theorem dX9_outcomeOf_35 : decode cX9_outcomeOf 35 = .ok (.ifCond .ne 7, 3) := by decide +kernel
theorem dX9_outcomeOf_38 : decode cX9_outcomeOf 38 = .ok (.iconst 0, 1) := by decide +kernel
