theorem dX3_workOut_65 : decode cX3_workOut 65 = .ok (.invokevirtual 67, 3) := by decide +kernel
theorem dX3_workOut_68 : decode cX3_workOut 68 = .ok (.istore 6, 2) := by decide +kernel
theorem dX3_workOut_70 : decode cX3_workOut 70 = .ok (.aload_n 0, 1) := by decide +kernel
theorem dX3_workOut_71 : decode cX3_workOut 71 = .ok (.getfield 19, 3) := by decide +kernel
theorem dX3_workOut_74 : decode cX3_workOut 74 = .ok (.iload 4, 2) := by decide +kernel
theorem dX3_workOut_76 : decode cX3_workOut 76 = .ok (.iload 6, 2) := by decide +kernel
theorem dX3_workOut_78 : decode cX3_workOut 78 = .ok (.invokevirtual 71, 3) := by decide +kernel
theorem dX3_workOut_81 : decode cX3_workOut 81 = .ok (.iload 6, 2) := by decide +kernel
theorem dX3_workOut_83 : decode cX3_workOut 83 = .ok (.ireturn, 1) := by decide +kernel
theorem dX3_go_0 : decode cX3_go 0 = .ok (.aload_n 1, 1) := by decide +kernel
theorem dX3_go_1 : decode cX3_go 1 = .ok (.ifnonnull 5, 3) := by decide +kernel
theorem dX3_go_4 : decode cX3_go 4 = .ok (.iconst (-1), 1) := by decide +kernel
theorem dX3_go_5 : decode cX3_go 5 = .ok (.ireturn, 1) := by decide +kernel
theorem dX3_go_6 : decode cX3_go 6 = .ok (.aload_n 1, 1) := by decide +kernel
theorem dX3_go_7 : decode cX3_go 7 = .ok (.getfield 74, 3) := by decide +kernel
theorem dX3_go_10 : decode cX3_go 10 = .ok (.tableswitch 146 1 9 #[50, 57, 70, 85, 146, 146, 146, 100, 123], 50) := by decide +kernel
theorem dX3_go_60 : decode cX3_go 60 = .ok (.aload_n 0, 1) := by decide +kernel
theorem dX3_go_61 : decode cX3_go 61 = .ok (.aload_n 1, 1) := by decide +kernel
theorem dX3_go_62 : decode cX3_go 62 = .ok (.iload_n 2, 1) := by decide +kernel
theorem dX3_go_63 : decode cX3_go 63 = .ok (.invokevirtual 79, 3) := by decide +kernel
theorem dX3_go_66 : decode cX3_go 66 = .ok (.ireturn, 1) := by decide +kernel
theorem dX3_go_67 : decode cX3_go 67 = .ok (.aload_n 0, 1) := by decide +kernel
theorem dX3_go_68 : decode cX3_go 68 = .ok (.aload_n 1, 1) := by decide +kernel
theorem dX3_go_69 : decode cX3_go 69 = .ok (.getfield 83, 3) := by decide +kernel
theorem dX3_go_72 : decode cX3_go 72 = .ok (.iload_n 2, 1) := by decide +kernel
theorem dX3_go_73 : decode cX3_go 73 = .ok (.iload_n 3, 1) := by decide +kernel
theorem dX3_go_74 : decode cX3_go 74 = .ok (.iload 4, 2) := by decide +kernel
theorem dX3_go_76 : decode cX3_go 76 = .ok (.invokevirtual 86, 3) := by decide +kernel
theorem dX3_go_79 : decode cX3_go 79 = .ok (.ireturn, 1) := by decide +kernel
theorem dX3_go_80 : decode cX3_go 80 = .ok (.aload_n 0, 1) := by decide +kernel
theorem dX3_go_81 : decode cX3_go 81 = .ok (.aload_n 1, 1) := by decide +kernel
theorem dX3_go_82 : decode cX3_go 82 = .ok (.getfield 89, 3) := by decide +kernel
theorem dX3_go_85 : decode cX3_go 85 = .ok (.iload_n 2, 1) := by decide +kernel
theorem dX3_go_86 : decode cX3_go 86 = .ok (.iload_n 3, 1) := by decide +kernel
theorem dX3_go_87 : decode cX3_go 87 = .ok (.iconst 1, 1) := by decide +kernel
theorem dX3_go_88 : decode cX3_go 88 = .ok (.iadd, 1) := by decide +kernel
theorem dX3_go_89 : decode cX3_go 89 = .ok (.iload 4, 2) := by decide +kernel
theorem dX3_go_91 : decode cX3_go 91 = .ok (.invokevirtual 92, 3) := by decide +kernel
theorem dX3_go_94 : decode cX3_go 94 = .ok (.ireturn, 1) := by decide +kernel
theorem dX3_go_95 : decode cX3_go 95 = .ok (.aload_n 0, 1) := by decide +kernel
theorem dX3_go_96 : decode cX3_go 96 = .ok (.aload_n 1, 1) := by decide +kernel
theorem dX3_go_97 : decode cX3_go 97 = .ok (.getfield 89, 3) := by decide +kernel
theorem dX3_go_100 : decode cX3_go 100 = .ok (.iload_n 2, 1) := by decide +kernel
theorem dX3_go_101 : decode cX3_go 101 = .ok (.iload_n 3, 1) := by decide +kernel
theorem dX3_go_102 : decode cX3_go 102 = .ok (.iconst 1, 1) := by decide +kernel
theorem dX3_go_103 : decode cX3_go 103 = .ok (.iadd, 1) := by decide +kernel
theorem dX3_go_104 : decode cX3_go 104 = .ok (.iload 4, 2) := by decide +kernel
theorem dX3_go_106 : decode cX3_go 106 = .ok (.invokevirtual 95, 3) := by decide +kernel
theorem dX3_go_109 : decode cX3_go 109 = .ok (.ireturn, 1) := by decide +kernel
theorem dX3_go_110 : decode cX3_go 110 = .ok (.aload_n 0, 1) := by decide +kernel
theorem dX3_go_111 : decode cX3_go 111 = .ok (.aload_n 1, 1) := by decide +kernel
theorem dX3_go_112 : decode cX3_go 112 = .ok (.getfield 89, 3) := by decide +kernel
theorem dX3_go_115 : decode cX3_go 115 = .ok (.iload_n 2, 1) := by decide +kernel
theorem dX3_go_116 : decode cX3_go 116 = .ok (.iload_n 3, 1) := by decide +kernel
theorem dX3_go_117 : decode cX3_go 117 = .ok (.iconst 1, 1) := by decide +kernel
theorem dX3_go_118 : decode cX3_go 118 = .ok (.iadd, 1) := by decide +kernel
theorem dX3_go_119 : decode cX3_go 119 = .ok (.iconst (-1), 1) := by decide +kernel
theorem dX3_go_120 : decode cX3_go 120 = .ok (.invokevirtual 67, 3) := by decide +kernel
theorem dX3_go_123 : decode cX3_go 123 = .ok (.iconst (-1), 1) := by decide +kernel
theorem dX3_go_124 : decode cX3_go 124 = .ok (.if_icmp .ne 7, 3) := by decide +kernel
theorem dX3_go_127 : decode cX3_go 127 = .ok (.iconst (-1), 1) := by decide +kernel
theorem dX3_go_128 : decode cX3_go 128 = .ok (.goto 4, 3) := by decide +kernel
theorem dX3_go_131 : decode cX3_go 131 = .ok (.iload_n 2, 1) := by decide +kernel
theorem dX3_go_132 : decode cX3_go 132 = .ok (.ireturn, 1) := by decide +kernel
theorem dX3_go_133 : decode cX3_go 133 = .ok (.aload_n 0, 1) := by decide +kernel
theorem dX3_go_134 : decode cX3_go 134 = .ok (.aload_n 1, 1) := by decide +kernel
theorem dX3_go_135 : decode cX3_go 135 = .ok (.getfield 89, 3) := by decide +kernel
theorem dX3_go_138 : decode cX3_go 138 = .ok (.iload_n 2, 1) := by decide +kernel
theorem dX3_go_139 : decode cX3_go 139 = .ok (.iload_n 3, 1) := by decide +kernel
theorem dX3_go_140 : decode cX3_go 140 = .ok (.iconst 1, 1) := by decide +kernel
theorem dX3_go_141 : decode cX3_go 141 = .ok (.iadd, 1) := by decide +kernel
theorem dX3_go_142 : decode cX3_go 142 = .ok (.iconst (-1), 1) := by decide +kernel
theorem dX3_go_143 : decode cX3_go 143 = .ok (.invokevirtual 67, 3) := by decide +kernel
theorem dX3_go_146 : decode cX3_go 146 = .ok (.iconst (-1), 1) := by decide +kernel
theorem dX3_go_147 : decode cX3_go 147 = .ok (.if_icmp .ne 7, 3) := by decide +kernel
theorem dX3_go_150 : decode cX3_go 150 = .ok (.iload_n 2, 1) := by decide +kernel
theorem dX3_go_151 : decode cX3_go 151 = .ok (.goto 4, 3) := by decide +kernel
theorem dX3_go_154 : decode cX3_go 154 = .ok (.iconst (-1), 1) := by decide +kernel
theorem dX3_go_155 : decode cX3_go 155 = .ok (.ireturn, 1) := by decide +kernel
theorem dX3_go_156 : decode cX3_go 156 = .ok (.aload_n 0, 1) := by decide +kernel
theorem dX3_go_157 : decode cX3_go 157 = .ok (.aload_n 1, 1) := by decide +kernel
theorem dX3_go_158 : decode cX3_go 158 = .ok (.iload_n 2, 1) := by decide +kernel
theorem dX3_go_159 : decode cX3_go 159 = .ok (.iload_n 3, 1) := by decide +kernel
theorem dX3_go_160 : decode cX3_go 160 = .ok (.iconst 1, 1) := by decide +kernel
theorem dX3_go_161 : decode cX3_go 161 = .ok (.iadd, 1) := by decide +kernel
theorem dX3_go_162 : decode cX3_go 162 = .ok (.iload 4, 2) := by decide +kernel
theorem dX3_go_164 : decode cX3_go 164 = .ok (.invokevirtual 98, 3) := by decide +kernel
theorem dX3_go_167 : decode cX3_go 167 = .ok (.ireturn, 1) := by decide +kernel
theorem dX3_goLetter_0 : decode cX3_goLetter 0 = .ok (.aload_n 0, 1) := by decide +kernel
theorem dX3_goLetter_1 : decode cX3_goLetter 1 = .ok (.getfield 15, 3) := by decide +kernel
theorem dX3_goLetter_4 : decode cX3_goLetter 4 = .ok (.iload_n 2, 1) := by decide +kernel
theorem dX3_goLetter_5 : decode cX3_goLetter 5 = .ok (.invokevirtual 101, 3) := by decide +kernel
theorem dX3_goLetter_8 : decode cX3_goLetter 8 = .ok (.istore_n 3, 1) := by decide +kernel
theorem dX3_goLetter_9 : decode cX3_goLetter 9 = .ok (.iload_n 3, 1) := by decide +kernel
theorem dX3_goLetter_10 : decode cX3_goLetter 10 = .ok (.aload_n 1, 1) := by decide +kernel
theorem dX3_goLetter_11 : decode cX3_goLetter 11 = .ok (.getfield 83, 3) := by decide +kernel
theorem dX3_goLetter_14 : decode cX3_goLetter 14 = .ok (.if_icmp .lt 17, 3) := by decide +kernel
theorem dX3_goLetter_17 : decode cX3_goLetter 17 = .ok (.iload_n 3, 1) := by decide +kernel
theorem dX3_goLetter_18 : decode cX3_goLetter 18 = .ok (.aload_n 1, 1) := by decide +kernel
theorem dX3_goLetter_19 : decode cX3_goLetter 19 = .ok (.getfield 107, 3) := by decide +kernel
theorem dX3_goLetter_22 : decode cX3_goLetter 22 = .ok (.if_icmp .gt 9, 3) := by decide +kernel
theorem dX3_goLetter_25 : decode cX3_goLetter 25 = .ok (.iload_n 2, 1) := by decide +kernel
theorem dX3_goLetter_26 : decode cX3_goLetter 26 = .ok (.iconst 1, 1) := by decide +kernel
theorem dX3_goLetter_27 : decode cX3_goLetter 27 = .ok (.iadd, 1) := by decide +kernel
theorem dX3_goLetter_28 : decode cX3_goLetter 28 = .ok (.goto 4, 3) := by decide +kernel
theorem dX3_goLetter_31 : decode cX3_goLetter 31 = .ok (.iconst (-1), 1) := by decide +kernel
theorem dX3_goLetter_32 : decode cX3_goLetter 32 = .ok (.ireturn, 1) := by decide +kernel
theorem dX3_goRule_0 : decode cX3_goRule 0 = .ok (.aload_n 0, 1) := by decide +kernel
theorem dX3_goRule_1 : decode cX3_goRule 1 = .ok (.iload_n 1, 1) := by decide +kernel
theorem dX3_goRule_2 : decode cX3_goRule 2 = .ok (.iload_n 2, 1) := by decide +kernel
theorem dX3_goRule_3 : decode cX3_goRule 3 = .ok (.iload_n 3, 1) := by decide +kernel
theorem dX3_goRule_4 : decode cX3_goRule 4 = .ok (.iconst 2, 1) := by decide +kernel
theorem dX3_goRule_5 : decode cX3_goRule 5 = .ok (.iadd, 1) := by decide +kernel
theorem dX3_goRule_6 : decode cX3_goRule 6 = .ok (.invokevirtual 110, 3) := by decide +kernel
theorem dX3_goRule_9 : decode cX3_goRule 9 = .ok (.istore 5, 2) := by decide +kernel
theorem dX3_goRule_11 : decode cX3_goRule 11 = .ok (.iload 5, 2) := by decide +kernel
theorem dX3_goRule_13 : decode cX3_goRule 13 = .ok (.iconst (-1), 1) := by decide +kernel
theorem dX3_goRule_14 : decode cX3_goRule 14 = .ok (.if_icmp .eq 17, 3) := by decide +kernel
theorem dX3_goRule_17 : decode cX3_goRule 17 = .ok (.aload_n 0, 1) := by decide +kernel
theorem dX3_goRule_18 : decode cX3_goRule 18 = .ok (.getfield 19, 3) := by decide +kernel
theorem dX3_goRule_21 : decode cX3_goRule 21 = .ok (.iload 4, 2) := by decide +kernel
theorem dX3_goRule_23 : decode cX3_goRule 23 = .ok (.iload_n 1, 1) := by decide +kernel
theorem dX3_goRule_24 : decode cX3_goRule 24 = .ok (.iload_n 2, 1) := by decide +kernel
theorem dX3_goRule_25 : decode cX3_goRule 25 = .ok (.invokestatic 30, 3) := by decide +kernel
theorem dX3_goRule_28 : decode cX3_goRule 28 = .ok (.invokevirtual 114, 3) := by decide +kernel
theorem dX3_goRule_31 : decode cX3_goRule 31 = .ok (.iload 5, 2) := by decide +kernel
theorem dX3_goRule_33 : decode cX3_goRule 33 = .ok (.ireturn, 1) := by decide +kernel
theorem dX3_goRow_0 : decode cX3_goRow 0 = .ok (.iload_n 2, 1) := by decide +kernel
theorem dX3_goRow_1 : decode cX3_goRow 1 = .ok (.istore 5, 2) := by decide +kernel
theorem dX3_goRow_3 : decode cX3_goRow 3 = .ok (.aload_n 1, 1) := by decide +kernel
theorem dX3_goRow_4 : decode cX3_goRow 4 = .ok (.astore 6, 2) := by decide +kernel
theorem dX3_goRow_6 : decode cX3_goRow 6 = .ok (.aload 6, 2) := by decide +kernel
theorem dX3_goRow_8 : decode cX3_goRow 8 = .ok (.ifnull 32, 3) := by decide +kernel
theorem dX3_goRow_11 : decode cX3_goRow 11 = .ok (.iload 5, 2) := by decide +kernel
theorem dX3_goRow_13 : decode cX3_goRow 13 = .ok (.iconst (-1), 1) := by decide +kernel
theorem dX3_goRow_14 : decode cX3_goRow 14 = .ok (.if_icmp .eq 26, 3) := by decide +kernel
theorem dX3_goRow_17 : decode cX3_goRow 17 = .ok (.aload_n 0, 1) := by decide +kernel
theorem dX3_goRow_18 : decode cX3_goRow 18 = .ok (.aload 6, 2) := by decide +kernel
theorem dX3_goRow_20 : decode cX3_goRow 20 = .ok (.iload 5, 2) := by decide +kernel
theorem dX3_goRow_22 : decode cX3_goRow 22 = .ok (.iload_n 3, 1) := by decide +kernel
theorem dX3_goRow_23 : decode cX3_goRow 23 = .ok (.iload 4, 2) := by decide +kernel
theorem dX3_goRow_25 : decode cX3_goRow 25 = .ok (.invokevirtual 67, 3) := by decide +kernel
theorem dX3_goRow_28 : decode cX3_goRow 28 = .ok (.istore 5, 2) := by decide +kernel
theorem dX3_goRow_30 : decode cX3_goRow 30 = .ok (.aload 6, 2) := by decide +kernel
theorem dX3_goRow_32 : decode cX3_goRow 32 = .ok (.getfield 117, 3) := by decide +kernel
theorem dX3_goRow_35 : decode cX3_goRow 35 = .ok (.astore 6, 2) := by decide +kernel
theorem dX3_goRow_37 : decode cX3_goRow 37 = .ok (.goto (-31), 3) := by decide +kernel
theorem dX3_goRow_40 : decode cX3_goRow 40 = .ok (.iload 5, 2) := by decide +kernel
theorem dX3_goRow_42 : decode cX3_goRow 42 = .ok (.ireturn, 1) := by decide +kernel
theorem dX3_goChoice_0 : decode cX3_goChoice 0 = .ok (.aload_n 0, 1) := by decide +kernel
theorem dX3_goChoice_1 : decode cX3_goChoice 1 = .ok (.getfield 19, 3) := by decide +kernel
theorem dX3_goChoice_4 : decode cX3_goChoice 4 = .ok (.iload 4, 2) := by decide +kernel
theorem dX3_goChoice_6 : decode cX3_goChoice 6 = .ok (.invokevirtual 120, 3) := by decide +kernel
theorem dX3_goChoice_9 : decode cX3_goChoice 9 = .ok (.istore 5, 2) := by decide +kernel
theorem dX3_goChoice_11 : decode cX3_goChoice 11 = .ok (.aload_n 1, 1) := by decide +kernel
theorem dX3_goChoice_12 : decode cX3_goChoice 12 = .ok (.astore 6, 2) := by decide +kernel
theorem dX3_goChoice_14 : decode cX3_goChoice 14 = .ok (.aload 6, 2) := by decide +kernel
theorem dX3_goChoice_16 : decode cX3_goChoice 16 = .ok (.ifnull 45, 3) := by decide +kernel
theorem dX3_goChoice_19 : decode cX3_goChoice 19 = .ok (.aload_n 0, 1) := by decide +kernel
theorem dX3_goChoice_20 : decode cX3_goChoice 20 = .ok (.aload 6, 2) := by decide +kernel
theorem dX3_goChoice_22 : decode cX3_goChoice 22 = .ok (.iload_n 2, 1) := by decide +kernel
theorem dX3_goChoice_23 : decode cX3_goChoice 23 = .ok (.iload_n 3, 1) := by decide +kernel
theorem dX3_goChoice_24 : decode cX3_goChoice 24 = .ok (.iload 4, 2) := by decide +kernel
theorem dX3_goChoice_26 : decode cX3_goChoice 26 = .ok (.invokevirtual 67, 3) := by decide +kernel
theorem dX3_goChoice_29 : decode cX3_goChoice 29 = .ok (.istore 7, 2) := by decide +kernel
theorem dX3_goChoice_31 : decode cX3_goChoice 31 = .ok (.iload 7, 2) := by decide +kernel
theorem dX3_goChoice_33 : decode cX3_goChoice 33 = .ok (.iconst (-1), 1) := by decide +kernel
theorem dX3_goChoice_34 : decode cX3_goChoice 34 = .ok (.if_icmp .eq 6, 3) := by decide +kernel
theorem dX3_goChoice_37 : decode cX3_goChoice 37 = .ok (.iload 7, 2) := by decide +kernel
theorem dX3_goChoice_39 : decode cX3_goChoice 39 = .ok (.ireturn, 1) := by decide +kernel
theorem dX3_goChoice_40 : decode cX3_goChoice 40 = .ok (.aload_n 0, 1) := by decide +kernel
theorem dX3_goChoice_41 : decode cX3_goChoice 41 = .ok (.getfield 19, 3) := by decide +kernel
theorem dX3_goChoice_44 : decode cX3_goChoice 44 = .ok (.iload 4, 2) := by decide +kernel
theorem dX3_goChoice_46 : decode cX3_goChoice 46 = .ok (.iload 5, 2) := by decide +kernel
theorem dX3_goChoice_48 : decode cX3_goChoice 48 = .ok (.invokevirtual 51, 3) := by decide +kernel
theorem dX3_goChoice_51 : decode cX3_goChoice 51 = .ok (.aload 6, 2) := by decide +kernel
theorem dX3_goChoice_53 : decode cX3_goChoice 53 = .ok (.getfield 117, 3) := by decide +kernel
theorem dX3_goChoice_56 : decode cX3_goChoice 56 = .ok (.astore 6, 2) := by decide +kernel
theorem dX3_goChoice_58 : decode cX3_goChoice 58 = .ok (.goto (-44), 3) := by decide +kernel
theorem dX3_goChoice_61 : decode cX3_goChoice 61 = .ok (.iconst (-1), 1) := by decide +kernel
theorem dX3_goChoice_62 : decode cX3_goChoice 62 = .ok (.ireturn, 1) := by decide +kernel
theorem dX3_goRepeated_0 : decode cX3_goRepeated 0 = .ok (.aload_n 1, 1) := by decide +kernel
theorem dX3_goRepeated_1 : decode cX3_goRepeated 1 = .ok (.getfield 74, 3) := by decide +kernel
theorem dX3_goRepeated_4 : decode cX3_goRepeated 4 = .ok (.bipush 7, 2) := by decide +kernel
theorem dX3_goRepeated_6 : decode cX3_goRepeated 6 = .ok (.if_icmp .ne 7, 3) := by decide +kernel
theorem dX3_goRepeated_9 : decode cX3_goRepeated 9 = .ok (.iconst 1, 1) := by decide +kernel
theorem dX3_goRepeated_10 : decode cX3_goRepeated 10 = .ok (.goto 5, 3) := by decide +kernel
theorem dX3_goRepeated_13 : decode cX3_goRepeated 13 = .ok (.bipush 21, 2) := by decide +kernel
theorem dX3_goRepeated_15 : decode cX3_goRepeated 15 = .ok (.istore 5, 2) := by decide +kernel
theorem dX3_goRepeated_17 : decode cX3_goRepeated 17 = .ok (.aload_n 1, 1) := by decide +kernel
theorem dX3_goRepeated_18 : decode cX3_goRepeated 18 = .ok (.getfield 74, 3) := by decide +kernel
theorem dX3_goRepeated_21 : decode cX3_goRepeated 21 = .ok (.bipush 6, 2) := by decide +kernel
theorem dX3_goRepeated_23 : decode cX3_goRepeated 23 = .ok (.if_icmp .ne 7, 3) := by decide +kernel
theorem dX3_goRepeated_26 : decode cX3_goRepeated 26 = .ok (.iconst (-1), 1) := by decide +kernel
theorem dX3_goRepeated_27 : decode cX3_goRepeated 27 = .ok (.goto 4, 3) := by decide +kernel
theorem dX3_goRepeated_30 : decode cX3_goRepeated 30 = .ok (.iload_n 2, 1) := by decide +kernel
theorem dX3_goRepeated_31 : decode cX3_goRepeated 31 = .ok (.istore 6, 2) := by decide +kernel
theorem dX3_goRepeated_33 : decode cX3_goRepeated 33 = .ok (.iload_n 2, 1) := by decide +kernel
theorem dX3_goRepeated_34 : decode cX3_goRepeated 34 = .ok (.istore 7, 2) := by decide +kernel
theorem dX3_goRepeated_36 : decode cX3_goRepeated 36 = .ok (.iconst 0, 1) := by decide +kernel
theorem dX3_goRepeated_37 : decode cX3_goRepeated 37 = .ok (.istore 8, 2) := by decide +kernel
theorem dX3_goRepeated_39 : decode cX3_goRepeated 39 = .ok (.iload 8, 2) := by decide +kernel
theorem dX3_goRepeated_41 : decode cX3_goRepeated 41 = .ok (.iload 5, 2) := by decide +kernel
theorem dX3_goRepeated_43 : decode cX3_goRepeated 43 = .ok (.if_icmp .ge 63, 3) := by decide +kernel
theorem dX3_goRepeated_46 : decode cX3_goRepeated 46 = .ok (.aload_n 0, 1) := by decide +kernel
theorem dX3_goRepeated_47 : decode cX3_goRepeated 47 = .ok (.getfield 19, 3) := by decide +kernel
theorem dX3_goRepeated_50 : decode cX3_goRepeated 50 = .ok (.iload 4, 2) := by decide +kernel
theorem dX3_goRepeated_52 : decode cX3_goRepeated 52 = .ok (.invokevirtual 120, 3) := by decide +kernel
theorem dX3_goRepeated_55 : decode cX3_goRepeated 55 = .ok (.istore 9, 2) := by decide +kernel
theorem dX3_goRepeated_57 : decode cX3_goRepeated 57 = .ok (.aload_n 0, 1) := by decide +kernel
theorem dX3_goRepeated_58 : decode cX3_goRepeated 58 = .ok (.aload_n 1, 1) := by decide +kernel
theorem dX3_goRepeated_59 : decode cX3_goRepeated 59 = .ok (.getfield 89, 3) := by decide +kernel
theorem dX3_goRepeated_62 : decode cX3_goRepeated 62 = .ok (.iload 7, 2) := by decide +kernel
theorem dX3_goRepeated_64 : decode cX3_goRepeated 64 = .ok (.iload_n 3, 1) := by decide +kernel
theorem dX3_goRepeated_65 : decode cX3_goRepeated 65 = .ok (.iload 4, 2) := by decide +kernel
theorem dX3_goRepeated_67 : decode cX3_goRepeated 67 = .ok (.invokevirtual 67, 3) := by decide +kernel
theorem dX3_goRepeated_70 : decode cX3_goRepeated 70 = .ok (.istore 10, 2) := by decide +kernel
theorem dX3_goRepeated_72 : decode cX3_goRepeated 72 = .ok (.iload 10, 2) := by decide +kernel
theorem dX3_goRepeated_74 : decode cX3_goRepeated 74 = .ok (.iconst (-1), 1) := by decide +kernel
theorem dX3_goRepeated_75 : decode cX3_goRepeated 75 = .ok (.if_icmp .ne 17, 3) := by decide +kernel
theorem dX3_goRepeated_78 : decode cX3_goRepeated 78 = .ok (.aload_n 0, 1) := by decide +kernel
theorem dX3_goRepeated_79 : decode cX3_goRepeated 79 = .ok (.getfield 19, 3) := by decide +kernel
theorem dX3_goRepeated_82 : decode cX3_goRepeated 82 = .ok (.iload 4, 2) := by decide +kernel
theorem dX3_goRepeated_84 : decode cX3_goRepeated 84 = .ok (.iload 9, 2) := by decide +kernel
theorem dX3_goRepeated_86 : decode cX3_goRepeated 86 = .ok (.invokevirtual 51, 3) := by decide +kernel
theorem dX3_goRepeated_89 : decode cX3_goRepeated 89 = .ok (.goto 17, 3) := by decide +kernel
theorem dX3_goRepeated_92 : decode cX3_goRepeated 92 = .ok (.iload 10, 2) := by decide +kernel
theorem dX3_goRepeated_94 : decode cX3_goRepeated 94 = .ok (.istore 7, 2) := by decide +kernel
theorem dX3_goRepeated_96 : decode cX3_goRepeated 96 = .ok (.iload 10, 2) := by decide +kernel
theorem dX3_goRepeated_98 : decode cX3_goRepeated 98 = .ok (.istore 6, 2) := by decide +kernel
theorem dX3_goRepeated_100 : decode cX3_goRepeated 100 = .ok (.iinc 8 1, 3) := by decide +kernel
theorem dX3_goRepeated_103 : decode cX3_goRepeated 103 = .ok (.goto (-64), 3) := by decide +kernel
theorem dX3_goRepeated_106 : decode cX3_goRepeated 106 = .ok (.iload 6, 2) := by decide +kernel
theorem dX3_goRepeated_108 : decode cX3_goRepeated 108 = .ok (.ireturn, 1) := by decide +kernel
theorem dX4_init_0 : decode cX4_init 0 = .ok (.aload_n 0, 1) := by decide +kernel
theorem dX4_init_1 : decode cX4_init 1 = .ok (.invokespecial 3, 3) := by decide +kernel
theorem dX4_init_4 : decode cX4_init 4 = .ok (.aload_n 0, 1) := by decide +kernel
theorem dX4_init_5 : decode cX4_init 5 = .ok (.bipush 126, 2) := by decide +kernel
theorem dX4_init_7 : decode cX4_init 7 = .ok (.newarray .int, 2) := by decide +kernel
theorem dX4_init_9 : decode cX4_init 9 = .ok (.putfield 9, 3) := by decide +kernel
theorem dX4_init_12 : decode cX4_init 12 = .ok (.aload_n 0, 1) := by decide +kernel
theorem dX4_init_13 : decode cX4_init 13 = .ok (.bipush 126, 2) := by decide +kernel
theorem dX4_init_15 : decode cX4_init 15 = .ok (.newarray .int, 2) := by decide +kernel
theorem dX4_init_17 : decode cX4_init 17 = .ok (.putfield 15, 3) := by decide +kernel
theorem dX4_init_20 : decode cX4_init 20 = .ok (.aload_n 0, 1) := by decide +kernel
theorem dX4_init_21 : decode cX4_init 21 = .ok (.sipush 7560, 3) := by decide +kernel
theorem dX4_init_24 : decode cX4_init 24 = .ok (.newarray .byte, 2) := by decide +kernel
theorem dX4_init_26 : decode cX4_init 26 = .ok (.putfield 18, 3) := by decide +kernel
theorem dX4_init_29 : decode cX4_init 29 = .ok (.aload_n 0, 1) := by decide +kernel
theorem dX4_init_30 : decode cX4_init 30 = .ok (.getfield 9, 3) := by decide +kernel
theorem dX4_init_33 : decode cX4_init 33 = .ok (.bipush (-2), 2) := by decide +kernel
theorem dX4_init_35 : decode cX4_init 35 = .ok (.invokestatic 22, 3) := by decide +kernel
theorem dX4_init_38 : decode cX4_init 38 = .ok (.return_, 1) := by decide +kernel
theorem dX4_cellOf_0 : decode cX4_cellOf 0 = .ok (.iload_n 0, 1) := by decide +kernel
theorem dX4_cellOf_1 : decode cX4_cellOf 1 = .ok (.invokestatic 28, 3) := by decide +kernel
theorem dX4_cellOf_4 : decode cX4_cellOf 4 = .ok (.ifCond .eq 17, 3) := by decide +kernel
theorem dX4_cellOf_7 : decode cX4_cellOf 7 = .ok (.iload_n 1, 1) := by decide +kernel
theorem dX4_cellOf_8 : decode cX4_cellOf 8 = .ok (.ifCond .lt 13, 3) := by decide +kernel
theorem dX4_cellOf_11 : decode cX4_cellOf 11 = .ok (.iload_n 1, 1) := by decide +kernel
theorem dX4_cellOf_12 : decode cX4_cellOf 12 = .ok (.bipush 21, 2) := by decide +kernel
theorem dX4_cellOf_14 : decode cX4_cellOf 14 = .ok (.if_icmp .ge 7, 3) := by decide +kernel
theorem dX4_cellOf_17 : decode cX4_cellOf 17 = .ok (.iconst 1, 1) := by decide +kernel
theorem dX4_cellOf_18 : decode cX4_cellOf 18 = .ok (.goto 4, 3) := by decide +kernel
theorem dX4_cellOf_21 : decode cX4_cellOf 21 = .ok (.iconst 0, 1) := by decide +kernel
theorem dX4_cellOf_22 : decode cX4_cellOf 22 = .ok (.istore_n 2, 1) := by decide +kernel
theorem dX4_cellOf_23 : decode cX4_cellOf 23 = .ok (.iload_n 2, 1) := by decide +kernel
theorem dX4_cellOf_24 : decode cX4_cellOf 24 = .ok (.ifCond .eq 12, 3) := by decide +kernel
theorem dX4_cellOf_27 : decode cX4_cellOf 27 = .ok (.iload_n 0, 1) := by decide +kernel
theorem dX4_cellOf_28 : decode cX4_cellOf 28 = .ok (.bipush 21, 2) := by decide +kernel
theorem dX4_cellOf_30 : decode cX4_cellOf 30 = .ok (.imul, 1) := by decide +kernel
theorem dX4_cellOf_31 : decode cX4_cellOf 31 = .ok (.iload_n 1, 1) := by decide +kernel
theorem dX4_cellOf_32 : decode cX4_cellOf 32 = .ok (.iadd, 1) := by decide +kernel
theorem dX4_cellOf_33 : decode cX4_cellOf 33 = .ok (.goto 4, 3) := by decide +kernel
theorem dX4_cellOf_36 : decode cX4_cellOf 36 = .ok (.iconst (-1), 1) := by decide +kernel
theorem dX4_cellOf_37 : decode cX4_cellOf 37 = .ok (.ireturn, 1) := by decide +kernel
theorem dX4_isCell_0 : decode cX4_isCell 0 = .ok (.iload_n 0, 1) := by decide +kernel
theorem dX4_isCell_1 : decode cX4_isCell 1 = .ok (.ifCond .lt 13, 3) := by decide +kernel
theorem dX4_isCell_4 : decode cX4_isCell 4 = .ok (.iload_n 0, 1) := by decide +kernel
theorem dX4_isCell_5 : decode cX4_isCell 5 = .ok (.bipush 126, 2) := by decide +kernel
theorem dX4_isCell_7 : decode cX4_isCell 7 = .ok (.if_icmp .ge 7, 3) := by decide +kernel
theorem dX4_isCell_10 : decode cX4_isCell 10 = .ok (.iconst 1, 1) := by decide +kernel
theorem dX4_isCell_11 : decode cX4_isCell 11 = .ok (.goto 4, 3) := by decide +kernel
theorem dX4_isCell_14 : decode cX4_isCell 14 = .ok (.iconst 0, 1) := by decide +kernel
theorem dX4_isCell_15 : decode cX4_isCell 15 = .ok (.ireturn, 1) := by decide +kernel
theorem dX4_forget_0 : decode cX4_forget 0 = .ok (.aload_n 0, 1) := by decide +kernel
theorem dX4_forget_1 : decode cX4_forget 1 = .ok (.getfield 9, 3) := by decide +kernel
theorem dX4_forget_4 : decode cX4_forget 4 = .ok (.bipush (-2), 2) := by decide +kernel
theorem dX4_forget_6 : decode cX4_forget 6 = .ok (.invokestatic 22, 3) := by decide +kernel
theorem dX4_forget_9 : decode cX4_forget 9 = .ok (.return_, 1) := by decide +kernel
theorem dX4_size_0 : decode cX4_size 0 = .ok (.iconst 0, 1) := by decide +kernel
theorem dX4_size_1 : decode cX4_size 1 = .ok (.istore_n 1, 1) := by decide +kernel
theorem dX4_size_2 : decode cX4_size 2 = .ok (.aload_n 0, 1) := by decide +kernel
theorem dX4_size_3 : decode cX4_size 3 = .ok (.getfield 9, 3) := by decide +kernel
theorem dX4_size_6 : decode cX4_size 6 = .ok (.astore_n 2, 1) := by decide +kernel
theorem dX4_size_7 : decode cX4_size 7 = .ok (.aload_n 2, 1) := by decide +kernel
theorem dX4_size_8 : decode cX4_size 8 = .ok (.arraylength, 1) := by decide +kernel
theorem dX4_size_9 : decode cX4_size 9 = .ok (.istore_n 3, 1) := by decide +kernel
theorem dX4_size_10 : decode cX4_size 10 = .ok (.iconst 0, 1) := by decide +kernel
theorem dX4_size_11 : decode cX4_size 11 = .ok (.istore 4, 2) := by decide +kernel
theorem dX4_size_13 : decode cX4_size 13 = .ok (.iload 4, 2) := by decide +kernel
theorem dX4_size_15 : decode cX4_size 15 = .ok (.iload_n 3, 1) := by decide +kernel
theorem dX4_size_16 : decode cX4_size 16 = .ok (.if_icmp .ge 25, 3) := by decide +kernel
theorem dX4_size_19 : decode cX4_size 19 = .ok (.aload_n 2, 1) := by decide +kernel
theorem dX4_size_20 : decode cX4_size 20 = .ok (.iload 4, 2) := by decide +kernel
theorem dX4_size_22 : decode cX4_size 22 = .ok (.iaload, 1) := by decide +kernel
theorem dX4_size_23 : decode cX4_size 23 = .ok (.istore 5, 2) := by decide +kernel
theorem dX4_size_25 : decode cX4_size 25 = .ok (.iload 5, 2) := by decide +kernel
theorem dX4_size_27 : decode cX4_size 27 = .ok (.bipush (-2), 2) := by decide +kernel
theorem dX4_size_29 : decode cX4_size 29 = .ok (.if_icmp .eq 6, 3) := by decide +kernel
theorem dX4_size_32 : decode cX4_size 32 = .ok (.iinc 1 1, 3) := by decide +kernel
theorem dX4_size_35 : decode cX4_size 35 = .ok (.iinc 4 1, 3) := by decide +kernel
theorem dX4_size_38 : decode cX4_size 38 = .ok (.goto (-25), 3) := by decide +kernel
theorem dX4_size_41 : decode cX4_size 41 = .ok (.iload_n 1, 1) := by decide +kernel
theorem dX4_size_42 : decode cX4_size 42 = .ok (.ireturn, 1) := by decide +kernel
theorem dX4_recall_0 : decode cX4_recall 0 = .ok (.iload_n 1, 1) := by decide +kernel
theorem dX4_recall_1 : decode cX4_recall 1 = .ok (.invokestatic 32, 3) := by decide +kernel
theorem dX4_recall_4 : decode cX4_recall 4 = .ok (.ifCond .eq 12, 3) := by decide +kernel
theorem dX4_recall_7 : decode cX4_recall 7 = .ok (.aload_n 0, 1) := by decide +kernel
theorem dX4_recall_8 : decode cX4_recall 8 = .ok (.getfield 9, 3) := by decide +kernel
theorem dX4_recall_11 : decode cX4_recall 11 = .ok (.iload_n 1, 1) := by decide +kernel
theorem dX4_recall_12 : decode cX4_recall 12 = .ok (.iaload, 1) := by decide +kernel
theorem dX4_recall_13 : decode cX4_recall 13 = .ok (.goto 5, 3) := by decide +kernel
theorem dX4_recall_16 : decode cX4_recall 16 = .ok (.bipush (-2), 2) := by decide +kernel
theorem dX4_recall_18 : decode cX4_recall 18 = .ok (.ireturn, 1) := by decide +kernel
theorem dX4_keep_0 : decode cX4_keep 0 = .ok (.iload_n 1, 1) := by decide +kernel
theorem dX4_keep_1 : decode cX4_keep 1 = .ok (.invokestatic 32, 3) := by decide +kernel
theorem dX4_keep_4 : decode cX4_keep 4 = .ok (.ifCond .eq 10, 3) := by decide +kernel
theorem dX4_keep_7 : decode cX4_keep 7 = .ok (.aload_n 0, 1) := by decide +kernel
theorem dX4_keep_8 : decode cX4_keep 8 = .ok (.getfield 9, 3) := by decide +kernel
theorem dX4_keep_11 : decode cX4_keep 11 = .ok (.iload_n 1, 1) := by decide +kernel
theorem dX4_keep_12 : decode cX4_keep 12 = .ok (.iload_n 2, 1) := by decide +kernel
theorem dX4_keep_13 : decode cX4_keep 13 = .ok (.iastore, 1) := by decide +kernel
theorem dX4_keep_14 : decode cX4_keep 14 = .ok (.return_, 1) := by decide +kernel
theorem dX4_belowSize_0 : decode cX4_belowSize 0 = .ok (.iload_n 1, 1) := by decide +kernel
theorem dX4_belowSize_1 : decode cX4_belowSize 1 = .ok (.invokestatic 32, 3) := by decide +kernel
theorem dX4_belowSize_4 : decode cX4_belowSize 4 = .ok (.ifCond .eq 12, 3) := by decide +kernel
theorem dX4_belowSize_7 : decode cX4_belowSize 7 = .ok (.aload_n 0, 1) := by decide +kernel
theorem dX4_belowSize_8 : decode cX4_belowSize 8 = .ok (.getfield 15, 3) := by decide +kernel
theorem dX4_belowSize_11 : decode cX4_belowSize 11 = .ok (.iload_n 1, 1) := by decide +kernel
theorem dX4_belowSize_12 : decode cX4_belowSize 12 = .ok (.iaload, 1) := by decide +kernel
theorem dX4_belowSize_13 : decode cX4_belowSize 13 = .ok (.goto 4, 3) := by decide +kernel
theorem dX4_belowSize_16 : decode cX4_belowSize 16 = .ok (.iconst 0, 1) := by decide +kernel
theorem dX4_belowSize_17 : decode cX4_belowSize 17 = .ok (.ireturn, 1) := by decide +kernel
theorem dX4_cutBelow_0 : decode cX4_cutBelow 0 = .ok (.iload_n 1, 1) := by decide +kernel
theorem dX4_cutBelow_1 : decode cX4_cutBelow 1 = .ok (.invokestatic 32, 3) := by decide +kernel
theorem dX4_cutBelow_4 : decode cX4_cutBelow 4 = .ok (.ifCond .eq 10, 3) := by decide +kernel
theorem dX4_cutBelow_7 : decode cX4_cutBelow 7 = .ok (.aload_n 0, 1) := by decide +kernel
theorem dX4_cutBelow_8 : decode cX4_cutBelow 8 = .ok (.getfield 15, 3) := by decide +kernel
theorem dX4_cutBelow_11 : decode cX4_cutBelow 11 = .ok (.iload_n 1, 1) := by decide +kernel
theorem dX4_cutBelow_12 : decode cX4_cutBelow 12 = .ok (.iload_n 2, 1) := by decide +kernel
theorem dX4_cutBelow_13 : decode cX4_cutBelow 13 = .ok (.iastore, 1) := by decide +kernel
theorem dX4_cutBelow_14 : decode cX4_cutBelow 14 = .ok (.return_, 1) := by decide +kernel
theorem dX4_addBelow_0 : decode cX4_addBelow 0 = .ok (.iload_n 1, 1) := by decide +kernel
theorem dX4_addBelow_1 : decode cX4_addBelow 1 = .ok (.invokestatic 32, 3) := by decide +kernel
theorem dX4_addBelow_4 : decode cX4_addBelow 4 = .ok (.ifCond .eq 49, 3) := by decide +kernel
theorem dX4_addBelow_7 : decode cX4_addBelow 7 = .ok (.iload_n 2, 1) := by decide +kernel
theorem dX4_addBelow_8 : decode cX4_addBelow 8 = .ok (.invokestatic 32, 3) := by decide +kernel
theorem dX4_addBelow_11 : decode cX4_addBelow 11 = .ok (.ifCond .eq 42, 3) := by decide +kernel
theorem dX4_addBelow_14 : decode cX4_addBelow 14 = .ok (.aload_n 0, 1) := by decide +kernel
theorem dX4_addBelow_15 : decode cX4_addBelow 15 = .ok (.getfield 15, 3) := by decide +kernel
theorem dX4_addBelow_18 : decode cX4_addBelow 18 = .ok (.iload_n 1, 1) := by decide +kernel
theorem dX4_addBelow_19 : decode cX4_addBelow 19 = .ok (.iaload, 1) := by decide +kernel
theorem dX4_addBelow_20 : decode cX4_addBelow 20 = .ok (.istore_n 3, 1) := by decide +kernel
theorem dX4_addBelow_21 : decode cX4_addBelow 21 = .ok (.iload_n 3, 1) := by decide +kernel
theorem dX4_addBelow_22 : decode cX4_addBelow 22 = .ok (.ifCond .lt 22, 3) := by decide +kernel
theorem dX4_addBelow_25 : decode cX4_addBelow 25 = .ok (.iload_n 3, 1) := by decide +kernel
theorem dX4_addBelow_26 : decode cX4_addBelow 26 = .ok (.bipush 60, 2) := by decide +kernel
theorem dX4_addBelow_28 : decode cX4_addBelow 28 = .ok (.if_icmp .ge 16, 3) := by decide +kernel
theorem dX4_addBelow_31 : decode cX4_addBelow 31 = .ok (.aload_n 0, 1) := by decide +kernel
theorem dX4_addBelow_32 : decode cX4_addBelow 32 = .ok (.getfield 18, 3) := by decide +kernel
theorem dX4_addBelow_35 : decode cX4_addBelow 35 = .ok (.iload_n 1, 1) := by decide +kernel
theorem dX4_addBelow_36 : decode cX4_addBelow 36 = .ok (.bipush 60, 2) := by decide +kernel
theorem dX4_addBelow_38 : decode cX4_addBelow 38 = .ok (.imul, 1) := by decide +kernel
theorem dX4_addBelow_39 : decode cX4_addBelow 39 = .ok (.iload_n 3, 1) := by decide +kernel
theorem dX4_addBelow_40 : decode cX4_addBelow 40 = .ok (.iadd, 1) := by decide +kernel
theorem dX4_addBelow_41 : decode cX4_addBelow 41 = .ok (.iload_n 2, 1) := by decide +kernel
theorem dX4_addBelow_42 : decode cX4_addBelow 42 = .ok (.i2b, 1) := by decide +kernel
theorem dX4_addBelow_43 : decode cX4_addBelow 43 = .ok (.bastore, 1) := by decide +kernel
theorem dX4_addBelow_44 : decode cX4_addBelow 44 = .ok (.aload_n 0, 1) := by decide +kernel
theorem dX4_addBelow_45 : decode cX4_addBelow 45 = .ok (.getfield 15, 3) := by decide +kernel
theorem dX4_addBelow_48 : decode cX4_addBelow 48 = .ok (.iload_n 1, 1) := by decide +kernel
theorem dX4_addBelow_49 : decode cX4_addBelow 49 = .ok (.iload_n 3, 1) := by decide +kernel
theorem dX4_addBelow_50 : decode cX4_addBelow 50 = .ok (.iconst 1, 1) := by decide +kernel
theorem dX4_addBelow_51 : decode cX4_addBelow 51 = .ok (.iadd, 1) := by decide +kernel
theorem dX4_addBelow_52 : decode cX4_addBelow 52 = .ok (.iastore, 1) := by decide +kernel
theorem dX4_addBelow_53 : decode cX4_addBelow 53 = .ok (.return_, 1) := by decide +kernel
theorem dX4_below_0 : decode cX4_below 0 = .ok (.iload_n 1, 1) := by decide +kernel
theorem dX4_below_1 : decode cX4_below 1 = .ok (.invokestatic 32, 3) := by decide +kernel
theorem dX4_below_4 : decode cX4_below 4 = .ok (.ifCond .eq 27, 3) := by decide +kernel
theorem dX4_below_7 : decode cX4_below 7 = .ok (.iload_n 2, 1) := by decide +kernel
theorem dX4_below_8 : decode cX4_below 8 = .ok (.ifCond .lt 23, 3) := by decide +kernel
theorem dX4_below_11 : decode cX4_below 11 = .ok (.iload_n 2, 1) := by decide +kernel
theorem dX4_below_12 : decode cX4_below 12 = .ok (.bipush 60, 2) := by decide +kernel
theorem dX4_below_14 : decode cX4_below 14 = .ok (.if_icmp .ge 17, 3) := by decide +kernel
theorem dX4_below_17 : decode cX4_below 17 = .ok (.aload_n 0, 1) := by decide +kernel
theorem dX4_below_18 : decode cX4_below 18 = .ok (.getfield 18, 3) := by decide +kernel
theorem dX4_below_21 : decode cX4_below 21 = .ok (.iload_n 1, 1) := by decide +kernel
theorem dX4_below_22 : decode cX4_below 22 = .ok (.bipush 60, 2) := by decide +kernel
theorem dX4_below_24 : decode cX4_below 24 = .ok (.imul, 1) := by decide +kernel
theorem dX4_below_25 : decode cX4_below 25 = .ok (.iload_n 2, 1) := by decide +kernel
theorem dX4_below_26 : decode cX4_below 26 = .ok (.iadd, 1) := by decide +kernel
theorem dX4_below_27 : decode cX4_below 27 = .ok (.baload, 1) := by decide +kernel
theorem dX4_below_28 : decode cX4_below 28 = .ok (.goto 4, 3) := by decide +kernel
theorem dX4_below_31 : decode cX4_below 31 = .ok (.iconst (-1), 1) := by decide +kernel
theorem dX4_below_32 : decode cX4_below 32 = .ok (.ireturn, 1) := by decide +kernel
theorem dX5_init_0 : decode cX5_init 0 = .ok (.aload_n 0, 1) := by decide +kernel
theorem dX5_init_1 : decode cX5_init 1 = .ok (.invokespecial 1, 3) := by decide +kernel
theorem dX5_init_4 : decode cX5_init 4 = .ok (.aload_n 0, 1) := by decide +kernel
theorem dX5_init_5 : decode cX5_init 5 = .ok (.iload_n 1, 1) := by decide +kernel
theorem dX5_init_6 : decode cX5_init 6 = .ok (.putfield 7, 3) := by decide +kernel
theorem dX5_init_9 : decode cX5_init 9 = .ok (.aload_n 0, 1) := by decide +kernel
theorem dX5_init_10 : decode cX5_init 10 = .ok (.iload_n 2, 1) := by decide +kernel
theorem dX5_init_11 : decode cX5_init 11 = .ok (.putfield 13, 3) := by decide +kernel
theorem dX5_init_14 : decode cX5_init 14 = .ok (.aload_n 0, 1) := by decide +kernel
theorem dX5_init_15 : decode cX5_init 15 = .ok (.iload_n 3, 1) := by decide +kernel
theorem dX5_init_16 : decode cX5_init 16 = .ok (.putfield 16, 3) := by decide +kernel
theorem dX5_init_19 : decode cX5_init 19 = .ok (.aload_n 0, 1) := by decide +kernel
theorem dX5_init_20 : decode cX5_init 20 = .ok (.aload 4, 2) := by decide +kernel
theorem dX5_init_22 : decode cX5_init 22 = .ok (.putfield 19, 3) := by decide +kernel
theorem dX5_init_25 : decode cX5_init 25 = .ok (.return_, 1) := by decide +kernel
theorem dX6_init_0 : decode cX6_init 0 = .ok (.aload_n 0, 1) := by decide +kernel
theorem dX6_init_1 : decode cX6_init 1 = .ok (.invokespecial 3, 3) := by decide +kernel
theorem dX6_init_4 : decode cX6_init 4 = .ok (.aload_n 0, 1) := by decide +kernel
theorem dX6_init_5 : decode cX6_init 5 = .ok (.aload_n 1, 1) := by decide +kernel
theorem dX6_init_6 : decode cX6_init 6 = .ok (.putfield 9, 3) := by decide +kernel
theorem dX6_init_9 : decode cX6_init 9 = .ok (.aload_n 0, 1) := by decide +kernel
theorem dX6_init_10 : decode cX6_init 10 = .ok (.new 15, 3) := by decide +kernel
theorem dX6_init_13 : decode cX6_init 13 = .ok (.dup, 1) := by decide +kernel
theorem dX6_init_14 : decode cX6_init 14 = .ok (.invokespecial 17, 3) := by decide +kernel
theorem dX6_init_17 : decode cX6_init 17 = .ok (.putfield 18, 3) := by decide +kernel
theorem dX6_init_20 : decode cX6_init 20 = .ok (.return_, 1) := by decide +kernel
theorem dX6_fault_0 : decode cX6_fault 0 = .ok (.aload_n 0, 1) := by decide +kernel
theorem dX6_fault_1 : decode cX6_fault 1 = .ok (.getfield 22, 3) := by decide +kernel
theorem dX6_fault_4 : decode cX6_fault 4 = .ok (.ireturn, 1) := by decide +kernel
theorem dX6_ruleRead_0 : decode cX6_ruleRead 0 = .ok (.aload_n 0, 1) := by decide +kernel
theorem dX6_ruleRead_1 : decode cX6_ruleRead 1 = .ok (.getfield 26, 3) := by decide +kernel
theorem dX6_ruleRead_4 : decode cX6_ruleRead 4 = .ok (.ireturn, 1) := by decide +kernel
theorem dX6_read_0 : decode cX6_read 0 = .ok (.aload_n 0, 1) := by decide +kernel
theorem dX6_read_1 : decode cX6_read 1 = .ok (.iconst 0, 1) := by decide +kernel
theorem dX6_read_2 : decode cX6_read 2 = .ok (.putfield 22, 3) := by decide +kernel
theorem dX6_read_5 : decode cX6_read 5 = .ok (.aload_n 0, 1) := by decide +kernel
theorem dX6_read_6 : decode cX6_read 6 = .ok (.new 15, 3) := by decide +kernel
theorem dX6_read_9 : decode cX6_read 9 = .ok (.dup, 1) := by decide +kernel
theorem dX6_read_10 : decode cX6_read 10 = .ok (.invokespecial 17, 3) := by decide +kernel
theorem dX6_read_13 : decode cX6_read 13 = .ok (.putfield 18, 3) := by decide +kernel
theorem dX6_read_16 : decode cX6_read 16 = .ok (.aload_n 0, 1) := by decide +kernel
theorem dX6_read_17 : decode cX6_read 17 = .ok (.getfield 9, 3) := by decide +kernel
theorem dX6_read_20 : decode cX6_read 20 = .ok (.aload_n 0, 1) := by decide +kernel
theorem dX6_read_21 : decode cX6_read 21 = .ok (.getfield 22, 3) := by decide +kernel
theorem dX6_read_24 : decode cX6_read 24 = .ok (.invokevirtual 29, 3) := by decide +kernel
theorem dX6_read_27 : decode cX6_read 27 = .ok (.istore_n 1, 1) := by decide +kernel
theorem dX6_read_28 : decode cX6_read 28 = .ok (.iload_n 1, 1) := by decide +kernel
theorem dX6_read_29 : decode cX6_read 29 = .ok (.invokestatic 34, 3) := by decide +kernel
theorem dX6_read_32 : decode cX6_read 32 = .ok (.ifCond .ne 5, 3) := by decide +kernel
theorem dX6_read_35 : decode cX6_read 35 = .ok (.aconst_null, 1) := by decide +kernel
theorem dX6_read_36 : decode cX6_read 36 = .ok (.areturn, 1) := by decide +kernel
theorem dX6_read_37 : decode cX6_read 37 = .ok (.aload_n 0, 1) := by decide +kernel
theorem dX6_read_38 : decode cX6_read 38 = .ok (.iload_n 1, 1) := by decide +kernel
theorem dX6_read_39 : decode cX6_read 39 = .ok (.bipush 65, 2) := by decide +kernel
theorem dX6_read_41 : decode cX6_read 41 = .ok (.isub, 1) := by decide +kernel
theorem dX6_read_42 : decode cX6_read 42 = .ok (.putfield 26, 3) := by decide +kernel
theorem dX6_read_45 : decode cX6_read 45 = .ok (.aload_n 0, 1) := by decide +kernel
theorem dX6_read_46 : decode cX6_read 46 = .ok (.dup, 1) := by decide +kernel
theorem dX6_read_47 : decode cX6_read 47 = .ok (.getfield 22, 3) := by decide +kernel
theorem dX6_read_50 : decode cX6_read 50 = .ok (.iconst 1, 1) := by decide +kernel
theorem dX6_read_51 : decode cX6_read 51 = .ok (.iadd, 1) := by decide +kernel
theorem dX6_read_52 : decode cX6_read 52 = .ok (.putfield 22, 3) := by decide +kernel
theorem dX6_read_55 : decode cX6_read 55 = .ok (.aload_n 0, 1) := by decide +kernel
theorem dX6_read_56 : decode cX6_read 56 = .ok (.bipush 61, 2) := by decide +kernel
theorem dX6_read_58 : decode cX6_read 58 = .ok (.invokevirtual 38, 3) := by decide +kernel
theorem dX6_read_61 : decode cX6_read 61 = .ok (.ifCond .eq 25, 3) := by decide +kernel
theorem dX6_read_64 : decode cX6_read 64 = .ok (.aload_n 0, 1) := by decide +kernel
theorem dX6_read_65 : decode cX6_read 65 = .ok (.iconst 0, 1) := by decide +kernel
theorem dX6_read_66 : decode cX6_read 66 = .ok (.invokevirtual 41, 3) := by decide +kernel
theorem dX6_read_69 : decode cX6_read 69 = .ok (.ifnull 17, 3) := by decide +kernel
theorem dX6_read_72 : decode cX6_read 72 = .ok (.aload_n 0, 1) := by decide +kernel
theorem dX6_read_73 : decode cX6_read 73 = .ok (.getfield 22, 3) := by decide +kernel
theorem dX6_read_76 : decode cX6_read 76 = .ok (.aload_n 0, 1) := by decide +kernel
theorem dX6_read_77 : decode cX6_read 77 = .ok (.getfield 9, 3) := by decide +kernel
theorem dX6_read_80 : decode cX6_read 80 = .ok (.invokevirtual 45, 3) := by decide +kernel
theorem dX6_read_83 : decode cX6_read 83 = .ok (.if_icmp .ge 5, 3) := by decide +kernel
theorem dX6_read_86 : decode cX6_read 86 = .ok (.aconst_null, 1) := by decide +kernel
theorem dX6_read_87 : decode cX6_read 87 = .ok (.areturn, 1) := by decide +kernel
theorem dX6_read_88 : decode cX6_read 88 = .ok (.aload_n 0, 1) := by decide +kernel
theorem dX6_read_89 : decode cX6_read 89 = .ok (.getfield 18, 3) := by decide +kernel
theorem dX6_read_92 : decode cX6_read 92 = .ok (.areturn, 1) := by decide +kernel
theorem dX6_take_0 : decode cX6_take 0 = .ok (.aload_n 0, 1) := by decide +kernel
theorem dX6_take_1 : decode cX6_take 1 = .ok (.getfield 9, 3) := by decide +kernel
theorem dX6_take_4 : decode cX6_take 4 = .ok (.aload_n 0, 1) := by decide +kernel
theorem dX6_take_5 : decode cX6_take 5 = .ok (.getfield 22, 3) := by decide +kernel
theorem dX6_take_8 : decode cX6_take 8 = .ok (.invokevirtual 29, 3) := by decide +kernel
theorem dX6_take_11 : decode cX6_take 11 = .ok (.iload_n 1, 1) := by decide +kernel
theorem dX6_take_12 : decode cX6_take 12 = .ok (.if_icmp .eq 5, 3) := by decide +kernel
theorem dX6_take_15 : decode cX6_take 15 = .ok (.iconst 0, 1) := by decide +kernel
theorem dX6_take_16 : decode cX6_take 16 = .ok (.ireturn, 1) := by decide +kernel
theorem dX6_take_17 : decode cX6_take 17 = .ok (.aload_n 0, 1) := by decide +kernel
theorem dX6_take_18 : decode cX6_take 18 = .ok (.dup, 1) := by decide +kernel
theorem dX6_take_19 : decode cX6_take 19 = .ok (.getfield 22, 3) := by decide +kernel
theorem dX6_take_22 : decode cX6_take 22 = .ok (.iconst 1, 1) := by decide +kernel
theorem dX6_take_23 : decode cX6_take 23 = .ok (.iadd, 1) := by decide +kernel
theorem dX6_take_24 : decode cX6_take 24 = .ok (.putfield 22, 3) := by decide +kernel
theorem dX6_take_27 : decode cX6_take 27 = .ok (.iconst 1, 1) := by decide +kernel
theorem dX6_take_28 : decode cX6_take 28 = .ok (.ireturn, 1) := by decide +kernel
theorem dX6_readChoice_0 : decode cX6_readChoice 0 = .ok (.aload_n 0, 1) := by decide +kernel
theorem dX6_readChoice_1 : decode cX6_readChoice 1 = .ok (.iload_n 1, 1) := by decide +kernel
theorem dX6_readChoice_2 : decode cX6_readChoice 2 = .ok (.invokevirtual 49, 3) := by decide +kernel
theorem dX6_readChoice_5 : decode cX6_readChoice 5 = .ok (.astore_n 2, 1) := by decide +kernel
theorem dX6_readChoice_6 : decode cX6_readChoice 6 = .ok (.aload_n 2, 1) := by decide +kernel
theorem dX6_readChoice_7 : decode cX6_readChoice 7 = .ok (.astore_n 3, 1) := by decide +kernel
theorem dX6_readChoice_8 : decode cX6_readChoice 8 = .ok (.iconst 0, 1) := by decide +kernel
theorem dX6_readChoice_9 : decode cX6_readChoice 9 = .ok (.istore 4, 2) := by decide +kernel
theorem dX6_readChoice_11 : decode cX6_readChoice 11 = .ok (.iload 4, 2) := by decide +kernel
theorem dX6_readChoice_13 : decode cX6_readChoice 13 = .ok (.bipush 24, 2) := by decide +kernel
theorem dX6_readChoice_15 : decode cX6_readChoice 15 = .ok (.if_icmp .ge 38, 3) := by decide +kernel
theorem dX6_readChoice_18 : decode cX6_readChoice 18 = .ok (.aload_n 3, 1) := by decide +kernel
theorem dX6_readChoice_19 : decode cX6_readChoice 19 = .ok (.ifnull 34, 3) := by decide +kernel
theorem dX6_readChoice_22 : decode cX6_readChoice 22 = .ok (.aload_n 0, 1) := by decide +kernel
theorem dX6_readChoice_23 : decode cX6_readChoice 23 = .ok (.bipush 47, 2) := by decide +kernel
theorem dX6_readChoice_25 : decode cX6_readChoice 25 = .ok (.invokevirtual 38, 3) := by decide +kernel
theorem dX6_readChoice_28 : decode cX6_readChoice 28 = .ok (.ifCond .eq 25, 3) := by decide +kernel
theorem dX6_readChoice_31 : decode cX6_readChoice 31 = .ok (.aload_n 0, 1) := by decide +kernel
theorem dX6_readChoice_32 : decode cX6_readChoice 32 = .ok (.iload_n 1, 1) := by decide +kernel
theorem dX6_readChoice_33 : decode cX6_readChoice 33 = .ok (.invokevirtual 49, 3) := by decide +kernel
theorem dX6_readChoice_36 : decode cX6_readChoice 36 = .ok (.astore 5, 2) := by decide +kernel
theorem dX6_readChoice_38 : decode cX6_readChoice 38 = .ok (.aload_n 3, 1) := by decide +kernel
theorem dX6_readChoice_39 : decode cX6_readChoice 39 = .ok (.aload 5, 2) := by decide +kernel
theorem dX6_readChoice_41 : decode cX6_readChoice 41 = .ok (.putfield 52, 3) := by decide +kernel
theorem dX6_readChoice_44 : decode cX6_readChoice 44 = .ok (.aload 5, 2) := by decide +kernel
theorem dX6_readChoice_46 : decode cX6_readChoice 46 = .ok (.astore_n 3, 1) := by decide +kernel
theorem dX6_readChoice_47 : decode cX6_readChoice 47 = .ok (.iinc 4 1, 3) := by decide +kernel
theorem dX6_readChoice_50 : decode cX6_readChoice 50 = .ok (.goto (-39), 3) := by decide +kernel
theorem dX6_readChoice_53 : decode cX6_readChoice 53 = .ok (.aload_n 3, 1) := by decide +kernel
theorem dX6_readChoice_54 : decode cX6_readChoice 54 = .ok (.ifnull 8, 3) := by decide +kernel
theorem dX6_readChoice_57 : decode cX6_readChoice 57 = .ok (.aload_n 3, 1) := by decide +kernel
theorem dX6_readChoice_58 : decode cX6_readChoice 58 = .ok (.aload_n 2, 1) := by decide +kernel
theorem dX6_readChoice_59 : decode cX6_readChoice 59 = .ok (.if_acmp .ne 5, 3) := by decide +kernel
theorem dX6_readChoice_62 : decode cX6_readChoice 62 = .ok (.aload_n 3, 1) := by decide +kernel
theorem dX6_readChoice_63 : decode cX6_readChoice 63 = .ok (.areturn, 1) := by decide +kernel
theorem dX6_readChoice_64 : decode cX6_readChoice 64 = .ok (.aload_n 0, 1) := by decide +kernel
theorem dX6_readChoice_65 : decode cX6_readChoice 65 = .ok (.getfield 18, 3) := by decide +kernel
theorem dX6_readChoice_68 : decode cX6_readChoice 68 = .ok (.iconst 4, 1) := by decide +kernel
theorem dX6_readChoice_69 : decode cX6_readChoice 69 = .ok (.iconst 0, 1) := by decide +kernel
theorem dX6_readChoice_70 : decode cX6_readChoice 70 = .ok (.iconst 0, 1) := by decide +kernel
theorem dX6_readChoice_71 : decode cX6_readChoice 71 = .ok (.aload_n 2, 1) := by decide +kernel
theorem dX6_readChoice_72 : decode cX6_readChoice 72 = .ok (.invokevirtual 58, 3) := by decide +kernel
theorem dX6_readChoice_75 : decode cX6_readChoice 75 = .ok (.areturn, 1) := by decide +kernel
theorem dX6_readRow_0 : decode cX6_readRow 0 = .ok (.aload_n 0, 1) := by decide +kernel
theorem dX6_readRow_1 : decode cX6_readRow 1 = .ok (.iload_n 1, 1) := by decide +kernel
theorem dX6_readRow_2 : decode cX6_readRow 2 = .ok (.invokevirtual 62, 3) := by decide +kernel
theorem dX6_readRow_5 : decode cX6_readRow 5 = .ok (.astore_n 2, 1) := by decide +kernel
theorem dX6_readRow_6 : decode cX6_readRow 6 = .ok (.aload_n 2, 1) := by decide +kernel
theorem dX6_readRow_7 : decode cX6_readRow 7 = .ok (.astore_n 3, 1) := by decide +kernel
theorem dX6_readRow_8 : decode cX6_readRow 8 = .ok (.iconst 0, 1) := by decide +kernel
theorem dX6_readRow_9 : decode cX6_readRow 9 = .ok (.istore 4, 2) := by decide +kernel
theorem dX6_readRow_11 : decode cX6_readRow 11 = .ok (.iload 4, 2) := by decide +kernel
theorem dX6_readRow_13 : decode cX6_readRow 13 = .ok (.bipush 24, 2) := by decide +kernel
theorem dX6_readRow_15 : decode cX6_readRow 15 = .ok (.if_icmp .ge 46, 3) := by decide +kernel
theorem dX6_readRow_18 : decode cX6_readRow 18 = .ok (.aload_n 3, 1) := by decide +kernel
theorem dX6_readRow_19 : decode cX6_readRow 19 = .ok (.ifnull 42, 3) := by decide +kernel
theorem dX6_readRow_22 : decode cX6_readRow 22 = .ok (.aload_n 0, 1) := by decide +kernel
theorem dX6_readRow_23 : decode cX6_readRow 23 = .ok (.getfield 9, 3) := by decide +kernel
theorem dX6_readRow_26 : decode cX6_readRow 26 = .ok (.aload_n 0, 1) := by decide +kernel
theorem dX6_readRow_27 : decode cX6_readRow 27 = .ok (.getfield 22, 3) := by decide +kernel
theorem dX6_readRow_30 : decode cX6_readRow 30 = .ok (.invokevirtual 29, 3) := by decide +kernel
theorem dX6_readRow_33 : decode cX6_readRow 33 = .ok (.invokestatic 65, 3) := by decide +kernel
theorem dX6_readRow_36 : decode cX6_readRow 36 = .ok (.ifCond .eq 25, 3) := by decide +kernel
theorem dX6_readRow_39 : decode cX6_readRow 39 = .ok (.aload_n 0, 1) := by decide +kernel
theorem dX6_readRow_40 : decode cX6_readRow 40 = .ok (.iload_n 1, 1) := by decide +kernel
theorem dX6_readRow_41 : decode cX6_readRow 41 = .ok (.invokevirtual 62, 3) := by decide +kernel
theorem dX6_readRow_44 : decode cX6_readRow 44 = .ok (.astore 5, 2) := by decide +kernel
theorem dX6_readRow_46 : decode cX6_readRow 46 = .ok (.aload_n 3, 1) := by decide +kernel
theorem dX6_readRow_47 : decode cX6_readRow 47 = .ok (.aload 5, 2) := by decide +kernel
theorem dX6_readRow_49 : decode cX6_readRow 49 = .ok (.putfield 52, 3) := by decide +kernel
theorem dX6_readRow_52 : decode cX6_readRow 52 = .ok (.aload 5, 2) := by decide +kernel
theorem dX6_readRow_54 : decode cX6_readRow 54 = .ok (.astore_n 3, 1) := by decide +kernel
theorem dX6_readRow_55 : decode cX6_readRow 55 = .ok (.iinc 4 1, 3) := by decide +kernel
theorem dX6_readRow_58 : decode cX6_readRow 58 = .ok (.goto (-47), 3) := by decide +kernel
theorem dX6_readRow_61 : decode cX6_readRow 61 = .ok (.aload_n 3, 1) := by decide +kernel
theorem dX6_readRow_62 : decode cX6_readRow 62 = .ok (.ifnull 8, 3) := by decide +kernel
theorem dX6_readRow_65 : decode cX6_readRow 65 = .ok (.aload_n 3, 1) := by decide +kernel
theorem dX6_readRow_66 : decode cX6_readRow 66 = .ok (.aload_n 2, 1) := by decide +kernel
theorem dX6_readRow_67 : decode cX6_readRow 67 = .ok (.if_acmp .ne 5, 3) := by decide +kernel
theorem dX6_readRow_70 : decode cX6_readRow 70 = .ok (.aload_n 3, 1) := by decide +kernel
theorem dX6_readRow_71 : decode cX6_readRow 71 = .ok (.areturn, 1) := by decide +kernel
theorem dX6_readRow_72 : decode cX6_readRow 72 = .ok (.aload_n 0, 1) := by decide +kernel
theorem dX6_readRow_73 : decode cX6_readRow 73 = .ok (.getfield 18, 3) := by decide +kernel
theorem dX6_readRow_76 : decode cX6_readRow 76 = .ok (.iconst 3, 1) := by decide +kernel
theorem dX6_readRow_77 : decode cX6_readRow 77 = .ok (.iconst 0, 1) := by decide +kernel
theorem dX6_readRow_78 : decode cX6_readRow 78 = .ok (.iconst 0, 1) := by decide +kernel
theorem dX6_readRow_79 : decode cX6_readRow 79 = .ok (.aload_n 2, 1) := by decide +kernel
theorem dX6_readRow_80 : decode cX6_readRow 80 = .ok (.invokevirtual 58, 3) := by decide +kernel
theorem dX6_readRow_83 : decode cX6_readRow 83 = .ok (.areturn, 1) := by decide +kernel
theorem dX6_readPart_0 : decode cX6_readPart 0 = .ok (.aload_n 0, 1) := by decide +kernel
theorem dX6_readPart_1 : decode cX6_readPart 1 = .ok (.getfield 9, 3) := by decide +kernel
theorem dX6_readPart_4 : decode cX6_readPart 4 = .ok (.aload_n 0, 1) := by decide +kernel
theorem dX6_readPart_5 : decode cX6_readPart 5 = .ok (.getfield 22, 3) := by decide +kernel
theorem dX6_readPart_8 : decode cX6_readPart 8 = .ok (.invokevirtual 29, 3) := by decide +kernel
theorem dX6_readPart_11 : decode cX6_readPart 11 = .ok (.invokestatic 68, 3) := by decide +kernel
theorem dX6_readPart_14 : decode cX6_readPart 14 = .ok (.istore_n 2, 1) := by decide +kernel
theorem dX6_readPart_15 : decode cX6_readPart 15 = .ok (.iload_n 2, 1) := by decide +kernel
theorem dX6_readPart_16 : decode cX6_readPart 16 = .ok (.ifCond .eq 13, 3) := by decide +kernel
theorem dX6_readPart_19 : decode cX6_readPart 19 = .ok (.aload_n 0, 1) := by decide +kernel
theorem dX6_readPart_20 : decode cX6_readPart 20 = .ok (.dup, 1) := by decide +kernel
theorem dX6_readPart_21 : decode cX6_readPart 21 = .ok (.getfield 22, 3) := by decide +kernel
theorem dX6_readPart_24 : decode cX6_readPart 24 = .ok (.iconst 1, 1) := by decide +kernel
theorem dX6_readPart_25 : decode cX6_readPart 25 = .ok (.iadd, 1) := by decide +kernel
theorem dX6_readPart_26 : decode cX6_readPart 26 = .ok (.putfield 22, 3) := by decide +kernel
theorem dX6_readPart_29 : decode cX6_readPart 29 = .ok (.aload_n 0, 1) := by decide +kernel
theorem dX6_readPart_30 : decode cX6_readPart 30 = .ok (.iload_n 1, 1) := by decide +kernel
theorem dX6_readPart_31 : decode cX6_readPart 31 = .ok (.invokevirtual 72, 3) := by decide +kernel
theorem dX6_readPart_34 : decode cX6_readPart 34 = .ok (.astore_n 3, 1) := by decide +kernel
theorem dX6_readPart_35 : decode cX6_readPart 35 = .ok (.aload_n 3, 1) := by decide +kernel
theorem dX6_readPart_36 : decode cX6_readPart 36 = .ok (.ifnonnull 5, 3) := by decide +kernel
theorem dX6_readPart_39 : decode cX6_readPart 39 = .ok (.aconst_null, 1) := by decide +kernel
theorem dX6_readPart_40 : decode cX6_readPart 40 = .ok (.areturn, 1) := by decide +kernel
theorem dX6_readPart_41 : decode cX6_readPart 41 = .ok (.aload_n 0, 1) := by decide +kernel
theorem dX6_readPart_42 : decode cX6_readPart 42 = .ok (.getfield 9, 3) := by decide +kernel
theorem dX6_readPart_45 : decode cX6_readPart 45 = .ok (.aload_n 0, 1) := by decide +kernel
theorem dX6_readPart_46 : decode cX6_readPart 46 = .ok (.getfield 22, 3) := by decide +kernel
theorem dX6_readPart_49 : decode cX6_readPart 49 = .ok (.invokevirtual 29, 3) := by decide +kernel
theorem dX6_readPart_52 : decode cX6_readPart 52 = .ok (.invokestatic 75, 3) := by decide +kernel
theorem dX6_readPart_55 : decode cX6_readPart 55 = .ok (.istore 4, 2) := by decide +kernel
theorem dX6_readPart_57 : decode cX6_readPart 57 = .ok (.iload 4, 2) := by decide +kernel
theorem dX6_readPart_59 : decode cX6_readPart 59 = .ok (.ifCond .eq 26, 3) := by decide +kernel
theorem dX6_readPart_62 : decode cX6_readPart 62 = .ok (.aload_n 0, 1) := by decide +kernel
theorem dX6_readPart_63 : decode cX6_readPart 63 = .ok (.dup, 1) := by decide +kernel
theorem dX6_readPart_64 : decode cX6_readPart 64 = .ok (.getfield 22, 3) := by decide +kernel
theorem dX6_readPart_67 : decode cX6_readPart 67 = .ok (.iconst 1, 1) := by decide +kernel
theorem dX6_readPart_68 : decode cX6_readPart 68 = .ok (.iadd, 1) := by decide +kernel
theorem dX6_readPart_69 : decode cX6_readPart 69 = .ok (.putfield 22, 3) := by decide +kernel
theorem dX6_readPart_72 : decode cX6_readPart 72 = .ok (.aload_n 0, 1) := by decide +kernel
theorem dX6_readPart_73 : decode cX6_readPart 73 = .ok (.getfield 18, 3) := by decide +kernel
theorem dX6_readPart_76 : decode cX6_readPart 76 = .ok (.iload 4, 2) := by decide +kernel
theorem dX6_readPart_78 : decode cX6_readPart 78 = .ok (.iconst 0, 1) := by decide +kernel
theorem dX6_readPart_79 : decode cX6_readPart 79 = .ok (.iconst 0, 1) := by decide +kernel
theorem dX6_readPart_80 : decode cX6_readPart 80 = .ok (.aload_n 3, 1) := by decide +kernel
theorem dX6_readPart_81 : decode cX6_readPart 81 = .ok (.invokevirtual 58, 3) := by decide +kernel
theorem dX6_readPart_84 : decode cX6_readPart 84 = .ok (.astore_n 3, 1) := by decide +kernel
theorem dX6_readPart_85 : decode cX6_readPart 85 = .ok (.iload_n 2, 1) := by decide +kernel
theorem dX6_readPart_86 : decode cX6_readPart 86 = .ok (.ifCond .ne 7, 3) := by decide +kernel
theorem dX6_readPart_89 : decode cX6_readPart 89 = .ok (.aload_n 3, 1) := by decide +kernel
theorem dX6_readPart_90 : decode cX6_readPart 90 = .ok (.goto 14, 3) := by decide +kernel
theorem dX6_readPart_93 : decode cX6_readPart 93 = .ok (.aload_n 0, 1) := by decide +kernel
theorem dX6_readPart_94 : decode cX6_readPart 94 = .ok (.getfield 18, 3) := by decide +kernel
theorem dX6_readPart_97 : decode cX6_readPart 97 = .ok (.iload_n 2, 1) := by decide +kernel
theorem dX6_readPart_98 : decode cX6_readPart 98 = .ok (.iconst 0, 1) := by decide +kernel
theorem dX6_readPart_99 : decode cX6_readPart 99 = .ok (.iconst 0, 1) := by decide +kernel
theorem dX6_readPart_100 : decode cX6_readPart 100 = .ok (.aload_n 3, 1) := by decide +kernel
theorem dX6_readPart_101 : decode cX6_readPart 101 = .ok (.invokevirtual 58, 3) := by decide +kernel
theorem dX6_readPart_104 : decode cX6_readPart 104 = .ok (.areturn, 1) := by decide +kernel
theorem dX6_readUnit_0 : decode cX6_readUnit 0 = .ok (.aload_n 0, 1) := by decide +kernel
theorem dX6_readUnit_1 : decode cX6_readUnit 1 = .ok (.getfield 9, 3) := by decide +kernel
theorem dX6_readUnit_4 : decode cX6_readUnit 4 = .ok (.aload_n 0, 1) := by decide +kernel
theorem dX6_readUnit_5 : decode cX6_readUnit 5 = .ok (.getfield 22, 3) := by decide +kernel
theorem dX6_readUnit_8 : decode cX6_readUnit 8 = .ok (.invokevirtual 29, 3) := by decide +kernel
theorem dX6_readUnit_11 : decode cX6_readUnit 11 = .ok (.istore_n 2, 1) := by decide +kernel
theorem dX6_readUnit_12 : decode cX6_readUnit 12 = .ok (.iload_n 2, 1) := by decide +kernel
theorem dX6_readUnit_13 : decode cX6_readUnit 13 = .ok (.bipush 91, 2) := by decide +kernel
theorem dX6_readUnit_15 : decode cX6_readUnit 15 = .ok (.if_icmp .ne 8, 3) := by decide +kernel
theorem dX6_readUnit_18 : decode cX6_readUnit 18 = .ok (.aload_n 0, 1) := by decide +kernel
theorem dX6_readUnit_19 : decode cX6_readUnit 19 = .ok (.invokevirtual 78, 3) := by decide +kernel
theorem dX6_readUnit_22 : decode cX6_readUnit 22 = .ok (.areturn, 1) := by decide +kernel
theorem dX6_readUnit_23 : decode cX6_readUnit 23 = .ok (.iload_n 2, 1) := by decide +kernel
theorem dX6_readUnit_24 : decode cX6_readUnit 24 = .ok (.bipush 40, 2) := by decide +kernel
theorem dX6_readUnit_26 : decode cX6_readUnit 26 = .ok (.if_icmp .ne 20, 3) := by decide +kernel
theorem dX6_readUnit_29 : decode cX6_readUnit 29 = .ok (.iload_n 1, 1) := by decide +kernel
theorem dX6_readUnit_30 : decode cX6_readUnit 30 = .ok (.iconst 4, 1) := by decide +kernel
theorem dX6_readUnit_31 : decode cX6_readUnit 31 = .ok (.if_icmp .ge 13, 3) := by decide +kernel
theorem dX6_readUnit_34 : decode cX6_readUnit 34 = .ok (.aload_n 0, 1) := by decide +kernel
theorem dX6_readUnit_35 : decode cX6_readUnit 35 = .ok (.iload_n 1, 1) := by decide +kernel
theorem dX6_readUnit_36 : decode cX6_readUnit 36 = .ok (.iconst 1, 1) := by decide +kernel
theorem dX6_readUnit_37 : decode cX6_readUnit 37 = .ok (.iadd, 1) := by decide +kernel
theorem dX6_readUnit_38 : decode cX6_readUnit 38 = .ok (.invokevirtual 82, 3) := by decide +kernel
theorem dX6_readUnit_41 : decode cX6_readUnit 41 = .ok (.goto 4, 3) := by decide +kernel
theorem dX6_readUnit_44 : decode cX6_readUnit 44 = .ok (.aconst_null, 1) := by decide +kernel
theorem dX6_readUnit_45 : decode cX6_readUnit 45 = .ok (.areturn, 1) := by decide +kernel
theorem dX6_readUnit_46 : decode cX6_readUnit 46 = .ok (.iload_n 2, 1) := by decide +kernel
theorem dX6_readUnit_47 : decode cX6_readUnit 47 = .ok (.bipush 46, 2) := by decide +kernel
theorem dX6_readUnit_49 : decode cX6_readUnit 49 = .ok (.if_icmp .ne 27, 3) := by decide +kernel
theorem dX6_readUnit_52 : decode cX6_readUnit 52 = .ok (.aload_n 0, 1) := by decide +kernel
theorem dX6_readUnit_53 : decode cX6_readUnit 53 = .ok (.dup, 1) := by decide +kernel
theorem dX6_readUnit_54 : decode cX6_readUnit 54 = .ok (.getfield 22, 3) := by decide +kernel
theorem dX6_readUnit_57 : decode cX6_readUnit 57 = .ok (.iconst 1, 1) := by decide +kernel
theorem dX6_readUnit_58 : decode cX6_readUnit 58 = .ok (.iadd, 1) := by decide +kernel
theorem dX6_readUnit_59 : decode cX6_readUnit 59 = .ok (.putfield 22, 3) := by decide +kernel
theorem dX6_readUnit_62 : decode cX6_readUnit 62 = .ok (.aload_n 0, 1) := by decide +kernel
theorem dX6_readUnit_63 : decode cX6_readUnit 63 = .ok (.getfield 18, 3) := by decide +kernel
theorem dX6_readUnit_66 : decode cX6_readUnit 66 = .ok (.iconst 1, 1) := by decide +kernel
theorem dX6_readUnit_67 : decode cX6_readUnit 67 = .ok (.bipush 97, 2) := by decide +kernel
theorem dX6_readUnit_69 : decode cX6_readUnit 69 = .ok (.bipush 105, 2) := by decide +kernel
theorem dX6_readUnit_71 : decode cX6_readUnit 71 = .ok (.aconst_null, 1) := by decide +kernel
theorem dX6_readUnit_72 : decode cX6_readUnit 72 = .ok (.invokevirtual 58, 3) := by decide +kernel
theorem dX6_readUnit_75 : decode cX6_readUnit 75 = .ok (.areturn, 1) := by decide +kernel
theorem dX6_readUnit_76 : decode cX6_readUnit 76 = .ok (.iload_n 2, 1) := by decide +kernel
theorem dX6_readUnit_77 : decode cX6_readUnit 77 = .ok (.invokestatic 85, 3) := by decide +kernel
theorem dX6_readUnit_80 : decode cX6_readUnit 80 = .ok (.ifCond .eq 25, 3) := by decide +kernel
theorem dX6_readUnit_83 : decode cX6_readUnit 83 = .ok (.aload_n 0, 1) := by decide +kernel
theorem dX6_readUnit_84 : decode cX6_readUnit 84 = .ok (.dup, 1) := by decide +kernel
theorem dX6_readUnit_85 : decode cX6_readUnit 85 = .ok (.getfield 22, 3) := by decide +kernel
theorem dX6_readUnit_88 : decode cX6_readUnit 88 = .ok (.iconst 1, 1) := by decide +kernel
theorem dX6_readUnit_89 : decode cX6_readUnit 89 = .ok (.iadd, 1) := by decide +kernel
theorem dX6_readUnit_90 : decode cX6_readUnit 90 = .ok (.putfield 22, 3) := by decide +kernel
theorem dX6_readUnit_93 : decode cX6_readUnit 93 = .ok (.aload_n 0, 1) := by decide +kernel
theorem dX6_readUnit_94 : decode cX6_readUnit 94 = .ok (.getfield 18, 3) := by decide +kernel
theorem dX6_readUnit_97 : decode cX6_readUnit 97 = .ok (.iconst 1, 1) := by decide +kernel
theorem dX6_readUnit_98 : decode cX6_readUnit 98 = .ok (.iload_n 2, 1) := by decide +kernel
theorem dX6_readUnit_99 : decode cX6_readUnit 99 = .ok (.iload_n 2, 1) := by decide +kernel
theorem dX6_readUnit_100 : decode cX6_readUnit 100 = .ok (.aconst_null, 1) := by decide +kernel
theorem dX6_readUnit_101 : decode cX6_readUnit 101 = .ok (.invokevirtual 58, 3) := by decide +kernel
theorem dX6_readUnit_104 : decode cX6_readUnit 104 = .ok (.areturn, 1) := by decide +kernel
theorem dX6_readUnit_105 : decode cX6_readUnit 105 = .ok (.iload_n 2, 1) := by decide +kernel
theorem dX6_readUnit_106 : decode cX6_readUnit 106 = .ok (.invokestatic 34, 3) := by decide +kernel
theorem dX6_readUnit_109 : decode cX6_readUnit 109 = .ok (.ifCond .eq 28, 3) := by decide +kernel
theorem dX6_readUnit_112 : decode cX6_readUnit 112 = .ok (.aload_n 0, 1) := by decide +kernel
theorem dX6_readUnit_113 : decode cX6_readUnit 113 = .ok (.dup, 1) := by decide +kernel
theorem dX6_readUnit_114 : decode cX6_readUnit 114 = .ok (.getfield 22, 3) := by decide +kernel
theorem dX6_readUnit_117 : decode cX6_readUnit 117 = .ok (.iconst 1, 1) := by decide +kernel
theorem dX6_readUnit_118 : decode cX6_readUnit 118 = .ok (.iadd, 1) := by decide +kernel
theorem dX6_readUnit_119 : decode cX6_readUnit 119 = .ok (.putfield 22, 3) := by decide +kernel
theorem dX6_readUnit_122 : decode cX6_readUnit 122 = .ok (.aload_n 0, 1) := by decide +kernel
theorem dX6_readUnit_123 : decode cX6_readUnit 123 = .ok (.getfield 18, 3) := by decide +kernel
theorem dX6_readUnit_126 : decode cX6_readUnit 126 = .ok (.iconst 2, 1) := by decide +kernel
theorem dX6_readUnit_127 : decode cX6_readUnit 127 = .ok (.iload_n 2, 1) := by decide +kernel
theorem dX6_readUnit_128 : decode cX6_readUnit 128 = .ok (.bipush 65, 2) := by decide +kernel
theorem dX6_readUnit_130 : decode cX6_readUnit 130 = .ok (.isub, 1) := by decide +kernel
theorem dX6_readUnit_131 : decode cX6_readUnit 131 = .ok (.iconst 0, 1) := by decide +kernel
theorem dX6_readUnit_132 : decode cX6_readUnit 132 = .ok (.aconst_null, 1) := by decide +kernel
theorem dX6_readUnit_133 : decode cX6_readUnit 133 = .ok (.invokevirtual 58, 3) := by decide +kernel
theorem dX6_readUnit_136 : decode cX6_readUnit 136 = .ok (.areturn, 1) := by decide +kernel
theorem dX6_readUnit_137 : decode cX6_readUnit 137 = .ok (.aconst_null, 1) := by decide +kernel
theorem dX6_readUnit_138 : decode cX6_readUnit 138 = .ok (.areturn, 1) := by decide +kernel
theorem dX6_readGroup_0 : decode cX6_readGroup 0 = .ok (.aload_n 0, 1) := by decide +kernel
theorem dX6_readGroup_1 : decode cX6_readGroup 1 = .ok (.dup, 1) := by decide +kernel
theorem dX6_readGroup_2 : decode cX6_readGroup 2 = .ok (.getfield 22, 3) := by decide +kernel
theorem dX6_readGroup_5 : decode cX6_readGroup 5 = .ok (.iconst 1, 1) := by decide +kernel
theorem dX6_readGroup_6 : decode cX6_readGroup 6 = .ok (.iadd, 1) := by decide +kernel
theorem dX6_readGroup_7 : decode cX6_readGroup 7 = .ok (.putfield 22, 3) := by decide +kernel
theorem dX6_readGroup_10 : decode cX6_readGroup 10 = .ok (.aload_n 0, 1) := by decide +kernel
theorem dX6_readGroup_11 : decode cX6_readGroup 11 = .ok (.iload_n 1, 1) := by decide +kernel
theorem dX6_readGroup_12 : decode cX6_readGroup 12 = .ok (.invokevirtual 41, 3) := by decide +kernel
theorem dX6_readGroup_15 : decode cX6_readGroup 15 = .ok (.astore_n 2, 1) := by decide +kernel
theorem dX6_readGroup_16 : decode cX6_readGroup 16 = .ok (.aload_n 2, 1) := by decide +kernel
theorem dX6_readGroup_17 : decode cX6_readGroup 17 = .ok (.ifnull 16, 3) := by decide +kernel
theorem dX6_readGroup_20 : decode cX6_readGroup 20 = .ok (.aload_n 0, 1) := by decide +kernel
theorem dX6_readGroup_21 : decode cX6_readGroup 21 = .ok (.bipush 41, 2) := by decide +kernel
theorem dX6_readGroup_23 : decode cX6_readGroup 23 = .ok (.invokevirtual 38, 3) := by decide +kernel
theorem dX6_readGroup_26 : decode cX6_readGroup 26 = .ok (.ifCond .eq 7, 3) := by decide +kernel
theorem dX6_readGroup_29 : decode cX6_readGroup 29 = .ok (.aload_n 2, 1) := by decide +kernel
theorem dX6_readGroup_30 : decode cX6_readGroup 30 = .ok (.goto 4, 3) := by decide +kernel
theorem dX6_readGroup_33 : decode cX6_readGroup 33 = .ok (.aconst_null, 1) := by decide +kernel
theorem dX6_readGroup_34 : decode cX6_readGroup 34 = .ok (.areturn, 1) := by decide +kernel
theorem dX6_readRange_0 : decode cX6_readRange 0 = .ok (.aload_n 0, 1) := by decide +kernel
theorem dX6_readRange_1 : decode cX6_readRange 1 = .ok (.dup, 1) := by decide +kernel
theorem dX6_readRange_2 : decode cX6_readRange 2 = .ok (.getfield 22, 3) := by decide +kernel
theorem dX6_readRange_5 : decode cX6_readRange 5 = .ok (.iconst 1, 1) := by decide +kernel
theorem dX6_readRange_6 : decode cX6_readRange 6 = .ok (.iadd, 1) := by decide +kernel
theorem dX6_readRange_7 : decode cX6_readRange 7 = .ok (.putfield 22, 3) := by decide +kernel
theorem dX6_readRange_10 : decode cX6_readRange 10 = .ok (.aload_n 0, 1) := by decide +kernel
theorem dX6_readRange_11 : decode cX6_readRange 11 = .ok (.getfield 9, 3) := by decide +kernel
theorem dX6_readRange_14 : decode cX6_readRange 14 = .ok (.aload_n 0, 1) := by decide +kernel
theorem dX6_readRange_15 : decode cX6_readRange 15 = .ok (.getfield 22, 3) := by decide +kernel
theorem dX6_readRange_18 : decode cX6_readRange 18 = .ok (.invokevirtual 29, 3) := by decide +kernel
theorem dX6_readRange_21 : decode cX6_readRange 21 = .ok (.istore_n 1, 1) := by decide +kernel
theorem dX6_readRange_22 : decode cX6_readRange 22 = .ok (.iload_n 1, 1) := by decide +kernel
theorem dX6_readRange_23 : decode cX6_readRange 23 = .ok (.invokestatic 85, 3) := by decide +kernel
theorem dX6_readRange_26 : decode cX6_readRange 26 = .ok (.ifCond .ne 5, 3) := by decide +kernel
theorem dX6_readRange_29 : decode cX6_readRange 29 = .ok (.aconst_null, 1) := by decide +kernel
theorem dX6_readRange_30 : decode cX6_readRange 30 = .ok (.areturn, 1) := by decide +kernel
theorem dX6_readRange_31 : decode cX6_readRange 31 = .ok (.aload_n 0, 1) := by decide +kernel
theorem dX6_readRange_32 : decode cX6_readRange 32 = .ok (.dup, 1) := by decide +kernel
theorem dX6_readRange_33 : decode cX6_readRange 33 = .ok (.getfield 22, 3) := by decide +kernel
theorem dX6_readRange_36 : decode cX6_readRange 36 = .ok (.iconst 1, 1) := by decide +kernel
theorem dX6_readRange_37 : decode cX6_readRange 37 = .ok (.iadd, 1) := by decide +kernel
theorem dX6_readRange_38 : decode cX6_readRange 38 = .ok (.putfield 22, 3) := by decide +kernel
theorem dX6_readRange_41 : decode cX6_readRange 41 = .ok (.aload_n 0, 1) := by decide +kernel
theorem dX6_readRange_42 : decode cX6_readRange 42 = .ok (.bipush 45, 2) := by decide +kernel
theorem dX6_readRange_44 : decode cX6_readRange 44 = .ok (.invokevirtual 38, 3) := by decide +kernel
theorem dX6_readRange_47 : decode cX6_readRange 47 = .ok (.ifCond .ne 5, 3) := by decide +kernel
theorem dX6_readRange_50 : decode cX6_readRange 50 = .ok (.aconst_null, 1) := by decide +kernel
theorem dX6_readRange_51 : decode cX6_readRange 51 = .ok (.areturn, 1) := by decide +kernel
theorem dX6_readRange_52 : decode cX6_readRange 52 = .ok (.aload_n 0, 1) := by decide +kernel
theorem dX6_readRange_53 : decode cX6_readRange 53 = .ok (.getfield 9, 3) := by decide +kernel
theorem dX6_readRange_56 : decode cX6_readRange 56 = .ok (.aload_n 0, 1) := by decide +kernel
theorem dX6_readRange_57 : decode cX6_readRange 57 = .ok (.getfield 22, 3) := by decide +kernel
theorem dX6_readRange_60 : decode cX6_readRange 60 = .ok (.invokevirtual 29, 3) := by decide +kernel
theorem dX6_readRange_63 : decode cX6_readRange 63 = .ok (.istore_n 2, 1) := by decide +kernel
theorem dX6_readRange_64 : decode cX6_readRange 64 = .ok (.iload_n 2, 1) := by decide +kernel
theorem dX6_readRange_65 : decode cX6_readRange 65 = .ok (.invokestatic 85, 3) := by decide +kernel
theorem dX6_readRange_68 : decode cX6_readRange 68 = .ok (.ifCond .eq 8, 3) := by decide +kernel
theorem dX6_readRange_71 : decode cX6_readRange 71 = .ok (.iload_n 2, 1) := by decide +kernel
theorem dX6_readRange_72 : decode cX6_readRange 72 = .ok (.iload_n 1, 1) := by decide +kernel
theorem dX6_readRange_73 : decode cX6_readRange 73 = .ok (.if_icmp .ge 5, 3) := by decide +kernel
theorem dX6_readRange_76 : decode cX6_readRange 76 = .ok (.aconst_null, 1) := by decide +kernel
theorem dX6_readRange_77 : decode cX6_readRange 77 = .ok (.areturn, 1) := by decide +kernel
theorem dX6_readRange_78 : decode cX6_readRange 78 = .ok (.aload_n 0, 1) := by decide +kernel
theorem dX6_readRange_79 : decode cX6_readRange 79 = .ok (.dup, 1) := by decide +kernel
theorem dX6_readRange_80 : decode cX6_readRange 80 = .ok (.getfield 22, 3) := by decide +kernel
theorem dX6_readRange_83 : decode cX6_readRange 83 = .ok (.iconst 1, 1) := by decide +kernel
theorem dX6_readRange_84 : decode cX6_readRange 84 = .ok (.iadd, 1) := by decide +kernel
theorem dX6_readRange_85 : decode cX6_readRange 85 = .ok (.putfield 22, 3) := by decide +kernel
theorem dX6_readRange_88 : decode cX6_readRange 88 = .ok (.aload_n 0, 1) := by decide +kernel
theorem dX6_readRange_89 : decode cX6_readRange 89 = .ok (.bipush 93, 2) := by decide +kernel
theorem dX6_readRange_91 : decode cX6_readRange 91 = .ok (.invokevirtual 38, 3) := by decide +kernel
theorem dX6_readRange_94 : decode cX6_readRange 94 = .ok (.ifCond .eq 17, 3) := by decide +kernel
theorem dX6_readRange_97 : decode cX6_readRange 97 = .ok (.aload_n 0, 1) := by decide +kernel
theorem dX6_readRange_98 : decode cX6_readRange 98 = .ok (.getfield 18, 3) := by decide +kernel
theorem dX6_readRange_101 : decode cX6_readRange 101 = .ok (.iconst 1, 1) := by decide +kernel
theorem dX6_readRange_102 : decode cX6_readRange 102 = .ok (.iload_n 1, 1) := by decide +kernel
theorem dX6_readRange_103 : decode cX6_readRange 103 = .ok (.iload_n 2, 1) := by decide +kernel
theorem dX6_readRange_104 : decode cX6_readRange 104 = .ok (.aconst_null, 1) := by decide +kernel
theorem dX6_readRange_105 : decode cX6_readRange 105 = .ok (.invokevirtual 58, 3) := by decide +kernel
theorem dX6_readRange_108 : decode cX6_readRange 108 = .ok (.goto 4, 3) := by decide +kernel
theorem dX6_readRange_111 : decode cX6_readRange 111 = .ok (.aconst_null, 1) := by decide +kernel
theorem dX6_readRange_112 : decode cX6_readRange 112 = .ok (.areturn, 1) := by decide +kernel
theorem dX6_beginsPart_0 : decode cX6_beginsPart 0 = .ok (.iload_n 0, 1) := by decide +kernel
theorem dX6_beginsPart_1 : decode cX6_beginsPart 1 = .ok (.invokestatic 85, 3) := by decide +kernel
theorem dX6_beginsPart_4 : decode cX6_beginsPart 4 = .ok (.ifCond .ne 35, 3) := by decide +kernel
theorem dX6_beginsPart_7 : decode cX6_beginsPart 7 = .ok (.iload_n 0, 1) := by decide +kernel
theorem dX6_beginsPart_8 : decode cX6_beginsPart 8 = .ok (.invokestatic 34, 3) := by decide +kernel
theorem dX6_beginsPart_11 : decode cX6_beginsPart 11 = .ok (.ifCond .ne 28, 3) := by decide +kernel
theorem dX6_beginsPart_14 : decode cX6_beginsPart 14 = .ok (.iload_n 0, 1) := by decide +kernel
theorem dX6_beginsPart_15 : decode cX6_beginsPart 15 = .ok (.invokestatic 68, 3) := by decide +kernel
theorem dX6_beginsPart_18 : decode cX6_beginsPart 18 = .ok (.ifCond .ne 21, 3) := by decide +kernel
theorem dX6_beginsPart_21 : decode cX6_beginsPart 21 = .ok (.iload_n 0, 1) := by decide +kernel
theorem dX6_beginsPart_22 : decode cX6_beginsPart 22 = .ok (.bipush 46, 2) := by decide +kernel
theorem dX6_beginsPart_24 : decode cX6_beginsPart 24 = .ok (.if_icmp .eq 15, 3) := by decide +kernel
theorem dX6_beginsPart_27 : decode cX6_beginsPart 27 = .ok (.iload_n 0, 1) := by decide +kernel
theorem dX6_beginsPart_28 : decode cX6_beginsPart 28 = .ok (.bipush 91, 2) := by decide +kernel
theorem dX6_beginsPart_30 : decode cX6_beginsPart 30 = .ok (.if_icmp .eq 9, 3) := by decide +kernel
theorem dX6_beginsPart_33 : decode cX6_beginsPart 33 = .ok (.iload_n 0, 1) := by decide +kernel
theorem dX6_beginsPart_34 : decode cX6_beginsPart 34 = .ok (.bipush 40, 2) := by decide +kernel
theorem dX6_beginsPart_36 : decode cX6_beginsPart 36 = .ok (.if_icmp .ne 7, 3) := by decide +kernel
theorem dX6_beginsPart_39 : decode cX6_beginsPart 39 = .ok (.iconst 1, 1) := by decide +kernel
theorem dX6_beginsPart_40 : decode cX6_beginsPart 40 = .ok (.goto 4, 3) := by decide +kernel
theorem dX6_beginsPart_43 : decode cX6_beginsPart 43 = .ok (.iconst 0, 1) := by decide +kernel
theorem dX6_beginsPart_44 : decode cX6_beginsPart 44 = .ok (.ireturn, 1) := by decide +kernel
theorem dX6_signBefore_0 : decode cX6_signBefore 0 = .ok (.iload_n 0, 1) := by decide +kernel
theorem dX6_signBefore_1 : decode cX6_signBefore 1 = .ok (.bipush 38, 2) := by decide +kernel
theorem dX6_signBefore_3 : decode cX6_signBefore 3 = .ok (.if_icmp .ne 6, 3) := by decide +kernel
theorem dX6_signBefore_6 : decode cX6_signBefore 6 = .ok (.bipush 8, 2) := by decide +kernel
theorem dX6_signBefore_8 : decode cX6_signBefore 8 = .ok (.ireturn, 1) := by decide +kernel
theorem dX6_signBefore_9 : decode cX6_signBefore 9 = .ok (.iload_n 0, 1) := by decide +kernel
theorem dX6_signBefore_10 : decode cX6_signBefore 10 = .ok (.bipush 33, 2) := by decide +kernel
theorem dX6_signBefore_12 : decode cX6_signBefore 12 = .ok (.if_icmp .ne 8, 3) := by decide +kernel
theorem dX6_signBefore_15 : decode cX6_signBefore 15 = .ok (.bipush 9, 2) := by decide +kernel
theorem dX6_signBefore_17 : decode cX6_signBefore 17 = .ok (.goto 4, 3) := by decide +kernel
theorem dX6_signBefore_20 : decode cX6_signBefore 20 = .ok (.iconst 0, 1) := by decide +kernel
theorem dX6_signBefore_21 : decode cX6_signBefore 21 = .ok (.ireturn, 1) := by decide +kernel
theorem dX6_signBehind_0 : decode cX6_signBehind 0 = .ok (.iload_n 0, 1) := by decide +kernel
theorem dX6_signBehind_1 : decode cX6_signBehind 1 = .ok (.lookupswitch 43 #[(42, 35), (43, 37), (63, 40)], 35) := by decide +kernel
theorem dX6_signBehind_36 : decode cX6_signBehind 36 = .ok (.iconst 5, 1) := by decide +kernel
theorem dX6_signBehind_37 : decode cX6_signBehind 37 = .ok (.ireturn, 1) := by decide +kernel
theorem dX6_signBehind_38 : decode cX6_signBehind 38 = .ok (.bipush 6, 2) := by decide +kernel
theorem dX6_signBehind_40 : decode cX6_signBehind 40 = .ok (.ireturn, 1) := by decide +kernel
theorem dX6_signBehind_41 : decode cX6_signBehind 41 = .ok (.bipush 7, 2) := by decide +kernel
theorem dX6_signBehind_43 : decode cX6_signBehind 43 = .ok (.ireturn, 1) := by decide +kernel
theorem dX6_signBehind_44 : decode cX6_signBehind 44 = .ok (.iconst 0, 1) := by decide +kernel
theorem dX6_signBehind_45 : decode cX6_signBehind 45 = .ok (.ireturn, 1) := by decide +kernel
theorem dX7_init_0 : decode cX7_init 0 = .ok (.aload_n 0, 1) := by decide +kernel
theorem dX7_init_1 : decode cX7_init 1 = .ok (.invokespecial 3, 3) := by decide +kernel
theorem dX7_init_4 : decode cX7_init 4 = .ok (.aload_n 0, 1) := by decide +kernel
theorem dX7_init_5 : decode cX7_init 5 = .ok (.iconst 4, 1) := by decide +kernel
theorem dX7_init_6 : decode cX7_init 6 = .ok (.bipush 60, 2) := by decide +kernel
theorem dX7_init_8 : decode cX7_init 8 = .ok (.multianewarray 11 2, 4) := by decide +kernel
theorem dX7_init_12 : decode cX7_init 12 = .ok (.putfield 13, 3) := by decide +kernel
theorem dX7_init_15 : decode cX7_init 15 = .ok (.return_, 1) := by decide +kernel
theorem dX7_size_0 : decode cX7_size 0 = .ok (.aload_n 0, 1) := by decide +kernel
theorem dX7_size_1 : decode cX7_size 1 = .ok (.getfield 16, 3) := by decide +kernel
theorem dX7_size_4 : decode cX7_size 4 = .ok (.ireturn, 1) := by decide +kernel
theorem dX7_has_0 : decode cX7_has 0 = .ok (.iload_n 1, 1) := by decide +kernel
theorem dX7_has_1 : decode cX7_has 1 = .ok (.ifCond .lt 24, 3) := by decide +kernel
theorem dX7_has_4 : decode cX7_has 4 = .ok (.iload_n 1, 1) := by decide +kernel
theorem dX7_has_5 : decode cX7_has 5 = .ok (.aload_n 0, 1) := by decide +kernel
theorem dX7_has_6 : decode cX7_has 6 = .ok (.getfield 16, 3) := by decide +kernel
theorem dX7_has_9 : decode cX7_has 9 = .ok (.if_icmp .ge 16, 3) := by decide +kernel
theorem dX7_has_12 : decode cX7_has 12 = .ok (.iload_n 2, 1) := by decide +kernel
theorem dX7_has_13 : decode cX7_has 13 = .ok (.ifCond .lt 12, 3) := by decide +kernel
theorem dX7_has_16 : decode cX7_has 16 = .ok (.iload_n 2, 1) := by decide +kernel
theorem dX7_has_17 : decode cX7_has 17 = .ok (.iconst 4, 1) := by decide +kernel
theorem dX7_has_18 : decode cX7_has 18 = .ok (.if_icmp .ge 7, 3) := by decide +kernel
theorem dX7_has_21 : decode cX7_has 21 = .ok (.iconst 1, 1) := by decide +kernel
theorem dX7_has_22 : decode cX7_has 22 = .ok (.goto 4, 3) := by decide +kernel
theorem dX7_has_25 : decode cX7_has 25 = .ok (.iconst 0, 1) := by decide +kernel
theorem dX7_has_26 : decode cX7_has 26 = .ok (.ireturn, 1) := by decide +kernel
theorem dX7_tell_0 : decode cX7_tell 0 = .ok (.aload_n 0, 1) := by decide +kernel
theorem dX7_tell_1 : decode cX7_tell 1 = .ok (.iload_n 1, 1) := by decide +kernel
theorem dX7_tell_2 : decode cX7_tell 2 = .ok (.iload_n 2, 1) := by decide +kernel
theorem dX7_tell_3 : decode cX7_tell 3 = .ok (.invokevirtual 20, 3) := by decide +kernel
theorem dX7_tell_6 : decode cX7_tell 6 = .ok (.ifCond .eq 20, 3) := by decide +kernel
theorem dX7_tell_9 : decode cX7_tell 9 = .ok (.iload_n 1, 1) := by decide +kernel
theorem dX7_tell_10 : decode cX7_tell 10 = .ok (.bipush 60, 2) := by decide +kernel
theorem dX7_tell_12 : decode cX7_tell 12 = .ok (.if_icmp .ge 14, 3) := by decide +kernel
theorem dX7_tell_15 : decode cX7_tell 15 = .ok (.aload_n 0, 1) := by decide +kernel
theorem dX7_tell_16 : decode cX7_tell 16 = .ok (.getfield 13, 3) := by decide +kernel
theorem dX7_tell_19 : decode cX7_tell 19 = .ok (.iload_n 2, 1) := by decide +kernel
theorem dX7_tell_20 : decode cX7_tell 20 = .ok (.aaload, 1) := by decide +kernel
theorem dX7_tell_21 : decode cX7_tell 21 = .ok (.iload_n 1, 1) := by decide +kernel
theorem dX7_tell_22 : decode cX7_tell 22 = .ok (.iaload, 1) := by decide +kernel
theorem dX7_tell_23 : decode cX7_tell 23 = .ok (.goto 4, 3) := by decide +kernel
theorem dX7_tell_26 : decode cX7_tell 26 = .ok (.iconst (-1), 1) := by decide +kernel
