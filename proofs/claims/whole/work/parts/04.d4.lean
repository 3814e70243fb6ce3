theorem dX9_outcomeOf_39 : decode cX9_outcomeOf 39 = .ok (.goto 21, 3) := by decide +kernel
theorem dX9_outcomeOf_42 : decode cX9_outcomeOf 42 = .ok (.aload_n 0, 1) := by decide +kernel
theorem dX9_outcomeOf_43 : decode cX9_outcomeOf 43 = .ok (.getfield 36, 3) := by decide +kernel
theorem dX9_outcomeOf_46 : decode cX9_outcomeOf 46 = .ok (.bipush 64, 2) := by decide +kernel
theorem dX9_outcomeOf_48 : decode cX9_outcomeOf 48 = .ok (.iload_n 3, 1) := by decide +kernel
theorem dX9_outcomeOf_49 : decode cX9_outcomeOf 49 = .ok (.imul, 1) := by decide +kernel
theorem dX9_outcomeOf_50 : decode cX9_outcomeOf 50 = .ok (.aload_n 0, 1) := by decide +kernel
theorem dX9_outcomeOf_51 : decode cX9_outcomeOf 51 = .ok (.getfield 33, 3) := by decide +kernel
theorem dX9_outcomeOf_54 : decode cX9_outcomeOf 54 = .ok (.iload_n 3, 1) := by decide +kernel
theorem dX9_outcomeOf_55 : decode cX9_outcomeOf 55 = .ok (.iaload, 1) := by decide +kernel
theorem dX9_outcomeOf_56 : decode cX9_outcomeOf 56 = .ok (.iadd, 1) := by decide +kernel
theorem dX9_outcomeOf_57 : decode cX9_outcomeOf 57 = .ok (.iconst 1, 1) := by decide +kernel
theorem dX9_outcomeOf_58 : decode cX9_outcomeOf 58 = .ok (.isub, 1) := by decide +kernel
theorem dX9_outcomeOf_59 : decode cX9_outcomeOf 59 = .ok (.iaload, 1) := by decide +kernel
theorem dX9_outcomeOf_60 : decode cX9_outcomeOf 60 = .ok (.ireturn, 1) := by decide +kernel
theorem dX9_outcomeOf_61 : decode cX9_outcomeOf 61 = .ok (.aload_n 0, 1) := by decide +kernel
theorem dX9_outcomeOf_62 : decode cX9_outcomeOf 62 = .ok (.getfield 36, 3) := by decide +kernel
theorem dX9_outcomeOf_65 : decode cX9_outcomeOf 65 = .ok (.iload_n 2, 1) := by decide +kernel
theorem dX9_outcomeOf_66 : decode cX9_outcomeOf 66 = .ok (.aload_n 0, 1) := by decide +kernel
theorem dX9_outcomeOf_67 : decode cX9_outcomeOf 67 = .ok (.getfield 20, 3) := by decide +kernel
theorem dX9_outcomeOf_70 : decode cX9_outcomeOf 70 = .ok (.iload_n 1, 1) := by decide +kernel
theorem dX9_outcomeOf_71 : decode cX9_outcomeOf 71 = .ok (.iaload, 1) := by decide +kernel
theorem dX9_outcomeOf_72 : decode cX9_outcomeOf 72 = .ok (.iadd, 1) := by decide +kernel
theorem dX9_outcomeOf_73 : decode cX9_outcomeOf 73 = .ok (.iaload, 1) := by decide +kernel
theorem dX9_outcomeOf_74 : decode cX9_outcomeOf 74 = .ok (.istore_n 3, 1) := by decide +kernel
theorem dX9_outcomeOf_75 : decode cX9_outcomeOf 75 = .ok (.aload_n 0, 1) := by decide +kernel
theorem dX9_outcomeOf_76 : decode cX9_outcomeOf 76 = .ok (.getfield 36, 3) := by decide +kernel
theorem dX9_outcomeOf_79 : decode cX9_outcomeOf 79 = .ok (.iload_n 2, 1) := by decide +kernel
theorem dX9_outcomeOf_80 : decode cX9_outcomeOf 80 = .ok (.aload_n 0, 1) := by decide +kernel
theorem dX9_outcomeOf_81 : decode cX9_outcomeOf 81 = .ok (.getfield 23, 3) := by decide +kernel
theorem dX9_outcomeOf_84 : decode cX9_outcomeOf 84 = .ok (.iload_n 1, 1) := by decide +kernel
theorem dX9_outcomeOf_85 : decode cX9_outcomeOf 85 = .ok (.iaload, 1) := by decide +kernel
theorem dX9_outcomeOf_86 : decode cX9_outcomeOf 86 = .ok (.iadd, 1) := by decide +kernel
theorem dX9_outcomeOf_87 : decode cX9_outcomeOf 87 = .ok (.iaload, 1) := by decide +kernel
theorem dX9_outcomeOf_88 : decode cX9_outcomeOf 88 = .ok (.istore 4, 2) := by decide +kernel
theorem dX9_outcomeOf_90 : decode cX9_outcomeOf 90 = .ok (.iload_n 3, 1) := by decide +kernel
theorem dX9_outcomeOf_91 : decode cX9_outcomeOf 91 = .ok (.iconst 4, 1) := by decide +kernel
theorem dX9_outcomeOf_92 : decode cX9_outcomeOf 92 = .ok (.invokestatic 171, 3) := by decide +kernel
theorem dX9_outcomeOf_95 : decode cX9_outcomeOf 95 = .ok (.istore 5, 2) := by decide +kernel
theorem dX9_outcomeOf_97 : decode cX9_outcomeOf 97 = .ok (.aload_n 0, 1) := by decide +kernel
theorem dX9_outcomeOf_98 : decode cX9_outcomeOf 98 = .ok (.getfield 17, 3) := by decide +kernel
theorem dX9_outcomeOf_101 : decode cX9_outcomeOf 101 = .ok (.iload_n 1, 1) := by decide +kernel
theorem dX9_outcomeOf_102 : decode cX9_outcomeOf 102 = .ok (.iaload, 1) := by decide +kernel
theorem dX9_outcomeOf_103 : decode cX9_outcomeOf 103 = .ok (.tableswitch 127 2 7 #[37, 44, 60, 71, 99, 113], 37) := by decide +kernel
theorem dX9_outcomeOf_140 : decode cX9_outcomeOf 140 = .ok (.iload_n 3, 1) := by decide +kernel
theorem dX9_outcomeOf_141 : decode cX9_outcomeOf 141 = .ok (.iload 4, 2) := by decide +kernel
theorem dX9_outcomeOf_143 : decode cX9_outcomeOf 143 = .ok (.invokestatic 179, 3) := by decide +kernel
theorem dX9_outcomeOf_146 : decode cX9_outcomeOf 146 = .ok (.ireturn, 1) := by decide +kernel
theorem dX9_outcomeOf_147 : decode cX9_outcomeOf 147 = .ok (.iload_n 3, 1) := by decide +kernel
theorem dX9_outcomeOf_148 : decode cX9_outcomeOf 148 = .ok (.iconst 3, 1) := by decide +kernel
theorem dX9_outcomeOf_149 : decode cX9_outcomeOf 149 = .ok (.iand, 1) := by decide +kernel
theorem dX9_outcomeOf_150 : decode cX9_outcomeOf 150 = .ok (.iload 5, 2) := by decide +kernel
theorem dX9_outcomeOf_152 : decode cX9_outcomeOf 152 = .ok (.ifCond .eq 8, 3) := by decide +kernel
theorem dX9_outcomeOf_155 : decode cX9_outcomeOf 155 = .ok (.iload 4, 2) := by decide +kernel
theorem dX9_outcomeOf_157 : decode cX9_outcomeOf 157 = .ok (.goto 4, 3) := by decide +kernel
theorem dX9_outcomeOf_160 : decode cX9_outcomeOf 160 = .ok (.iconst 0, 1) := by decide +kernel
theorem dX9_outcomeOf_161 : decode cX9_outcomeOf 161 = .ok (.ior, 1) := by decide +kernel
theorem dX9_outcomeOf_162 : decode cX9_outcomeOf 162 = .ok (.ireturn, 1) := by decide +kernel
theorem dX9_outcomeOf_163 : decode cX9_outcomeOf 163 = .ok (.iload_n 3, 1) := by decide +kernel
theorem dX9_outcomeOf_164 : decode cX9_outcomeOf 164 = .ok (.iconst 2, 1) := by decide +kernel
theorem dX9_outcomeOf_165 : decode cX9_outcomeOf 165 = .ok (.iand, 1) := by decide +kernel
theorem dX9_outcomeOf_166 : decode cX9_outcomeOf 166 = .ok (.iload 5, 2) := by decide +kernel
theorem dX9_outcomeOf_168 : decode cX9_outcomeOf 168 = .ok (.iconst 1, 1) := by decide +kernel
theorem dX9_outcomeOf_169 : decode cX9_outcomeOf 169 = .ok (.invokestatic 175, 3) := by decide +kernel
theorem dX9_outcomeOf_172 : decode cX9_outcomeOf 172 = .ok (.ior, 1) := by decide +kernel
theorem dX9_outcomeOf_173 : decode cX9_outcomeOf 173 = .ok (.ireturn, 1) := by decide +kernel
theorem dX9_outcomeOf_174 : decode cX9_outcomeOf 174 = .ok (.iload_n 3, 1) := by decide +kernel
theorem dX9_outcomeOf_175 : decode cX9_outcomeOf 175 = .ok (.bipush 6, 2) := by decide +kernel
theorem dX9_outcomeOf_177 : decode cX9_outcomeOf 177 = .ok (.iand, 1) := by decide +kernel
theorem dX9_outcomeOf_178 : decode cX9_outcomeOf 178 = .ok (.iload 5, 2) := by decide +kernel
theorem dX9_outcomeOf_180 : decode cX9_outcomeOf 180 = .ok (.ifCond .eq 15, 3) := by decide +kernel
theorem dX9_outcomeOf_183 : decode cX9_outcomeOf 183 = .ok (.iload_n 3, 1) := by decide +kernel
theorem dX9_outcomeOf_184 : decode cX9_outcomeOf 184 = .ok (.iconst 1, 1) := by decide +kernel
theorem dX9_outcomeOf_185 : decode cX9_outcomeOf 185 = .ok (.invokestatic 171, 3) := by decide +kernel
theorem dX9_outcomeOf_188 : decode cX9_outcomeOf 188 = .ok (.ifCond .eq 7, 3) := by decide +kernel
theorem dX9_outcomeOf_191 : decode cX9_outcomeOf 191 = .ok (.iconst 1, 1) := by decide +kernel
theorem dX9_outcomeOf_192 : decode cX9_outcomeOf 192 = .ok (.goto 4, 3) := by decide +kernel
theorem dX9_outcomeOf_195 : decode cX9_outcomeOf 195 = .ok (.iconst 0, 1) := by decide +kernel
theorem dX9_outcomeOf_196 : decode cX9_outcomeOf 196 = .ok (.iconst 1, 1) := by decide +kernel
theorem dX9_outcomeOf_197 : decode cX9_outcomeOf 197 = .ok (.invokestatic 175, 3) := by decide +kernel
theorem dX9_outcomeOf_200 : decode cX9_outcomeOf 200 = .ok (.ior, 1) := by decide +kernel
theorem dX9_outcomeOf_201 : decode cX9_outcomeOf 201 = .ok (.ireturn, 1) := by decide +kernel
theorem dX9_outcomeOf_202 : decode cX9_outcomeOf 202 = .ok (.iload_n 3, 1) := by decide +kernel
theorem dX9_outcomeOf_203 : decode cX9_outcomeOf 203 = .ok (.iconst 2, 1) := by decide +kernel
theorem dX9_outcomeOf_204 : decode cX9_outcomeOf 204 = .ok (.iand, 1) := by decide +kernel
theorem dX9_outcomeOf_205 : decode cX9_outcomeOf 205 = .ok (.iload_n 3, 1) := by decide +kernel
theorem dX9_outcomeOf_206 : decode cX9_outcomeOf 206 = .ok (.iconst 5, 1) := by decide +kernel
theorem dX9_outcomeOf_207 : decode cX9_outcomeOf 207 = .ok (.invokestatic 171, 3) := by decide +kernel
theorem dX9_outcomeOf_210 : decode cX9_outcomeOf 210 = .ok (.iconst 1, 1) := by decide +kernel
theorem dX9_outcomeOf_211 : decode cX9_outcomeOf 211 = .ok (.invokestatic 175, 3) := by decide +kernel
theorem dX9_outcomeOf_214 : decode cX9_outcomeOf 214 = .ok (.ior, 1) := by decide +kernel
theorem dX9_outcomeOf_215 : decode cX9_outcomeOf 215 = .ok (.ireturn, 1) := by decide +kernel
theorem dX9_outcomeOf_216 : decode cX9_outcomeOf 216 = .ok (.iload_n 3, 1) := by decide +kernel
theorem dX9_outcomeOf_217 : decode cX9_outcomeOf 217 = .ok (.iconst 4, 1) := by decide +kernel
theorem dX9_outcomeOf_218 : decode cX9_outcomeOf 218 = .ok (.iand, 1) := by decide +kernel
theorem dX9_outcomeOf_219 : decode cX9_outcomeOf 219 = .ok (.iload_n 3, 1) := by decide +kernel
theorem dX9_outcomeOf_220 : decode cX9_outcomeOf 220 = .ok (.iconst 3, 1) := by decide +kernel
theorem dX9_outcomeOf_221 : decode cX9_outcomeOf 221 = .ok (.invokestatic 171, 3) := by decide +kernel
theorem dX9_outcomeOf_224 : decode cX9_outcomeOf 224 = .ok (.iconst 1, 1) := by decide +kernel
theorem dX9_outcomeOf_225 : decode cX9_outcomeOf 225 = .ok (.invokestatic 175, 3) := by decide +kernel
theorem dX9_outcomeOf_228 : decode cX9_outcomeOf 228 = .ok (.ior, 1) := by decide +kernel
theorem dX9_outcomeOf_229 : decode cX9_outcomeOf 229 = .ok (.ireturn, 1) := by decide +kernel
theorem dX9_outcomeOf_230 : decode cX9_outcomeOf 230 = .ok (.iload 5, 2) := by decide +kernel
theorem dX9_outcomeOf_232 : decode cX9_outcomeOf 232 = .ok (.iconst 1, 1) := by decide +kernel
theorem dX9_outcomeOf_233 : decode cX9_outcomeOf 233 = .ok (.invokestatic 175, 3) := by decide +kernel
theorem dX9_outcomeOf_236 : decode cX9_outcomeOf 236 = .ok (.iload_n 3, 1) := by decide +kernel
theorem dX9_outcomeOf_237 : decode cX9_outcomeOf 237 = .ok (.iconst 3, 1) := by decide +kernel
theorem dX9_outcomeOf_238 : decode cX9_outcomeOf 238 = .ok (.invokestatic 171, 3) := by decide +kernel
theorem dX9_outcomeOf_241 : decode cX9_outcomeOf 241 = .ok (.iconst 4, 1) := by decide +kernel
theorem dX9_outcomeOf_242 : decode cX9_outcomeOf 242 = .ok (.invokestatic 175, 3) := by decide +kernel
theorem dX9_outcomeOf_245 : decode cX9_outcomeOf 245 = .ok (.ior, 1) := by decide +kernel
theorem dX9_outcomeOf_246 : decode cX9_outcomeOf 246 = .ok (.ireturn, 1) := by decide +kernel
theorem dX9_goodOf_0 : decode cX9_goodOf 0 = .ok (.aload_n 0, 1) := by decide +kernel
theorem dX9_goodOf_1 : decode cX9_goodOf 1 = .ok (.getfield 17, 3) := by decide +kernel
theorem dX9_goodOf_4 : decode cX9_goodOf 4 = .ok (.iload_n 1, 1) := by decide +kernel
theorem dX9_goodOf_5 : decode cX9_goodOf 5 = .ok (.iaload, 1) := by decide +kernel
theorem dX9_goodOf_6 : decode cX9_goodOf 6 = .ok (.ifCond .ne 5, 3) := by decide +kernel
theorem dX9_goodOf_9 : decode cX9_goodOf 9 = .ok (.iconst 1, 1) := by decide +kernel
theorem dX9_goodOf_10 : decode cX9_goodOf 10 = .ok (.ireturn, 1) := by decide +kernel
theorem dX9_goodOf_11 : decode cX9_goodOf 11 = .ok (.aload_n 0, 1) := by decide +kernel
theorem dX9_goodOf_12 : decode cX9_goodOf 12 = .ok (.getfield 17, 3) := by decide +kernel
theorem dX9_goodOf_15 : decode cX9_goodOf 15 = .ok (.iload_n 1, 1) := by decide +kernel
theorem dX9_goodOf_16 : decode cX9_goodOf 16 = .ok (.iaload, 1) := by decide +kernel
theorem dX9_goodOf_17 : decode cX9_goodOf 17 = .ok (.iconst 1, 1) := by decide +kernel
theorem dX9_goodOf_18 : decode cX9_goodOf 18 = .ok (.if_icmp .ne 46, 3) := by decide +kernel
theorem dX9_goodOf_21 : decode cX9_goodOf 21 = .ok (.aload_n 0, 1) := by decide +kernel
theorem dX9_goodOf_22 : decode cX9_goodOf 22 = .ok (.getfield 20, 3) := by decide +kernel
theorem dX9_goodOf_25 : decode cX9_goodOf 25 = .ok (.iload_n 1, 1) := by decide +kernel
theorem dX9_goodOf_26 : decode cX9_goodOf 26 = .ok (.iaload, 1) := by decide +kernel
theorem dX9_goodOf_27 : decode cX9_goodOf 27 = .ok (.istore_n 3, 1) := by decide +kernel
theorem dX9_goodOf_28 : decode cX9_goodOf 28 = .ok (.aload_n 0, 1) := by decide +kernel
theorem dX9_goodOf_29 : decode cX9_goodOf 29 = .ok (.getfield 33, 3) := by decide +kernel
theorem dX9_goodOf_32 : decode cX9_goodOf 32 = .ok (.iload_n 3, 1) := by decide +kernel
theorem dX9_goodOf_33 : decode cX9_goodOf 33 = .ok (.iaload, 1) := by decide +kernel
theorem dX9_goodOf_34 : decode cX9_goodOf 34 = .ok (.ifCond .le 28, 3) := by decide +kernel
theorem dX9_goodOf_37 : decode cX9_goodOf 37 = .ok (.aload_n 0, 1) := by decide +kernel
theorem dX9_goodOf_38 : decode cX9_goodOf 38 = .ok (.getfield 39, 3) := by decide +kernel
theorem dX9_goodOf_41 : decode cX9_goodOf 41 = .ok (.bipush 64, 2) := by decide +kernel
theorem dX9_goodOf_43 : decode cX9_goodOf 43 = .ok (.iload_n 3, 1) := by decide +kernel
theorem dX9_goodOf_44 : decode cX9_goodOf 44 = .ok (.imul, 1) := by decide +kernel
theorem dX9_goodOf_45 : decode cX9_goodOf 45 = .ok (.aload_n 0, 1) := by decide +kernel
theorem dX9_goodOf_46 : decode cX9_goodOf 46 = .ok (.getfield 33, 3) := by decide +kernel
theorem dX9_goodOf_49 : decode cX9_goodOf 49 = .ok (.iload_n 3, 1) := by decide +kernel
theorem dX9_goodOf_50 : decode cX9_goodOf 50 = .ok (.iaload, 1) := by decide +kernel
theorem dX9_goodOf_51 : decode cX9_goodOf 51 = .ok (.iadd, 1) := by decide +kernel
theorem dX9_goodOf_52 : decode cX9_goodOf 52 = .ok (.iconst 1, 1) := by decide +kernel
theorem dX9_goodOf_53 : decode cX9_goodOf 53 = .ok (.isub, 1) := by decide +kernel
theorem dX9_goodOf_54 : decode cX9_goodOf 54 = .ok (.baload, 1) := by decide +kernel
theorem dX9_goodOf_55 : decode cX9_goodOf 55 = .ok (.ifCond .eq 7, 3) := by decide +kernel
theorem dX9_goodOf_58 : decode cX9_goodOf 58 = .ok (.iconst 1, 1) := by decide +kernel
theorem dX9_goodOf_59 : decode cX9_goodOf 59 = .ok (.goto 4, 3) := by decide +kernel
theorem dX9_goodOf_62 : decode cX9_goodOf 62 = .ok (.iconst 0, 1) := by decide +kernel
theorem dX9_goodOf_63 : decode cX9_goodOf 63 = .ok (.ireturn, 1) := by decide +kernel
theorem dX9_goodOf_64 : decode cX9_goodOf 64 = .ok (.aload_n 0, 1) := by decide +kernel
theorem dX9_goodOf_65 : decode cX9_goodOf 65 = .ok (.getfield 39, 3) := by decide +kernel
theorem dX9_goodOf_68 : decode cX9_goodOf 68 = .ok (.iload_n 2, 1) := by decide +kernel
theorem dX9_goodOf_69 : decode cX9_goodOf 69 = .ok (.aload_n 0, 1) := by decide +kernel
theorem dX9_goodOf_70 : decode cX9_goodOf 70 = .ok (.getfield 20, 3) := by decide +kernel
theorem dX9_goodOf_73 : decode cX9_goodOf 73 = .ok (.iload_n 1, 1) := by decide +kernel
theorem dX9_goodOf_74 : decode cX9_goodOf 74 = .ok (.iaload, 1) := by decide +kernel
theorem dX9_goodOf_75 : decode cX9_goodOf 75 = .ok (.iadd, 1) := by decide +kernel
theorem dX9_goodOf_76 : decode cX9_goodOf 76 = .ok (.baload, 1) := by decide +kernel
theorem dX9_goodOf_77 : decode cX9_goodOf 77 = .ok (.istore_n 3, 1) := by decide +kernel
theorem dX9_goodOf_78 : decode cX9_goodOf 78 = .ok (.aload_n 0, 1) := by decide +kernel
theorem dX9_goodOf_79 : decode cX9_goodOf 79 = .ok (.getfield 36, 3) := by decide +kernel
theorem dX9_goodOf_82 : decode cX9_goodOf 82 = .ok (.iload_n 2, 1) := by decide +kernel
theorem dX9_goodOf_83 : decode cX9_goodOf 83 = .ok (.aload_n 0, 1) := by decide +kernel
theorem dX9_goodOf_84 : decode cX9_goodOf 84 = .ok (.getfield 20, 3) := by decide +kernel
theorem dX9_goodOf_87 : decode cX9_goodOf 87 = .ok (.iload_n 1, 1) := by decide +kernel
theorem dX9_goodOf_88 : decode cX9_goodOf 88 = .ok (.iaload, 1) := by decide +kernel
theorem dX9_goodOf_89 : decode cX9_goodOf 89 = .ok (.iadd, 1) := by decide +kernel
theorem dX9_goodOf_90 : decode cX9_goodOf 90 = .ok (.iaload, 1) := by decide +kernel
theorem dX9_goodOf_91 : decode cX9_goodOf 91 = .ok (.iconst 1, 1) := by decide +kernel
theorem dX9_goodOf_92 : decode cX9_goodOf 92 = .ok (.invokestatic 171, 3) := by decide +kernel
theorem dX9_goodOf_95 : decode cX9_goodOf 95 = .ok (.istore 4, 2) := by decide +kernel
theorem dX9_goodOf_97 : decode cX9_goodOf 97 = .ok (.aload_n 0, 1) := by decide +kernel
theorem dX9_goodOf_98 : decode cX9_goodOf 98 = .ok (.getfield 17, 3) := by decide +kernel
theorem dX9_goodOf_101 : decode cX9_goodOf 101 = .ok (.iload_n 1, 1) := by decide +kernel
theorem dX9_goodOf_102 : decode cX9_goodOf 102 = .ok (.iaload, 1) := by decide +kernel
theorem dX9_goodOf_103 : decode cX9_goodOf 103 = .ok (.tableswitch 101 2 5 #[29, 60, 86, 86], 29) := by decide +kernel
theorem dX9_goodOf_132 : decode cX9_goodOf 132 = .ok (.iload_n 3, 1) := by decide +kernel
theorem dX9_goodOf_133 : decode cX9_goodOf 133 = .ok (.ifCond .eq 28, 3) := by decide +kernel
theorem dX9_goodOf_136 : decode cX9_goodOf 136 = .ok (.iload 4, 2) := by decide +kernel
theorem dX9_goodOf_138 : decode cX9_goodOf 138 = .ok (.ifCond .eq 19, 3) := by decide +kernel
theorem dX9_goodOf_141 : decode cX9_goodOf 141 = .ok (.aload_n 0, 1) := by decide +kernel
theorem dX9_goodOf_142 : decode cX9_goodOf 142 = .ok (.getfield 39, 3) := by decide +kernel
theorem dX9_goodOf_145 : decode cX9_goodOf 145 = .ok (.iload_n 2, 1) := by decide +kernel
theorem dX9_goodOf_146 : decode cX9_goodOf 146 = .ok (.aload_n 0, 1) := by decide +kernel
theorem dX9_goodOf_147 : decode cX9_goodOf 147 = .ok (.getfield 23, 3) := by decide +kernel
theorem dX9_goodOf_150 : decode cX9_goodOf 150 = .ok (.iload_n 1, 1) := by decide +kernel
theorem dX9_goodOf_151 : decode cX9_goodOf 151 = .ok (.iaload, 1) := by decide +kernel
theorem dX9_goodOf_152 : decode cX9_goodOf 152 = .ok (.iadd, 1) := by decide +kernel
theorem dX9_goodOf_153 : decode cX9_goodOf 153 = .ok (.baload, 1) := by decide +kernel
theorem dX9_goodOf_154 : decode cX9_goodOf 154 = .ok (.ifCond .eq 7, 3) := by decide +kernel
theorem dX9_goodOf_157 : decode cX9_goodOf 157 = .ok (.iconst 1, 1) := by decide +kernel
theorem dX9_goodOf_158 : decode cX9_goodOf 158 = .ok (.goto 4, 3) := by decide +kernel
theorem dX9_goodOf_161 : decode cX9_goodOf 161 = .ok (.iconst 0, 1) := by decide +kernel
theorem dX9_goodOf_162 : decode cX9_goodOf 162 = .ok (.ireturn, 1) := by decide +kernel
theorem dX9_goodOf_163 : decode cX9_goodOf 163 = .ok (.iload_n 3, 1) := by decide +kernel
theorem dX9_goodOf_164 : decode cX9_goodOf 164 = .ok (.ifCond .eq 23, 3) := by decide +kernel
theorem dX9_goodOf_167 : decode cX9_goodOf 167 = .ok (.aload_n 0, 1) := by decide +kernel
theorem dX9_goodOf_168 : decode cX9_goodOf 168 = .ok (.getfield 39, 3) := by decide +kernel
theorem dX9_goodOf_171 : decode cX9_goodOf 171 = .ok (.iload_n 2, 1) := by decide +kernel
theorem dX9_goodOf_172 : decode cX9_goodOf 172 = .ok (.aload_n 0, 1) := by decide +kernel
theorem dX9_goodOf_173 : decode cX9_goodOf 173 = .ok (.getfield 23, 3) := by decide +kernel
theorem dX9_goodOf_176 : decode cX9_goodOf 176 = .ok (.iload_n 1, 1) := by decide +kernel
theorem dX9_goodOf_177 : decode cX9_goodOf 177 = .ok (.iaload, 1) := by decide +kernel
theorem dX9_goodOf_178 : decode cX9_goodOf 178 = .ok (.iadd, 1) := by decide +kernel
theorem dX9_goodOf_179 : decode cX9_goodOf 179 = .ok (.baload, 1) := by decide +kernel
theorem dX9_goodOf_180 : decode cX9_goodOf 180 = .ok (.ifCond .eq 7, 3) := by decide +kernel
theorem dX9_goodOf_183 : decode cX9_goodOf 183 = .ok (.iconst 1, 1) := by decide +kernel
theorem dX9_goodOf_184 : decode cX9_goodOf 184 = .ok (.goto 4, 3) := by decide +kernel
theorem dX9_goodOf_187 : decode cX9_goodOf 187 = .ok (.iconst 0, 1) := by decide +kernel
theorem dX9_goodOf_188 : decode cX9_goodOf 188 = .ok (.ireturn, 1) := by decide +kernel
theorem dX9_goodOf_189 : decode cX9_goodOf 189 = .ok (.iload_n 3, 1) := by decide +kernel
theorem dX9_goodOf_190 : decode cX9_goodOf 190 = .ok (.ifCond .eq 12, 3) := by decide +kernel
theorem dX9_goodOf_193 : decode cX9_goodOf 193 = .ok (.iload 4, 2) := by decide +kernel
theorem dX9_goodOf_195 : decode cX9_goodOf 195 = .ok (.ifCond .ne 7, 3) := by decide +kernel
theorem dX9_goodOf_198 : decode cX9_goodOf 198 = .ok (.iconst 1, 1) := by decide +kernel
theorem dX9_goodOf_199 : decode cX9_goodOf 199 = .ok (.goto 4, 3) := by decide +kernel
theorem dX9_goodOf_202 : decode cX9_goodOf 202 = .ok (.iconst 0, 1) := by decide +kernel
theorem dX9_goodOf_203 : decode cX9_goodOf 203 = .ok (.ireturn, 1) := by decide +kernel
theorem dX9_goodOf_204 : decode cX9_goodOf 204 = .ok (.iload_n 3, 1) := by decide +kernel
theorem dX9_goodOf_205 : decode cX9_goodOf 205 = .ok (.ireturn, 1) := by decide +kernel
theorem dX9_more_0 : decode cX9_more 0 = .ok (.iconst 0, 1) := by decide +kernel
theorem dX9_more_1 : decode cX9_more 1 = .ok (.istore_n 2, 1) := by decide +kernel
theorem dX9_more_2 : decode cX9_more 2 = .ok (.iconst 0, 1) := by decide +kernel
theorem dX9_more_3 : decode cX9_more 3 = .ok (.istore_n 3, 1) := by decide +kernel
theorem dX9_more_4 : decode cX9_more 4 = .ok (.iload_n 3, 1) := by decide +kernel
theorem dX9_more_5 : decode cX9_more 5 = .ok (.bipush 6, 2) := by decide +kernel
theorem dX9_more_7 : decode cX9_more 7 = .ok (.if_icmp .ge 130, 3) := by decide +kernel
theorem dX9_more_10 : decode cX9_more 10 = .ok (.bipush 64, 2) := by decide +kernel
theorem dX9_more_12 : decode cX9_more 12 = .ok (.iload_n 3, 1) := by decide +kernel
theorem dX9_more_13 : decode cX9_more 13 = .ok (.imul, 1) := by decide +kernel
theorem dX9_more_14 : decode cX9_more 14 = .ok (.istore 4, 2) := by decide +kernel
theorem dX9_more_16 : decode cX9_more 16 = .ok (.iload 4, 2) := by decide +kernel
theorem dX9_more_18 : decode cX9_more 18 = .ok (.bipush 64, 2) := by decide +kernel
theorem dX9_more_20 : decode cX9_more 20 = .ok (.iload_n 3, 1) := by decide +kernel
theorem dX9_more_21 : decode cX9_more 21 = .ok (.imul, 1) := by decide +kernel
theorem dX9_more_22 : decode cX9_more 22 = .ok (.aload_n 0, 1) := by decide +kernel
theorem dX9_more_23 : decode cX9_more 23 = .ok (.getfield 33, 3) := by decide +kernel
theorem dX9_more_26 : decode cX9_more 26 = .ok (.iload_n 3, 1) := by decide +kernel
theorem dX9_more_27 : decode cX9_more 27 = .ok (.iaload, 1) := by decide +kernel
theorem dX9_more_28 : decode cX9_more 28 = .ok (.iadd, 1) := by decide +kernel
theorem dX9_more_29 : decode cX9_more 29 = .ok (.if_icmp .ge 102, 3) := by decide +kernel
theorem dX9_more_32 : decode cX9_more 32 = .ok (.iload_n 1, 1) := by decide +kernel
theorem dX9_more_33 : decode cX9_more 33 = .ok (.ifCond .eq 49, 3) := by decide +kernel
theorem dX9_more_36 : decode cX9_more 36 = .ok (.aload_n 0, 1) := by decide +kernel
theorem dX9_more_37 : decode cX9_more 37 = .ok (.iload 4, 2) := by decide +kernel
theorem dX9_more_39 : decode cX9_more 39 = .ok (.bipush 64, 2) := by decide +kernel
theorem dX9_more_41 : decode cX9_more 41 = .ok (.iload_n 3, 1) := by decide +kernel
theorem dX9_more_42 : decode cX9_more 42 = .ok (.imul, 1) := by decide +kernel
theorem dX9_more_43 : decode cX9_more 43 = .ok (.invokevirtual 181, 3) := by decide +kernel
theorem dX9_more_46 : decode cX9_more 46 = .ok (.istore 5, 2) := by decide +kernel
theorem dX9_more_48 : decode cX9_more 48 = .ok (.iload_n 2, 1) := by decide +kernel
theorem dX9_more_49 : decode cX9_more 49 = .ok (.ifCond .ne 15, 3) := by decide +kernel
theorem dX9_more_52 : decode cX9_more 52 = .ok (.iload 5, 2) := by decide +kernel
theorem dX9_more_54 : decode cX9_more 54 = .ok (.aload_n 0, 1) := by decide +kernel
theorem dX9_more_55 : decode cX9_more 55 = .ok (.getfield 39, 3) := by decide +kernel
theorem dX9_more_58 : decode cX9_more 58 = .ok (.iload 4, 2) := by decide +kernel
theorem dX9_more_60 : decode cX9_more 60 = .ok (.baload, 1) := by decide +kernel
theorem dX9_more_61 : decode cX9_more 61 = .ok (.if_icmp .eq 7, 3) := by decide +kernel
theorem dX9_more_64 : decode cX9_more 64 = .ok (.iconst 1, 1) := by decide +kernel
theorem dX9_more_65 : decode cX9_more 65 = .ok (.goto 4, 3) := by decide +kernel
theorem dX9_more_68 : decode cX9_more 68 = .ok (.iconst 0, 1) := by decide +kernel
theorem dX9_more_69 : decode cX9_more 69 = .ok (.istore_n 2, 1) := by decide +kernel
theorem dX9_more_70 : decode cX9_more 70 = .ok (.aload_n 0, 1) := by decide +kernel
theorem dX9_more_71 : decode cX9_more 71 = .ok (.getfield 39, 3) := by decide +kernel
theorem dX9_more_74 : decode cX9_more 74 = .ok (.iload 4, 2) := by decide +kernel
theorem dX9_more_76 : decode cX9_more 76 = .ok (.iload 5, 2) := by decide +kernel
theorem dX9_more_78 : decode cX9_more 78 = .ok (.bastore, 1) := by decide +kernel
theorem dX9_more_79 : decode cX9_more 79 = .ok (.goto 46, 3) := by decide +kernel
theorem dX9_more_82 : decode cX9_more 82 = .ok (.aload_n 0, 1) := by decide +kernel
theorem dX9_more_83 : decode cX9_more 83 = .ok (.iload 4, 2) := by decide +kernel
theorem dX9_more_85 : decode cX9_more 85 = .ok (.bipush 64, 2) := by decide +kernel
theorem dX9_more_87 : decode cX9_more 87 = .ok (.iload_n 3, 1) := by decide +kernel
theorem dX9_more_88 : decode cX9_more 88 = .ok (.imul, 1) := by decide +kernel
theorem dX9_more_89 : decode cX9_more 89 = .ok (.invokevirtual 184, 3) := by decide +kernel
theorem dX9_more_92 : decode cX9_more 92 = .ok (.istore 5, 2) := by decide +kernel
theorem dX9_more_94 : decode cX9_more 94 = .ok (.iload_n 2, 1) := by decide +kernel
theorem dX9_more_95 : decode cX9_more 95 = .ok (.ifCond .ne 15, 3) := by decide +kernel
theorem dX9_more_98 : decode cX9_more 98 = .ok (.iload 5, 2) := by decide +kernel
theorem dX9_more_100 : decode cX9_more 100 = .ok (.aload_n 0, 1) := by decide +kernel
theorem dX9_more_101 : decode cX9_more 101 = .ok (.getfield 36, 3) := by decide +kernel
theorem dX9_more_104 : decode cX9_more 104 = .ok (.iload 4, 2) := by decide +kernel
theorem dX9_more_106 : decode cX9_more 106 = .ok (.iaload, 1) := by decide +kernel
theorem dX9_more_107 : decode cX9_more 107 = .ok (.if_icmp .eq 7, 3) := by decide +kernel
theorem dX9_more_110 : decode cX9_more 110 = .ok (.iconst 1, 1) := by decide +kernel
theorem dX9_more_111 : decode cX9_more 111 = .ok (.goto 4, 3) := by decide +kernel
theorem dX9_more_114 : decode cX9_more 114 = .ok (.iconst 0, 1) := by decide +kernel
theorem dX9_more_115 : decode cX9_more 115 = .ok (.istore_n 2, 1) := by decide +kernel
theorem dX9_more_116 : decode cX9_more 116 = .ok (.aload_n 0, 1) := by decide +kernel
theorem dX9_more_117 : decode cX9_more 117 = .ok (.getfield 36, 3) := by decide +kernel
theorem dX9_more_120 : decode cX9_more 120 = .ok (.iload 4, 2) := by decide +kernel
theorem dX9_more_122 : decode cX9_more 122 = .ok (.iload 5, 2) := by decide +kernel
theorem dX9_more_124 : decode cX9_more 124 = .ok (.iastore, 1) := by decide +kernel
theorem dX9_more_125 : decode cX9_more 125 = .ok (.iinc 4 1, 3) := by decide +kernel
theorem dX9_more_128 : decode cX9_more 128 = .ok (.goto (-112), 3) := by decide +kernel
theorem dX9_more_131 : decode cX9_more 131 = .ok (.iinc 3 1, 3) := by decide +kernel
theorem dX9_more_134 : decode cX9_more 134 = .ok (.goto (-130), 3) := by decide +kernel
theorem dX9_more_137 : decode cX9_more 137 = .ok (.iload_n 2, 1) := by decide +kernel
theorem dX9_more_138 : decode cX9_more 138 = .ok (.ireturn, 1) := by decide +kernel
theorem dX9_study_0 : decode cX9_study 0 = .ok (.iconst 0, 1) := by decide +kernel
theorem dX9_study_1 : decode cX9_study 1 = .ok (.istore_n 1, 1) := by decide +kernel
theorem dX9_study_2 : decode cX9_study 2 = .ok (.iload_n 1, 1) := by decide +kernel
theorem dX9_study_3 : decode cX9_study 3 = .ok (.sipush 384, 3) := by decide +kernel
theorem dX9_study_6 : decode cX9_study 6 = .ok (.if_icmp .ge 23, 3) := by decide +kernel
theorem dX9_study_9 : decode cX9_study 9 = .ok (.aload_n 0, 1) := by decide +kernel
theorem dX9_study_10 : decode cX9_study 10 = .ok (.getfield 36, 3) := by decide +kernel
theorem dX9_study_13 : decode cX9_study 13 = .ok (.iload_n 1, 1) := by decide +kernel
theorem dX9_study_14 : decode cX9_study 14 = .ok (.iconst 0, 1) := by decide +kernel
theorem dX9_study_15 : decode cX9_study 15 = .ok (.iastore, 1) := by decide +kernel
theorem dX9_study_16 : decode cX9_study 16 = .ok (.aload_n 0, 1) := by decide +kernel
theorem dX9_study_17 : decode cX9_study 17 = .ok (.getfield 39, 3) := by decide +kernel
theorem dX9_study_20 : decode cX9_study 20 = .ok (.iload_n 1, 1) := by decide +kernel
theorem dX9_study_21 : decode cX9_study 21 = .ok (.iconst 0, 1) := by decide +kernel
theorem dX9_study_22 : decode cX9_study 22 = .ok (.bastore, 1) := by decide +kernel
theorem dX9_study_23 : decode cX9_study 23 = .ok (.iinc 1 1, 3) := by decide +kernel
theorem dX9_study_26 : decode cX9_study 26 = .ok (.goto (-24), 3) := by decide +kernel
theorem dX9_study_29 : decode cX9_study 29 = .ok (.iconst 1, 1) := by decide +kernel
theorem dX9_study_30 : decode cX9_study 30 = .ok (.istore_n 1, 1) := by decide +kernel
theorem dX9_study_31 : decode cX9_study 31 = .ok (.iload_n 1, 1) := by decide +kernel
theorem dX9_study_32 : decode cX9_study 32 = .ok (.ifCond .eq 12, 3) := by decide +kernel
theorem dX9_study_35 : decode cX9_study 35 = .ok (.aload_n 0, 1) := by decide +kernel
theorem dX9_study_36 : decode cX9_study 36 = .ok (.iconst 0, 1) := by decide +kernel
theorem dX9_study_37 : decode cX9_study 37 = .ok (.invokevirtual 187, 3) := by decide +kernel
theorem dX9_study_40 : decode cX9_study 40 = .ok (.istore_n 1, 1) := by decide +kernel
theorem dX9_study_41 : decode cX9_study 41 = .ok (.goto (-10), 3) := by decide +kernel
theorem dX9_study_44 : decode cX9_study 44 = .ok (.iconst 1, 1) := by decide +kernel
theorem dX9_study_45 : decode cX9_study 45 = .ok (.istore_n 1, 1) := by decide +kernel
theorem dX9_study_46 : decode cX9_study 46 = .ok (.iload_n 1, 1) := by decide +kernel
theorem dX9_study_47 : decode cX9_study 47 = .ok (.ifCond .eq 12, 3) := by decide +kernel
theorem dX9_study_50 : decode cX9_study 50 = .ok (.aload_n 0, 1) := by decide +kernel
theorem dX9_study_51 : decode cX9_study 51 = .ok (.iconst 1, 1) := by decide +kernel
theorem dX9_study_52 : decode cX9_study 52 = .ok (.invokevirtual 187, 3) := by decide +kernel
theorem dX9_study_55 : decode cX9_study 55 = .ok (.istore_n 1, 1) := by decide +kernel
theorem dX9_study_56 : decode cX9_study 56 = .ok (.goto (-10), 3) := by decide +kernel
theorem dX9_study_59 : decode cX9_study 59 = .ok (.return_, 1) := by decide +kernel
theorem dX9_outcomes_0 : decode cX9_outcomes 0 = .ok (.aload_n 0, 1) := by decide +kernel
theorem dX9_outcomes_1 : decode cX9_outcomes 1 = .ok (.aload_n 0, 1) := by decide +kernel
theorem dX9_outcomes_2 : decode cX9_outcomes 2 = .ok (.iload_n 1, 1) := by decide +kernel
theorem dX9_outcomes_3 : decode cX9_outcomes 3 = .ok (.invokevirtual 191, 3) := by decide +kernel
theorem dX9_outcomes_6 : decode cX9_outcomes 6 = .ok (.ifCond .ne 7, 3) := by decide +kernel
theorem dX9_outcomes_9 : decode cX9_outcomes 9 = .ok (.iconst 1, 1) := by decide +kernel
theorem dX9_outcomes_10 : decode cX9_outcomes 10 = .ok (.goto 15, 3) := by decide +kernel
theorem dX9_outcomes_13 : decode cX9_outcomes 13 = .ok (.aload_n 0, 1) := by decide +kernel
theorem dX9_outcomes_14 : decode cX9_outcomes 14 = .ok (.invokevirtual 195, 3) := by decide +kernel
theorem dX9_outcomes_17 : decode cX9_outcomes 17 = .ok (.ifCond .lt 7, 3) := by decide +kernel
theorem dX9_outcomes_20 : decode cX9_outcomes 20 = .ok (.iconst 2, 1) := by decide +kernel
theorem dX9_outcomes_21 : decode cX9_outcomes 21 = .ok (.goto 4, 3) := by decide +kernel
theorem dX9_outcomes_24 : decode cX9_outcomes 24 = .ok (.iconst 0, 1) := by decide +kernel
theorem dX9_outcomes_25 : decode cX9_outcomes 25 = .ok (.putfield 105, 3) := by decide +kernel
theorem dX9_outcomes_28 : decode cX9_outcomes 28 = .ok (.aload_n 0, 1) := by decide +kernel
theorem dX9_outcomes_29 : decode cX9_outcomes 29 = .ok (.getfield 105, 3) := by decide +kernel
theorem dX9_outcomes_32 : decode cX9_outcomes 32 = .ok (.ifCond .le 5, 3) := by decide +kernel
theorem dX9_outcomes_35 : decode cX9_outcomes 35 = .ok (.iconst 0, 1) := by decide +kernel
theorem dX9_outcomes_36 : decode cX9_outcomes 36 = .ok (.ireturn, 1) := by decide +kernel
theorem dX9_outcomes_37 : decode cX9_outcomes 37 = .ok (.aload_n 0, 1) := by decide +kernel
theorem dX9_outcomes_38 : decode cX9_outcomes 38 = .ok (.invokevirtual 198, 3) := by decide +kernel
theorem dX9_outcomes_41 : decode cX9_outcomes 41 = .ok (.aload_n 0, 1) := by decide +kernel
theorem dX9_outcomes_42 : decode cX9_outcomes 42 = .ok (.getfield 36, 3) := by decide +kernel
theorem dX9_outcomes_45 : decode cX9_outcomes 45 = .ok (.bipush 64, 2) := by decide +kernel
theorem dX9_outcomes_47 : decode cX9_outcomes 47 = .ok (.iload_n 1, 1) := by decide +kernel
theorem dX9_outcomes_48 : decode cX9_outcomes 48 = .ok (.imul, 1) := by decide +kernel
theorem dX9_outcomes_49 : decode cX9_outcomes 49 = .ok (.aload_n 0, 1) := by decide +kernel
theorem dX9_outcomes_50 : decode cX9_outcomes 50 = .ok (.getfield 33, 3) := by decide +kernel
theorem dX9_outcomes_53 : decode cX9_outcomes 53 = .ok (.iload_n 1, 1) := by decide +kernel
theorem dX9_outcomes_54 : decode cX9_outcomes 54 = .ok (.iaload, 1) := by decide +kernel
theorem dX9_outcomes_55 : decode cX9_outcomes 55 = .ok (.iadd, 1) := by decide +kernel
theorem dX9_outcomes_56 : decode cX9_outcomes 56 = .ok (.iconst 1, 1) := by decide +kernel
theorem dX9_outcomes_57 : decode cX9_outcomes 57 = .ok (.isub, 1) := by decide +kernel
theorem dX9_outcomes_58 : decode cX9_outcomes 58 = .ok (.iaload, 1) := by decide +kernel
theorem dX9_outcomes_59 : decode cX9_outcomes 59 = .ok (.ireturn, 1) := by decide +kernel
theorem dX9_rules_0 : decode cX9_rules 0 = .ok (.iconst 0, 1) := by decide +kernel
theorem dX9_rules_1 : decode cX9_rules 1 = .ok (.istore_n 1, 1) := by decide +kernel
theorem dX9_rules_2 : decode cX9_rules 2 = .ok (.iconst 0, 1) := by decide +kernel
theorem dX9_rules_3 : decode cX9_rules 3 = .ok (.istore_n 2, 1) := by decide +kernel
theorem dX9_rules_4 : decode cX9_rules 4 = .ok (.iload_n 2, 1) := by decide +kernel
theorem dX9_rules_5 : decode cX9_rules 5 = .ok (.bipush 6, 2) := by decide +kernel
theorem dX9_rules_7 : decode cX9_rules 7 = .ok (.if_icmp .ge 26, 3) := by decide +kernel
theorem dX9_rules_10 : decode cX9_rules 10 = .ok (.aload_n 0, 1) := by decide +kernel
theorem dX9_rules_11 : decode cX9_rules 11 = .ok (.getfield 33, 3) := by decide +kernel
theorem dX9_rules_14 : decode cX9_rules 14 = .ok (.iload_n 2, 1) := by decide +kernel
theorem dX9_rules_15 : decode cX9_rules 15 = .ok (.iaload, 1) := by decide +kernel
theorem dX9_rules_16 : decode cX9_rules 16 = .ok (.ifCond .le 9, 3) := by decide +kernel
theorem dX9_rules_19 : decode cX9_rules 19 = .ok (.iload_n 1, 1) := by decide +kernel
theorem dX9_rules_20 : decode cX9_rules 20 = .ok (.iconst 1, 1) := by decide +kernel
theorem dX9_rules_21 : decode cX9_rules 21 = .ok (.iadd, 1) := by decide +kernel
theorem dX9_rules_22 : decode cX9_rules 22 = .ok (.goto 4, 3) := by decide +kernel
theorem dX9_rules_25 : decode cX9_rules 25 = .ok (.iload_n 1, 1) := by decide +kernel
theorem dX9_rules_26 : decode cX9_rules 26 = .ok (.istore_n 1, 1) := by decide +kernel
theorem dX9_rules_27 : decode cX9_rules 27 = .ok (.iinc 2 1, 3) := by decide +kernel
theorem dX9_rules_30 : decode cX9_rules 30 = .ok (.goto (-26), 3) := by decide +kernel
theorem dX9_rules_33 : decode cX9_rules 33 = .ok (.iload_n 1, 1) := by decide +kernel
theorem dX9_rules_34 : decode cX9_rules 34 = .ok (.ireturn, 1) := by decide +kernel
theorem dX9_fault_0 : decode cX9_fault 0 = .ok (.aload_n 0, 1) := by decide +kernel
theorem dX9_fault_1 : decode cX9_fault 1 = .ok (.invokevirtual 201, 3) := by decide +kernel
theorem dX9_fault_4 : decode cX9_fault 4 = .ok (.ifCond .ne 5, 3) := by decide +kernel
theorem dX9_fault_7 : decode cX9_fault 7 = .ok (.iconst 1, 1) := by decide +kernel
theorem dX9_fault_8 : decode cX9_fault 8 = .ok (.ireturn, 1) := by decide +kernel
theorem dX9_fault_9 : decode cX9_fault 9 = .ok (.aload_n 0, 1) := by decide +kernel
theorem dX9_fault_10 : decode cX9_fault 10 = .ok (.invokevirtual 195, 3) := by decide +kernel
theorem dX9_fault_13 : decode cX9_fault 13 = .ok (.istore_n 1, 1) := by decide +kernel
theorem dX9_fault_14 : decode cX9_fault 14 = .ok (.iload_n 1, 1) := by decide +kernel
theorem dX9_fault_15 : decode cX9_fault 15 = .ok (.ifCond .lt 10, 3) := by decide +kernel
theorem dX9_fault_18 : decode cX9_fault 18 = .ok (.iconst 2, 1) := by decide +kernel
theorem dX9_fault_19 : decode cX9_fault 19 = .ok (.bipush 10, 2) := by decide +kernel
theorem dX9_fault_21 : decode cX9_fault 21 = .ok (.iload_n 1, 1) := by decide +kernel
theorem dX9_fault_22 : decode cX9_fault 22 = .ok (.imul, 1) := by decide +kernel
theorem dX9_fault_23 : decode cX9_fault 23 = .ok (.iadd, 1) := by decide +kernel
theorem dX9_fault_24 : decode cX9_fault 24 = .ok (.ireturn, 1) := by decide +kernel
theorem dX9_fault_25 : decode cX9_fault 25 = .ok (.aload_n 0, 1) := by decide +kernel
theorem dX9_fault_26 : decode cX9_fault 26 = .ok (.invokevirtual 198, 3) := by decide +kernel
theorem dX9_fault_29 : decode cX9_fault 29 = .ok (.iconst 0, 1) := by decide +kernel
theorem dX9_fault_30 : decode cX9_fault 30 = .ok (.istore_n 2, 1) := by decide +kernel
theorem dX9_fault_31 : decode cX9_fault 31 = .ok (.iload_n 2, 1) := by decide +kernel
theorem dX9_fault_32 : decode cX9_fault 32 = .ok (.bipush 6, 2) := by decide +kernel
theorem dX9_fault_34 : decode cX9_fault 34 = .ok (.if_icmp .ge 51, 3) := by decide +kernel
theorem dX9_fault_37 : decode cX9_fault 37 = .ok (.bipush 64, 2) := by decide +kernel
theorem dX9_fault_39 : decode cX9_fault 39 = .ok (.iload_n 2, 1) := by decide +kernel
theorem dX9_fault_40 : decode cX9_fault 40 = .ok (.imul, 1) := by decide +kernel
theorem dX9_fault_41 : decode cX9_fault 41 = .ok (.istore_n 3, 1) := by decide +kernel
theorem dX9_fault_42 : decode cX9_fault 42 = .ok (.iload_n 3, 1) := by decide +kernel
theorem dX9_fault_43 : decode cX9_fault 43 = .ok (.bipush 64, 2) := by decide +kernel
theorem dX9_fault_45 : decode cX9_fault 45 = .ok (.iload_n 2, 1) := by decide +kernel
theorem dX9_fault_46 : decode cX9_fault 46 = .ok (.imul, 1) := by decide +kernel
theorem dX9_fault_47 : decode cX9_fault 47 = .ok (.aload_n 0, 1) := by decide +kernel
theorem dX9_fault_48 : decode cX9_fault 48 = .ok (.getfield 33, 3) := by decide +kernel
theorem dX9_fault_51 : decode cX9_fault 51 = .ok (.iload_n 2, 1) := by decide +kernel
theorem dX9_fault_52 : decode cX9_fault 52 = .ok (.iaload, 1) := by decide +kernel
theorem dX9_fault_53 : decode cX9_fault 53 = .ok (.iadd, 1) := by decide +kernel
theorem dX9_fault_54 : decode cX9_fault 54 = .ok (.if_icmp .ge 25, 3) := by decide +kernel
theorem dX9_fault_57 : decode cX9_fault 57 = .ok (.aload_n 0, 1) := by decide +kernel
theorem dX9_fault_58 : decode cX9_fault 58 = .ok (.getfield 39, 3) := by decide +kernel
theorem dX9_fault_61 : decode cX9_fault 61 = .ok (.iload_n 3, 1) := by decide +kernel
theorem dX9_fault_62 : decode cX9_fault 62 = .ok (.baload, 1) := by decide +kernel
theorem dX9_fault_63 : decode cX9_fault 63 = .ok (.ifCond .ne 10, 3) := by decide +kernel
theorem dX9_fault_66 : decode cX9_fault 66 = .ok (.iconst 3, 1) := by decide +kernel
theorem dX9_fault_67 : decode cX9_fault 67 = .ok (.bipush 10, 2) := by decide +kernel
theorem dX9_fault_69 : decode cX9_fault 69 = .ok (.iload_n 2, 1) := by decide +kernel
theorem dX9_fault_70 : decode cX9_fault 70 = .ok (.imul, 1) := by decide +kernel
theorem dX9_fault_71 : decode cX9_fault 71 = .ok (.iadd, 1) := by decide +kernel
theorem dX9_fault_72 : decode cX9_fault 72 = .ok (.ireturn, 1) := by decide +kernel
theorem dX9_fault_73 : decode cX9_fault 73 = .ok (.iinc 3 1, 3) := by decide +kernel
theorem dX9_fault_76 : decode cX9_fault 76 = .ok (.goto (-34), 3) := by decide +kernel
theorem dX9_fault_79 : decode cX9_fault 79 = .ok (.iinc 2 1, 3) := by decide +kernel
theorem dX9_fault_82 : decode cX9_fault 82 = .ok (.goto (-51), 3) := by decide +kernel
theorem dX9_fault_85 : decode cX9_fault 85 = .ok (.iconst 0, 1) := by decide +kernel
theorem dX9_fault_86 : decode cX9_fault 86 = .ok (.ireturn, 1) := by decide +kernel
theorem dX9_check_0 : decode cX9_check 0 = .ok (.aload_n 0, 1) := by decide +kernel
theorem dX9_check_1 : decode cX9_check 1 = .ok (.iconst 0, 1) := by decide +kernel
theorem dX9_check_2 : decode cX9_check 2 = .ok (.putfield 105, 3) := by decide +kernel
theorem dX9_check_5 : decode cX9_check 5 = .ok (.aload_n 0, 1) := by decide +kernel
theorem dX9_check_6 : decode cX9_check 6 = .ok (.invokevirtual 204, 3) := by decide +kernel
theorem dX9_check_9 : decode cX9_check 9 = .ok (.ireturn, 1) := by decide +kernel
theorem dX9_push_0 : decode cX9_push 0 = .ok (.aload_n 0, 1) := by decide +kernel
theorem dX9_push_1 : decode cX9_push 1 = .ok (.getfield 45, 3) := by decide +kernel
theorem dX9_push_4 : decode cX9_push 4 = .ok (.aload_n 0, 1) := by decide +kernel
theorem dX9_push_5 : decode cX9_push 5 = .ok (.getfield 207, 3) := by decide +kernel
theorem dX9_push_8 : decode cX9_push 8 = .ok (.iload_n 1, 1) := by decide +kernel
theorem dX9_push_9 : decode cX9_push 9 = .ok (.iastore, 1) := by decide +kernel
theorem dX9_push_10 : decode cX9_push 10 = .ok (.aload_n 0, 1) := by decide +kernel
theorem dX9_push_11 : decode cX9_push 11 = .ok (.getfield 48, 3) := by decide +kernel
theorem dX9_push_14 : decode cX9_push 14 = .ok (.aload_n 0, 1) := by decide +kernel
theorem dX9_push_15 : decode cX9_push 15 = .ok (.getfield 207, 3) := by decide +kernel
theorem dX9_push_18 : decode cX9_push 18 = .ok (.iload_n 2, 1) := by decide +kernel
theorem dX9_push_19 : decode cX9_push 19 = .ok (.iastore, 1) := by decide +kernel
theorem dX9_push_20 : decode cX9_push 20 = .ok (.aload_n 0, 1) := by decide +kernel
theorem dX9_push_21 : decode cX9_push 21 = .ok (.getfield 51, 3) := by decide +kernel
theorem dX9_push_24 : decode cX9_push 24 = .ok (.aload_n 0, 1) := by decide +kernel
theorem dX9_push_25 : decode cX9_push 25 = .ok (.getfield 207, 3) := by decide +kernel
theorem dX9_push_28 : decode cX9_push 28 = .ok (.aload_n 0, 1) := by decide +kernel
theorem dX9_push_29 : decode cX9_push 29 = .ok (.getfield 210, 3) := by decide +kernel
theorem dX9_push_32 : decode cX9_push 32 = .ok (.iastore, 1) := by decide +kernel
theorem dX9_push_33 : decode cX9_push 33 = .ok (.aload_n 0, 1) := by decide +kernel
theorem dX9_push_34 : decode cX9_push 34 = .ok (.getfield 54, 3) := by decide +kernel
theorem dX9_push_37 : decode cX9_push 37 = .ok (.aload_n 0, 1) := by decide +kernel
theorem dX9_push_38 : decode cX9_push 38 = .ok (.getfield 207, 3) := by decide +kernel
theorem dX9_push_41 : decode cX9_push 41 = .ok (.iconst 0, 1) := by decide +kernel
theorem dX9_push_42 : decode cX9_push 42 = .ok (.bastore, 1) := by decide +kernel
theorem dX9_push_43 : decode cX9_push 43 = .ok (.aload_n 0, 1) := by decide +kernel
theorem dX9_push_44 : decode cX9_push 44 = .ok (.dup, 1) := by decide +kernel
theorem dX9_push_45 : decode cX9_push 45 = .ok (.getfield 207, 3) := by decide +kernel
theorem dX9_push_48 : decode cX9_push 48 = .ok (.iconst 1, 1) := by decide +kernel
theorem dX9_push_49 : decode cX9_push 49 = .ok (.iadd, 1) := by decide +kernel
theorem dX9_push_50 : decode cX9_push 50 = .ok (.putfield 207, 3) := by decide +kernel
theorem dX9_push_53 : decode cX9_push 53 = .ok (.return_, 1) := by decide +kernel
theorem dX9_record_0 : decode cX9_record 0 = .ok (.aload_n 0, 1) := by decide +kernel
theorem dX9_record_1 : decode cX9_record 1 = .ok (.getfield 210, 3) := by decide +kernel
theorem dX9_record_4 : decode cX9_record 4 = .ok (.bipush 64, 2) := by decide +kernel
theorem dX9_record_6 : decode cX9_record 6 = .ok (.if_icmp .ge 33, 3) := by decide +kernel
theorem dX9_record_9 : decode cX9_record 9 = .ok (.aload_n 0, 1) := by decide +kernel
theorem dX9_record_10 : decode cX9_record 10 = .ok (.getfield 60, 3) := by decide +kernel
theorem dX9_record_13 : decode cX9_record 13 = .ok (.aload_n 0, 1) := by decide +kernel
theorem dX9_record_14 : decode cX9_record 14 = .ok (.getfield 210, 3) := by decide +kernel
theorem dX9_record_17 : decode cX9_record 17 = .ok (.iload_n 1, 1) := by decide +kernel
theorem dX9_record_18 : decode cX9_record 18 = .ok (.iastore, 1) := by decide +kernel
theorem dX9_record_19 : decode cX9_record 19 = .ok (.aload_n 0, 1) := by decide +kernel
theorem dX9_record_20 : decode cX9_record 20 = .ok (.getfield 63, 3) := by decide +kernel
theorem dX9_record_23 : decode cX9_record 23 = .ok (.aload_n 0, 1) := by decide +kernel
theorem dX9_record_24 : decode cX9_record 24 = .ok (.getfield 210, 3) := by decide +kernel
theorem dX9_record_27 : decode cX9_record 27 = .ok (.iload_n 2, 1) := by decide +kernel
theorem dX9_record_28 : decode cX9_record 28 = .ok (.iastore, 1) := by decide +kernel
theorem dX9_record_29 : decode cX9_record 29 = .ok (.aload_n 0, 1) := by decide +kernel
theorem dX9_record_30 : decode cX9_record 30 = .ok (.getfield 66, 3) := by decide +kernel
theorem dX9_record_33 : decode cX9_record 33 = .ok (.aload_n 0, 1) := by decide +kernel
theorem dX9_record_34 : decode cX9_record 34 = .ok (.getfield 210, 3) := by decide +kernel
theorem dX9_record_37 : decode cX9_record 37 = .ok (.iload_n 3, 1) := by decide +kernel
theorem dX9_record_38 : decode cX9_record 38 = .ok (.iastore, 1) := by decide +kernel
theorem dX9_record_39 : decode cX9_record 39 = .ok (.aload_n 0, 1) := by decide +kernel
theorem dX9_record_40 : decode cX9_record 40 = .ok (.dup, 1) := by decide +kernel
theorem dX9_record_41 : decode cX9_record 41 = .ok (.getfield 210, 3) := by decide +kernel
theorem dX9_record_44 : decode cX9_record 44 = .ok (.iconst 1, 1) := by decide +kernel
theorem dX9_record_45 : decode cX9_record 45 = .ok (.iadd, 1) := by decide +kernel
theorem dX9_record_46 : decode cX9_record 46 = .ok (.putfield 210, 3) := by decide +kernel
theorem dX9_record_49 : decode cX9_record 49 = .ok (.return_, 1) := by decide +kernel
theorem dX9_ask_0 : decode cX9_ask 0 = .ok (.aload_n 0, 1) := by decide +kernel
theorem dX9_ask_1 : decode cX9_ask 1 = .ok (.getfield 17, 3) := by decide +kernel
theorem dX9_ask_4 : decode cX9_ask 4 = .ok (.iload_n 1, 1) := by decide +kernel
theorem dX9_ask_5 : decode cX9_ask 5 = .ok (.iaload, 1) := by decide +kernel
theorem dX9_ask_6 : decode cX9_ask 6 = .ok (.ifCond .ne 43, 3) := by decide +kernel
theorem dX9_ask_9 : decode cX9_ask 9 = .ok (.iload_n 2, 1) := by decide +kernel
theorem dX9_ask_10 : decode cX9_ask 10 = .ok (.aload_n 0, 1) := by decide +kernel
theorem dX9_ask_11 : decode cX9_ask 11 = .ok (.getfield 168, 3) := by decide +kernel
theorem dX9_ask_14 : decode cX9_ask 14 = .ok (.if_icmp .ge 33, 3) := by decide +kernel
theorem dX9_ask_17 : decode cX9_ask 17 = .ok (.aload_n 0, 1) := by decide +kernel
theorem dX9_ask_18 : decode cX9_ask 18 = .ok (.getfield 13, 3) := by decide +kernel
theorem dX9_ask_21 : decode cX9_ask 21 = .ok (.iload_n 2, 1) := by decide +kernel
theorem dX9_ask_22 : decode cX9_ask 22 = .ok (.iaload, 1) := by decide +kernel
theorem dX9_ask_23 : decode cX9_ask 23 = .ok (.aload_n 0, 1) := by decide +kernel
theorem dX9_ask_24 : decode cX9_ask 24 = .ok (.getfield 20, 3) := by decide +kernel
theorem dX9_ask_27 : decode cX9_ask 27 = .ok (.iload_n 1, 1) := by decide +kernel
theorem dX9_ask_28 : decode cX9_ask 28 = .ok (.iaload, 1) := by decide +kernel
theorem dX9_ask_29 : decode cX9_ask 29 = .ok (.aload_n 0, 1) := by decide +kernel
theorem dX9_ask_30 : decode cX9_ask 30 = .ok (.getfield 23, 3) := by decide +kernel
theorem dX9_ask_33 : decode cX9_ask 33 = .ok (.iload_n 1, 1) := by decide +kernel
theorem dX9_ask_34 : decode cX9_ask 34 = .ok (.iaload, 1) := by decide +kernel
theorem dX9_ask_35 : decode cX9_ask 35 = .ok (.invokestatic 109, 3) := by decide +kernel
theorem dX9_ask_38 : decode cX9_ask 38 = .ok (.ifCond .eq 9, 3) := by decide +kernel
theorem dX9_ask_41 : decode cX9_ask 41 = .ok (.iload_n 2, 1) := by decide +kernel
theorem dX9_ask_42 : decode cX9_ask 42 = .ok (.iconst 1, 1) := by decide +kernel
theorem dX9_ask_43 : decode cX9_ask 43 = .ok (.iadd, 1) := by decide +kernel
theorem dX9_ask_44 : decode cX9_ask 44 = .ok (.goto 4, 3) := by decide +kernel
theorem dX9_ask_47 : decode cX9_ask 47 = .ok (.iconst (-1), 1) := by decide +kernel
theorem dX9_ask_48 : decode cX9_ask 48 = .ok (.ireturn, 1) := by decide +kernel
theorem dX9_ask_49 : decode cX9_ask 49 = .ok (.aload_n 0, 1) := by decide +kernel
theorem dX9_ask_50 : decode cX9_ask 50 = .ok (.getfield 17, 3) := by decide +kernel
theorem dX9_ask_53 : decode cX9_ask 53 = .ok (.iload_n 1, 1) := by decide +kernel
theorem dX9_ask_54 : decode cX9_ask 54 = .ok (.iaload, 1) := by decide +kernel
theorem dX9_ask_55 : decode cX9_ask 55 = .ok (.iconst 1, 1) := by decide +kernel
theorem dX9_ask_56 : decode cX9_ask 56 = .ok (.if_icmp .eq 12, 3) := by decide +kernel
theorem dX9_ask_59 : decode cX9_ask 59 = .ok (.aload_n 0, 1) := by decide +kernel
theorem dX9_ask_60 : decode cX9_ask 60 = .ok (.iload_n 1, 1) := by decide +kernel
theorem dX9_ask_61 : decode cX9_ask 61 = .ok (.iload_n 2, 1) := by decide +kernel
theorem dX9_ask_62 : decode cX9_ask 62 = .ok (.invokevirtual 213, 3) := by decide +kernel
theorem dX9_ask_65 : decode cX9_ask 65 = .ok (.bipush (-2), 2) := by decide +kernel
theorem dX9_ask_67 : decode cX9_ask 67 = .ok (.ireturn, 1) := by decide +kernel
theorem dX9_ask_68 : decode cX9_ask 68 = .ok (.aload_n 0, 1) := by decide +kernel
theorem dX9_ask_69 : decode cX9_ask 69 = .ok (.getfield 20, 3) := by decide +kernel
theorem dX9_ask_72 : decode cX9_ask 72 = .ok (.iload_n 1, 1) := by decide +kernel
theorem dX9_ask_73 : decode cX9_ask 73 = .ok (.iaload, 1) := by decide +kernel
theorem dX9_ask_74 : decode cX9_ask 74 = .ok (.istore_n 3, 1) := by decide +kernel
theorem dX9_ask_75 : decode cX9_ask 75 = .ok (.aload_n 0, 1) := by decide +kernel
theorem dX9_ask_76 : decode cX9_ask 76 = .ok (.getfield 42, 3) := by decide +kernel
theorem dX9_ask_79 : decode cX9_ask 79 = .ok (.bipush 21, 2) := by decide +kernel
theorem dX9_ask_81 : decode cX9_ask 81 = .ok (.iload_n 3, 1) := by decide +kernel
theorem dX9_ask_82 : decode cX9_ask 82 = .ok (.imul, 1) := by decide +kernel
theorem dX9_ask_83 : decode cX9_ask 83 = .ok (.iload_n 2, 1) := by decide +kernel
theorem dX9_ask_84 : decode cX9_ask 84 = .ok (.iadd, 1) := by decide +kernel
theorem dX9_ask_85 : decode cX9_ask 85 = .ok (.iaload, 1) := by decide +kernel
theorem dX9_ask_86 : decode cX9_ask 86 = .ok (.istore 4, 2) := by decide +kernel
theorem dX9_ask_88 : decode cX9_ask 88 = .ok (.aload_n 0, 1) := by decide +kernel
theorem dX9_ask_89 : decode cX9_ask 89 = .ok (.getfield 217, 3) := by decide +kernel
theorem dX9_ask_92 : decode cX9_ask 92 = .ok (.ifCond .eq 19, 3) := by decide +kernel
theorem dX9_ask_95 : decode cX9_ask 95 = .ok (.iload 4, 2) := by decide +kernel
theorem dX9_ask_97 : decode cX9_ask 97 = .ok (.ifCond .lt 11, 3) := by decide +kernel
theorem dX9_ask_100 : decode cX9_ask 100 = .ok (.aload_n 0, 1) := by decide +kernel
theorem dX9_ask_101 : decode cX9_ask 101 = .ok (.iload_n 3, 1) := by decide +kernel
theorem dX9_ask_102 : decode cX9_ask 102 = .ok (.iload_n 2, 1) := by decide +kernel
theorem dX9_ask_103 : decode cX9_ask 103 = .ok (.iload 4, 2) := by decide +kernel
theorem dX9_ask_105 : decode cX9_ask 105 = .ok (.invokevirtual 221, 3) := by decide +kernel
theorem dX9_ask_108 : decode cX9_ask 108 = .ok (.iload 4, 2) := by decide +kernel
theorem dX9_ask_110 : decode cX9_ask 110 = .ok (.ireturn, 1) := by decide +kernel
theorem dX9_ask_111 : decode cX9_ask 111 = .ok (.iload 4, 2) := by decide +kernel
theorem dX9_ask_113 : decode cX9_ask 113 = .ok (.bipush (-2), 2) := by decide +kernel
theorem dX9_ask_115 : decode cX9_ask 115 = .ok (.if_icmp .eq 16, 3) := by decide +kernel
theorem dX9_ask_118 : decode cX9_ask 118 = .ok (.aload_n 0, 1) := by decide +kernel
theorem dX9_ask_119 : decode cX9_ask 119 = .ok (.dup, 1) := by decide +kernel
theorem dX9_ask_120 : decode cX9_ask 120 = .ok (.getfield 225, 3) := by decide +kernel
theorem dX9_ask_123 : decode cX9_ask 123 = .ok (.iconst 1, 1) := by decide +kernel
theorem dX9_ask_124 : decode cX9_ask 124 = .ok (.iadd, 1) := by decide +kernel
theorem dX9_ask_125 : decode cX9_ask 125 = .ok (.putfield 225, 3) := by decide +kernel
theorem dX9_ask_128 : decode cX9_ask 128 = .ok (.iload 4, 2) := by decide +kernel
theorem dX9_ask_130 : decode cX9_ask 130 = .ok (.ireturn, 1) := by decide +kernel
theorem dX9_ask_131 : decode cX9_ask 131 = .ok (.aload_n 0, 1) := by decide +kernel
theorem dX9_ask_132 : decode cX9_ask 132 = .ok (.getfield 228, 3) := by decide +kernel
theorem dX9_ask_135 : decode cX9_ask 135 = .ok (.aload_n 0, 1) := by decide +kernel
theorem dX9_ask_136 : decode cX9_ask 136 = .ok (.getfield 26, 3) := by decide +kernel
theorem dX9_ask_139 : decode cX9_ask 139 = .ok (.iload_n 1, 1) := by decide +kernel
theorem dX9_ask_140 : decode cX9_ask 140 = .ok (.iaload, 1) := by decide +kernel
theorem dX9_ask_141 : decode cX9_ask 141 = .ok (.iadd, 1) := by decide +kernel
theorem dX9_ask_142 : decode cX9_ask 142 = .ok (.iconst 2, 1) := by decide +kernel
theorem dX9_ask_143 : decode cX9_ask 143 = .ok (.iadd, 1) := by decide +kernel
theorem dX9_ask_144 : decode cX9_ask 144 = .ok (.bipush 40, 2) := by decide +kernel
theorem dX9_ask_146 : decode cX9_ask 146 = .ok (.if_icmp .le 6, 3) := by decide +kernel
theorem dX9_ask_149 : decode cX9_ask 149 = .ok (.bipush (-3), 2) := by decide +kernel
theorem dX9_ask_151 : decode cX9_ask 151 = .ok (.ireturn, 1) := by decide +kernel
theorem dX9_ask_152 : decode cX9_ask 152 = .ok (.aload_n 0, 1) := by decide +kernel
theorem dX9_ask_153 : decode cX9_ask 153 = .ok (.dup, 1) := by decide +kernel
theorem dX9_ask_154 : decode cX9_ask 154 = .ok (.getfield 231, 3) := by decide +kernel
theorem dX9_ask_157 : decode cX9_ask 157 = .ok (.iconst 1, 1) := by decide +kernel
theorem dX9_ask_158 : decode cX9_ask 158 = .ok (.iadd, 1) := by decide +kernel
theorem dX9_ask_159 : decode cX9_ask 159 = .ok (.putfield 231, 3) := by decide +kernel
theorem dX9_ask_162 : decode cX9_ask 162 = .ok (.aload_n 0, 1) := by decide +kernel
theorem dX9_ask_163 : decode cX9_ask 163 = .ok (.iload_n 1, 1) := by decide +kernel
theorem dX9_ask_164 : decode cX9_ask 164 = .ok (.iload_n 2, 1) := by decide +kernel
theorem dX9_ask_165 : decode cX9_ask 165 = .ok (.invokevirtual 213, 3) := by decide +kernel
theorem dX9_ask_168 : decode cX9_ask 168 = .ok (.aload_n 0, 1) := by decide +kernel
theorem dX9_ask_169 : decode cX9_ask 169 = .ok (.getfield 57, 3) := by decide +kernel
theorem dX9_ask_172 : decode cX9_ask 172 = .ok (.aload_n 0, 1) := by decide +kernel
theorem dX9_ask_173 : decode cX9_ask 173 = .ok (.getfield 207, 3) := by decide +kernel
theorem dX9_ask_176 : decode cX9_ask 176 = .ok (.iconst 1, 1) := by decide +kernel
theorem dX9_ask_177 : decode cX9_ask 177 = .ok (.isub, 1) := by decide +kernel
theorem dX9_ask_178 : decode cX9_ask 178 = .ok (.aload_n 0, 1) := by decide +kernel
theorem dX9_ask_179 : decode cX9_ask 179 = .ok (.getfield 228, 3) := by decide +kernel
theorem dX9_ask_182 : decode cX9_ask 182 = .ok (.iastore, 1) := by decide +kernel
theorem dX9_ask_183 : decode cX9_ask 183 = .ok (.aload_n 0, 1) := by decide +kernel
theorem dX9_ask_184 : decode cX9_ask 184 = .ok (.aload_n 0, 1) := by decide +kernel
theorem dX9_ask_185 : decode cX9_ask 185 = .ok (.getfield 228, 3) := by decide +kernel
theorem dX9_ask_188 : decode cX9_ask 188 = .ok (.aload_n 0, 1) := by decide +kernel
theorem dX9_ask_189 : decode cX9_ask 189 = .ok (.getfield 26, 3) := by decide +kernel
theorem dX9_ask_192 : decode cX9_ask 192 = .ok (.iload_n 1, 1) := by decide +kernel
theorem dX9_ask_193 : decode cX9_ask 193 = .ok (.iaload, 1) := by decide +kernel
theorem dX9_ask_194 : decode cX9_ask 194 = .ok (.iadd, 1) := by decide +kernel
theorem dX9_ask_195 : decode cX9_ask 195 = .ok (.iconst 2, 1) := by decide +kernel
theorem dX9_ask_196 : decode cX9_ask 196 = .ok (.iadd, 1) := by decide +kernel
theorem dX9_ask_197 : decode cX9_ask 197 = .ok (.putfield 228, 3) := by decide +kernel
theorem dX9_ask_200 : decode cX9_ask 200 = .ok (.bipush (-2), 2) := by decide +kernel
theorem dX9_ask_202 : decode cX9_ask 202 = .ok (.ireturn, 1) := by decide +kernel
theorem dX9_base_0 : decode cX9_base 0 = .ok (.iload_n 0, 1) := by decide +kernel
theorem dX9_base_1 : decode cX9_base 1 = .ok (.bipush 64, 2) := by decide +kernel
theorem dX9_base_3 : decode cX9_base 3 = .ok (.idiv, 1) := by decide +kernel
theorem dX9_base_4 : decode cX9_base 4 = .ok (.bipush 64, 2) := by decide +kernel
theorem dX9_base_6 : decode cX9_base 6 = .ok (.imul, 1) := by decide +kernel
theorem dX9_base_7 : decode cX9_base 7 = .ok (.ireturn, 1) := by decide +kernel
theorem dX9_wanted_0 : decode cX9_wanted 0 = .ok (.aload_n 0, 1) := by decide +kernel
theorem dX9_wanted_1 : decode cX9_wanted 1 = .ok (.getfield 45, 3) := by decide +kernel
theorem dX9_wanted_4 : decode cX9_wanted 4 = .ok (.aload_n 0, 1) := by decide +kernel
theorem dX9_wanted_5 : decode cX9_wanted 5 = .ok (.getfield 207, 3) := by decide +kernel
theorem dX9_wanted_8 : decode cX9_wanted 8 = .ok (.iconst 1, 1) := by decide +kernel
theorem dX9_wanted_9 : decode cX9_wanted 9 = .ok (.isub, 1) := by decide +kernel
theorem dX9_wanted_10 : decode cX9_wanted 10 = .ok (.iaload, 1) := by decide +kernel
theorem dX9_wanted_11 : decode cX9_wanted 11 = .ok (.istore_n 1, 1) := by decide +kernel
theorem dX9_wanted_12 : decode cX9_wanted 12 = .ok (.aload_n 0, 1) := by decide +kernel
theorem dX9_wanted_13 : decode cX9_wanted 13 = .ok (.getfield 17, 3) := by decide +kernel
theorem dX9_wanted_16 : decode cX9_wanted 16 = .ok (.iload_n 1, 1) := by decide +kernel
theorem dX9_wanted_17 : decode cX9_wanted 17 = .ok (.iaload, 1) := by decide +kernel
theorem dX9_wanted_18 : decode cX9_wanted 18 = .ok (.iconst 1, 1) := by decide +kernel
theorem dX9_wanted_19 : decode cX9_wanted 19 = .ok (.if_icmp .ne 29, 3) := by decide +kernel
theorem dX9_wanted_22 : decode cX9_wanted 22 = .ok (.bipush 64, 2) := by decide +kernel
theorem dX9_wanted_24 : decode cX9_wanted 24 = .ok (.aload_n 0, 1) := by decide +kernel
theorem dX9_wanted_25 : decode cX9_wanted 25 = .ok (.getfield 20, 3) := by decide +kernel
theorem dX9_wanted_28 : decode cX9_wanted 28 = .ok (.iload_n 1, 1) := by decide +kernel
theorem dX9_wanted_29 : decode cX9_wanted 29 = .ok (.iaload, 1) := by decide +kernel
theorem dX9_wanted_30 : decode cX9_wanted 30 = .ok (.imul, 1) := by decide +kernel
theorem dX9_wanted_31 : decode cX9_wanted 31 = .ok (.aload_n 0, 1) := by decide +kernel
theorem dX9_wanted_32 : decode cX9_wanted 32 = .ok (.getfield 33, 3) := by decide +kernel
theorem dX9_wanted_35 : decode cX9_wanted 35 = .ok (.aload_n 0, 1) := by decide +kernel
theorem dX9_wanted_36 : decode cX9_wanted 36 = .ok (.getfield 20, 3) := by decide +kernel
theorem dX9_wanted_39 : decode cX9_wanted 39 = .ok (.iload_n 1, 1) := by decide +kernel
theorem dX9_wanted_40 : decode cX9_wanted 40 = .ok (.iaload, 1) := by decide +kernel
theorem dX9_wanted_41 : decode cX9_wanted 41 = .ok (.iaload, 1) := by decide +kernel
theorem dX9_wanted_42 : decode cX9_wanted 42 = .ok (.iadd, 1) := by decide +kernel
theorem dX9_wanted_43 : decode cX9_wanted 43 = .ok (.iconst 1, 1) := by decide +kernel
theorem dX9_wanted_44 : decode cX9_wanted 44 = .ok (.isub, 1) := by decide +kernel
theorem dX9_wanted_45 : decode cX9_wanted 45 = .ok (.goto 14, 3) := by decide +kernel
theorem dX9_wanted_48 : decode cX9_wanted 48 = .ok (.iload_n 1, 1) := by decide +kernel
theorem dX9_wanted_49 : decode cX9_wanted 49 = .ok (.invokestatic 234, 3) := by decide +kernel
theorem dX9_wanted_52 : decode cX9_wanted 52 = .ok (.aload_n 0, 1) := by decide +kernel
theorem dX9_wanted_53 : decode cX9_wanted 53 = .ok (.getfield 20, 3) := by decide +kernel
theorem dX9_wanted_56 : decode cX9_wanted 56 = .ok (.iload_n 1, 1) := by decide +kernel
theorem dX9_wanted_57 : decode cX9_wanted 57 = .ok (.iaload, 1) := by decide +kernel
theorem dX9_wanted_58 : decode cX9_wanted 58 = .ok (.iadd, 1) := by decide +kernel
theorem dX9_wanted_59 : decode cX9_wanted 59 = .ok (.ireturn, 1) := by decide +kernel
theorem dX9_answer_0 : decode cX9_answer 0 = .ok (.aload_n 0, 1) := by decide +kernel
theorem dX9_answer_1 : decode cX9_answer 1 = .ok (.getfield 45, 3) := by decide +kernel
theorem dX9_answer_4 : decode cX9_answer 4 = .ok (.aload_n 0, 1) := by decide +kernel
theorem dX9_answer_5 : decode cX9_answer 5 = .ok (.getfield 207, 3) := by decide +kernel
theorem dX9_answer_8 : decode cX9_answer 8 = .ok (.iconst 1, 1) := by decide +kernel
theorem dX9_answer_9 : decode cX9_answer 9 = .ok (.isub, 1) := by decide +kernel
theorem dX9_answer_10 : decode cX9_answer 10 = .ok (.iaload, 1) := by decide +kernel
theorem dX9_answer_11 : decode cX9_answer 11 = .ok (.istore_n 2, 1) := by decide +kernel
theorem dX9_answer_12 : decode cX9_answer 12 = .ok (.aload_n 0, 1) := by decide +kernel
theorem dX9_answer_13 : decode cX9_answer 13 = .ok (.getfield 48, 3) := by decide +kernel
theorem dX9_answer_16 : decode cX9_answer 16 = .ok (.aload_n 0, 1) := by decide +kernel
theorem dX9_answer_17 : decode cX9_answer 17 = .ok (.getfield 207, 3) := by decide +kernel
theorem dX9_answer_20 : decode cX9_answer 20 = .ok (.iconst 1, 1) := by decide +kernel
theorem dX9_answer_21 : decode cX9_answer 21 = .ok (.isub, 1) := by decide +kernel
theorem dX9_answer_22 : decode cX9_answer 22 = .ok (.iaload, 1) := by decide +kernel
theorem dX9_answer_23 : decode cX9_answer 23 = .ok (.istore_n 3, 1) := by decide +kernel
theorem dX9_answer_24 : decode cX9_answer 24 = .ok (.iload_n 1, 1) := by decide +kernel
theorem dX9_answer_25 : decode cX9_answer 25 = .ok (.ifCond .ge 7, 3) := by decide +kernel
theorem dX9_answer_28 : decode cX9_answer 28 = .ok (.iconst 1, 1) := by decide +kernel
theorem dX9_answer_29 : decode cX9_answer 29 = .ok (.goto 4, 3) := by decide +kernel
theorem dX9_answer_32 : decode cX9_answer 32 = .ok (.iconst 0, 1) := by decide +kernel
theorem dX9_answer_33 : decode cX9_answer 33 = .ok (.istore 4, 2) := by decide +kernel
theorem dX9_answer_35 : decode cX9_answer 35 = .ok (.iload 4, 2) := by decide +kernel
theorem dX9_answer_37 : decode cX9_answer 37 = .ok (.ifCond .eq 23, 3) := by decide +kernel
theorem dX9_answer_40 : decode cX9_answer 40 = .ok (.aload_n 0, 1) := by decide +kernel
theorem dX9_answer_41 : decode cX9_answer 41 = .ok (.getfield 17, 3) := by decide +kernel
theorem dX9_answer_44 : decode cX9_answer 44 = .ok (.iload_n 2, 1) := by decide +kernel
theorem dX9_answer_45 : decode cX9_answer 45 = .ok (.iaload, 1) := by decide +kernel
theorem dX9_answer_46 : decode cX9_answer 46 = .ok (.iconst 1, 1) := by decide +kernel
theorem dX9_answer_47 : decode cX9_answer 47 = .ok (.if_icmp .eq 13, 3) := by decide +kernel
theorem dX9_answer_50 : decode cX9_answer 50 = .ok (.aload_n 0, 1) := by decide +kernel
theorem dX9_answer_51 : decode cX9_answer 51 = .ok (.getfield 17, 3) := by decide +kernel
theorem dX9_answer_54 : decode cX9_answer 54 = .ok (.iload_n 2, 1) := by decide +kernel
theorem dX9_answer_55 : decode cX9_answer 55 = .ok (.iaload, 1) := by decide +kernel
theorem dX9_answer_56 : decode cX9_answer 56 = .ok (.iconst 2, 1) := by decide +kernel
theorem dX9_answer_57 : decode cX9_answer 57 = .ok (.if_icmp .ne 25, 3) := by decide +kernel
theorem dX9_answer_60 : decode cX9_answer 60 = .ok (.aload_n 0, 1) := by decide +kernel
theorem dX9_answer_61 : decode cX9_answer 61 = .ok (.getfield 17, 3) := by decide +kernel
theorem dX9_answer_64 : decode cX9_answer 64 = .ok (.iload_n 2, 1) := by decide +kernel
theorem dX9_answer_65 : decode cX9_answer 65 = .ok (.iaload, 1) := by decide +kernel
theorem dX9_answer_66 : decode cX9_answer 66 = .ok (.bipush 7, 2) := by decide +kernel
theorem dX9_answer_68 : decode cX9_answer 68 = .ok (.if_icmp .eq 14, 3) := by decide +kernel
theorem dX9_answer_71 : decode cX9_answer 71 = .ok (.aload_n 0, 1) := by decide +kernel
theorem dX9_answer_72 : decode cX9_answer 72 = .ok (.getfield 17, 3) := by decide +kernel
theorem dX9_answer_75 : decode cX9_answer 75 = .ok (.iload_n 2, 1) := by decide +kernel
theorem dX9_answer_76 : decode cX9_answer 76 = .ok (.iaload, 1) := by decide +kernel
theorem dX9_answer_77 : decode cX9_answer 77 = .ok (.bipush 8, 2) := by decide +kernel
theorem dX9_answer_79 : decode cX9_answer 79 = .ok (.if_icmp .ne 18, 3) := by decide +kernel
theorem dX9_answer_82 : decode cX9_answer 82 = .ok (.aload_n 0, 1) := by decide +kernel
theorem dX9_answer_83 : decode cX9_answer 83 = .ok (.aload_n 0, 1) := by decide +kernel
theorem dX9_answer_84 : decode cX9_answer 84 = .ok (.getfield 51, 3) := by decide +kernel
theorem dX9_answer_87 : decode cX9_answer 87 = .ok (.aload_n 0, 1) := by decide +kernel
theorem dX9_answer_88 : decode cX9_answer 88 = .ok (.getfield 207, 3) := by decide +kernel
theorem dX9_answer_91 : decode cX9_answer 91 = .ok (.iconst 1, 1) := by decide +kernel
theorem dX9_answer_92 : decode cX9_answer 92 = .ok (.isub, 1) := by decide +kernel
theorem dX9_answer_93 : decode cX9_answer 93 = .ok (.iaload, 1) := by decide +kernel
theorem dX9_answer_94 : decode cX9_answer 94 = .ok (.putfield 210, 3) := by decide +kernel
theorem dX9_answer_97 : decode cX9_answer 97 = .ok (.aload_n 0, 1) := by decide +kernel
theorem dX9_answer_98 : decode cX9_answer 98 = .ok (.getfield 17, 3) := by decide +kernel
theorem dX9_answer_101 : decode cX9_answer 101 = .ok (.iload_n 2, 1) := by decide +kernel
theorem dX9_answer_102 : decode cX9_answer 102 = .ok (.iaload, 1) := by decide +kernel
theorem dX9_answer_103 : decode cX9_answer 103 = .ok (.tableswitch 136 1 8 #[45, 79, 91, 136, 136, 103, 114, 125], 45) := by decide +kernel
theorem dX9_answer_148 : decode cX9_answer 148 = .ok (.aload_n 0, 1) := by decide +kernel
theorem dX9_answer_149 : decode cX9_answer 149 = .ok (.getfield 42, 3) := by decide +kernel
theorem dX9_answer_152 : decode cX9_answer 152 = .ok (.bipush 21, 2) := by decide +kernel
theorem dX9_answer_154 : decode cX9_answer 154 = .ok (.aload_n 0, 1) := by decide +kernel
theorem dX9_answer_155 : decode cX9_answer 155 = .ok (.getfield 20, 3) := by decide +kernel
theorem dX9_answer_158 : decode cX9_answer 158 = .ok (.iload_n 2, 1) := by decide +kernel
theorem dX9_answer_159 : decode cX9_answer 159 = .ok (.iaload, 1) := by decide +kernel
theorem dX9_answer_160 : decode cX9_answer 160 = .ok (.imul, 1) := by decide +kernel
theorem dX9_answer_161 : decode cX9_answer 161 = .ok (.iload_n 3, 1) := by decide +kernel
theorem dX9_answer_162 : decode cX9_answer 162 = .ok (.iadd, 1) := by decide +kernel
theorem dX9_answer_163 : decode cX9_answer 163 = .ok (.iload_n 1, 1) := by decide +kernel
theorem dX9_answer_164 : decode cX9_answer 164 = .ok (.iastore, 1) := by decide +kernel
theorem dX9_answer_165 : decode cX9_answer 165 = .ok (.aload_n 0, 1) := by decide +kernel
theorem dX9_answer_166 : decode cX9_answer 166 = .ok (.aload_n 0, 1) := by decide +kernel
theorem dX9_answer_167 : decode cX9_answer 167 = .ok (.getfield 57, 3) := by decide +kernel
theorem dX9_answer_170 : decode cX9_answer 170 = .ok (.aload_n 0, 1) := by decide +kernel
theorem dX9_answer_171 : decode cX9_answer 171 = .ok (.getfield 207, 3) := by decide +kernel
theorem dX9_answer_174 : decode cX9_answer 174 = .ok (.iconst 1, 1) := by decide +kernel
theorem dX9_answer_175 : decode cX9_answer 175 = .ok (.isub, 1) := by decide +kernel
theorem dX9_answer_176 : decode cX9_answer 176 = .ok (.iaload, 1) := by decide +kernel
theorem dX9_answer_177 : decode cX9_answer 177 = .ok (.putfield 228, 3) := by decide +kernel
theorem dX9_answer_180 : decode cX9_answer 180 = .ok (.iload_n 1, 1) := by decide +kernel
theorem dX9_answer_181 : decode cX9_answer 181 = .ok (.ireturn, 1) := by decide +kernel
theorem dX9_answer_182 : decode cX9_answer 182 = .ok (.iload 4, 2) := by decide +kernel
theorem dX9_answer_184 : decode cX9_answer 184 = .ok (.ifCond .eq 7, 3) := by decide +kernel
theorem dX9_answer_187 : decode cX9_answer 187 = .ok (.iconst (-1), 1) := by decide +kernel
theorem dX9_answer_188 : decode cX9_answer 188 = .ok (.goto 5, 3) := by decide +kernel
theorem dX9_answer_191 : decode cX9_answer 191 = .ok (.bipush (-2), 2) := by decide +kernel
theorem dX9_answer_193 : decode cX9_answer 193 = .ok (.ireturn, 1) := by decide +kernel
theorem dX9_answer_194 : decode cX9_answer 194 = .ok (.iload 4, 2) := by decide +kernel
theorem dX9_answer_196 : decode cX9_answer 196 = .ok (.ifCond .eq 8, 3) := by decide +kernel
theorem dX9_answer_199 : decode cX9_answer 199 = .ok (.bipush (-2), 2) := by decide +kernel
theorem dX9_answer_201 : decode cX9_answer 201 = .ok (.goto 4, 3) := by decide +kernel
theorem dX9_answer_204 : decode cX9_answer 204 = .ok (.iload_n 1, 1) := by decide +kernel
theorem dX9_answer_205 : decode cX9_answer 205 = .ok (.ireturn, 1) := by decide +kernel
theorem dX9_answer_206 : decode cX9_answer 206 = .ok (.iload 4, 2) := by decide +kernel
theorem dX9_answer_208 : decode cX9_answer 208 = .ok (.ifCond .eq 7, 3) := by decide +kernel
theorem dX9_answer_211 : decode cX9_answer 211 = .ok (.iload_n 3, 1) := by decide +kernel
theorem dX9_answer_212 : decode cX9_answer 212 = .ok (.goto 4, 3) := by decide +kernel
theorem dX9_answer_215 : decode cX9_answer 215 = .ok (.iload_n 1, 1) := by decide +kernel
theorem dX9_answer_216 : decode cX9_answer 216 = .ok (.ireturn, 1) := by decide +kernel
theorem dX9_answer_217 : decode cX9_answer 217 = .ok (.iload 4, 2) := by decide +kernel
theorem dX9_answer_219 : decode cX9_answer 219 = .ok (.ifCond .eq 7, 3) := by decide +kernel
theorem dX9_answer_222 : decode cX9_answer 222 = .ok (.iconst (-1), 1) := by decide +kernel
theorem dX9_answer_223 : decode cX9_answer 223 = .ok (.goto 4, 3) := by decide +kernel
theorem dX9_answer_226 : decode cX9_answer 226 = .ok (.iload_n 3, 1) := by decide +kernel
theorem dX9_answer_227 : decode cX9_answer 227 = .ok (.ireturn, 1) := by decide +kernel
theorem dX9_answer_228 : decode cX9_answer 228 = .ok (.iload 4, 2) := by decide +kernel
theorem dX9_answer_230 : decode cX9_answer 230 = .ok (.ifCond .eq 7, 3) := by decide +kernel
theorem dX9_answer_233 : decode cX9_answer 233 = .ok (.iload_n 3, 1) := by decide +kernel
theorem dX9_answer_234 : decode cX9_answer 234 = .ok (.goto 4, 3) := by decide +kernel
theorem dX9_answer_237 : decode cX9_answer 237 = .ok (.iconst (-1), 1) := by decide +kernel
theorem dX9_answer_238 : decode cX9_answer 238 = .ok (.ireturn, 1) := by decide +kernel
theorem dX9_answer_239 : decode cX9_answer 239 = .ok (.iload 4, 2) := by decide +kernel
theorem dX9_answer_241 : decode cX9_answer 241 = .ok (.ifCond .ne 8, 3) := by decide +kernel
theorem dX9_answer_244 : decode cX9_answer 244 = .ok (.bipush (-2), 2) := by decide +kernel
theorem dX9_answer_246 : decode cX9_answer 246 = .ok (.goto 32, 3) := by decide +kernel
theorem dX9_answer_249 : decode cX9_answer 249 = .ok (.aload_n 0, 1) := by decide +kernel
theorem dX9_answer_250 : decode cX9_answer 250 = .ok (.getfield 17, 3) := by decide +kernel
theorem dX9_answer_253 : decode cX9_answer 253 = .ok (.iload_n 2, 1) := by decide +kernel
theorem dX9_answer_254 : decode cX9_answer 254 = .ok (.iaload, 1) := by decide +kernel
theorem dX9_answer_255 : decode cX9_answer 255 = .ok (.iconst 5, 1) := by decide +kernel
theorem dX9_answer_256 : decode cX9_answer 256 = .ok (.if_icmp .ne 21, 3) := by decide +kernel
theorem dX9_answer_259 : decode cX9_answer 259 = .ok (.aload_n 0, 1) := by decide +kernel
theorem dX9_answer_260 : decode cX9_answer 260 = .ok (.getfield 54, 3) := by decide +kernel
theorem dX9_answer_263 : decode cX9_answer 263 = .ok (.aload_n 0, 1) := by decide +kernel
theorem dX9_answer_264 : decode cX9_answer 264 = .ok (.getfield 207, 3) := by decide +kernel
theorem dX9_answer_267 : decode cX9_answer 267 = .ok (.iconst 1, 1) := by decide +kernel
theorem dX9_answer_268 : decode cX9_answer 268 = .ok (.isub, 1) := by decide +kernel
theorem dX9_answer_269 : decode cX9_answer 269 = .ok (.baload, 1) := by decide +kernel
theorem dX9_answer_270 : decode cX9_answer 270 = .ok (.ifCond .ne 7, 3) := by decide +kernel
theorem dX9_answer_273 : decode cX9_answer 273 = .ok (.iconst (-1), 1) := by decide +kernel
theorem dX9_answer_274 : decode cX9_answer 274 = .ok (.goto 4, 3) := by decide +kernel
theorem dX9_answer_277 : decode cX9_answer 277 = .ok (.iload_n 3, 1) := by decide +kernel
theorem dX9_answer_278 : decode cX9_answer 278 = .ok (.ireturn, 1) := by decide +kernel
theorem dX9_run_0 : decode cX9_run 0 = .ok (.aload_n 0, 1) := by decide +kernel
theorem dX9_run_1 : decode cX9_run 1 = .ok (.iconst 0, 1) := by decide +kernel
theorem dX9_run_2 : decode cX9_run 2 = .ok (.putfield 207, 3) := by decide +kernel
theorem dX9_run_5 : decode cX9_run 5 = .ok (.aload_n 0, 1) := by decide +kernel
theorem dX9_run_6 : decode cX9_run 6 = .ok (.iconst (-1), 1) := by decide +kernel
theorem dX9_run_7 : decode cX9_run 7 = .ok (.putfield 228, 3) := by decide +kernel
theorem dX9_run_10 : decode cX9_run 10 = .ok (.aload_n 0, 1) := by decide +kernel
theorem dX9_run_11 : decode cX9_run 11 = .ok (.iconst 0, 1) := by decide +kernel
theorem dX9_run_12 : decode cX9_run 12 = .ok (.putfield 210, 3) := by decide +kernel
theorem dX9_run_15 : decode cX9_run 15 = .ok (.iload_n 1, 1) := by decide +kernel
theorem dX9_run_16 : decode cX9_run 16 = .ok (.istore_n 3, 1) := by decide +kernel
theorem dX9_run_17 : decode cX9_run 17 = .ok (.iload_n 2, 1) := by decide +kernel
theorem dX9_run_18 : decode cX9_run 18 = .ok (.istore 4, 2) := by decide +kernel
theorem dX9_run_20 : decode cX9_run 20 = .ok (.aload_n 0, 1) := by decide +kernel
theorem dX9_run_21 : decode cX9_run 21 = .ok (.iload_n 3, 1) := by decide +kernel
theorem dX9_run_22 : decode cX9_run 22 = .ok (.iload 4, 2) := by decide +kernel
theorem dX9_run_24 : decode cX9_run 24 = .ok (.invokevirtual 237, 3) := by decide +kernel
theorem dX9_run_27 : decode cX9_run 27 = .ok (.istore 5, 2) := by decide +kernel
theorem dX9_run_29 : decode cX9_run 29 = .ok (.iload 5, 2) := by decide +kernel
theorem dX9_run_31 : decode cX9_run 31 = .ok (.bipush (-2), 2) := by decide +kernel
theorem dX9_run_33 : decode cX9_run 33 = .ok (.if_icmp .eq 17, 3) := by decide +kernel
theorem dX9_run_36 : decode cX9_run 36 = .ok (.aload_n 0, 1) := by decide +kernel
theorem dX9_run_37 : decode cX9_run 37 = .ok (.getfield 207, 3) := by decide +kernel
theorem dX9_run_40 : decode cX9_run 40 = .ok (.ifCond .le 220, 3) := by decide +kernel
theorem dX9_run_43 : decode cX9_run 43 = .ok (.iload 5, 2) := by decide +kernel
theorem dX9_run_45 : decode cX9_run 45 = .ok (.bipush (-3), 2) := by decide +kernel
theorem dX9_run_47 : decode cX9_run 47 = .ok (.if_icmp .eq 213, 3) := by decide +kernel
theorem dX9_run_50 : decode cX9_run 50 = .ok (.iload 5, 2) := by decide +kernel
theorem dX9_run_52 : decode cX9_run 52 = .ok (.bipush (-2), 2) := by decide +kernel
theorem dX9_run_54 : decode cX9_run 54 = .ok (.if_icmp .ne 33, 3) := by decide +kernel
theorem dX9_run_57 : decode cX9_run 57 = .ok (.aload_n 0, 1) := by decide +kernel
theorem dX9_run_58 : decode cX9_run 58 = .ok (.invokevirtual 240, 3) := by decide +kernel
theorem dX9_run_61 : decode cX9_run 61 = .ok (.istore_n 3, 1) := by decide +kernel
theorem dX9_run_62 : decode cX9_run 62 = .ok (.aload_n 0, 1) := by decide +kernel
theorem dX9_run_63 : decode cX9_run 63 = .ok (.getfield 48, 3) := by decide +kernel
theorem dX9_run_66 : decode cX9_run 66 = .ok (.aload_n 0, 1) := by decide +kernel
theorem dX9_run_67 : decode cX9_run 67 = .ok (.getfield 207, 3) := by decide +kernel
theorem dX9_run_70 : decode cX9_run 70 = .ok (.iconst 1, 1) := by decide +kernel
theorem dX9_run_71 : decode cX9_run 71 = .ok (.isub, 1) := by decide +kernel
theorem dX9_run_72 : decode cX9_run 72 = .ok (.iaload, 1) := by decide +kernel
theorem dX9_run_73 : decode cX9_run 73 = .ok (.istore 4, 2) := by decide +kernel
theorem dX9_run_75 : decode cX9_run 75 = .ok (.aload_n 0, 1) := by decide +kernel
theorem dX9_run_76 : decode cX9_run 76 = .ok (.iload_n 3, 1) := by decide +kernel
theorem dX9_run_77 : decode cX9_run 77 = .ok (.iload 4, 2) := by decide +kernel
theorem dX9_run_79 : decode cX9_run 79 = .ok (.invokevirtual 237, 3) := by decide +kernel
theorem dX9_run_82 : decode cX9_run 82 = .ok (.istore 5, 2) := by decide +kernel
theorem dX9_run_84 : decode cX9_run 84 = .ok (.goto (-55), 3) := by decide +kernel
theorem dX9_run_87 : decode cX9_run 87 = .ok (.aload_n 0, 1) := by decide +kernel
theorem dX9_run_88 : decode cX9_run 88 = .ok (.getfield 45, 3) := by decide +kernel
theorem dX9_run_91 : decode cX9_run 91 = .ok (.aload_n 0, 1) := by decide +kernel
theorem dX9_run_92 : decode cX9_run 92 = .ok (.getfield 207, 3) := by decide +kernel
theorem dX9_run_95 : decode cX9_run 95 = .ok (.iconst 1, 1) := by decide +kernel
theorem dX9_run_96 : decode cX9_run 96 = .ok (.isub, 1) := by decide +kernel
theorem dX9_run_97 : decode cX9_run 97 = .ok (.iaload, 1) := by decide +kernel
theorem dX9_run_98 : decode cX9_run 98 = .ok (.istore 6, 2) := by decide +kernel
theorem dX9_run_100 : decode cX9_run 100 = .ok (.iload 5, 2) := by decide +kernel
theorem dX9_run_102 : decode cX9_run 102 = .ok (.istore 7, 2) := by decide +kernel
theorem dX9_run_104 : decode cX9_run 104 = .ok (.aload_n 0, 1) := by decide +kernel
theorem dX9_run_105 : decode cX9_run 105 = .ok (.iload 7, 2) := by decide +kernel
theorem dX9_run_107 : decode cX9_run 107 = .ok (.invokevirtual 243, 3) := by decide +kernel
theorem dX9_run_110 : decode cX9_run 110 = .ok (.istore 5, 2) := by decide +kernel
theorem dX9_run_112 : decode cX9_run 112 = .ok (.iload 5, 2) := by decide +kernel
theorem dX9_run_114 : decode cX9_run 114 = .ok (.bipush (-2), 2) := by decide +kernel
theorem dX9_run_116 : decode cX9_run 116 = .ok (.if_icmp .eq 16, 3) := by decide +kernel
theorem dX9_run_119 : decode cX9_run 119 = .ok (.aload_n 0, 1) := by decide +kernel
theorem dX9_run_120 : decode cX9_run 120 = .ok (.dup, 1) := by decide +kernel
theorem dX9_run_121 : decode cX9_run 121 = .ok (.getfield 207, 3) := by decide +kernel
theorem dX9_run_124 : decode cX9_run 124 = .ok (.iconst 1, 1) := by decide +kernel
theorem dX9_run_125 : decode cX9_run 125 = .ok (.isub, 1) := by decide +kernel
theorem dX9_run_126 : decode cX9_run 126 = .ok (.putfield 207, 3) := by decide +kernel
theorem dX9_run_129 : decode cX9_run 129 = .ok (.goto 128, 3) := by decide +kernel
theorem dX9_run_132 : decode cX9_run 132 = .ok (.aload_n 0, 1) := by decide +kernel
theorem dX9_run_133 : decode cX9_run 133 = .ok (.getfield 17, 3) := by decide +kernel
theorem dX9_run_136 : decode cX9_run 136 = .ok (.iload 6, 2) := by decide +kernel
theorem dX9_run_138 : decode cX9_run 138 = .ok (.iaload, 1) := by decide +kernel
theorem dX9_run_139 : decode cX9_run 139 = .ok (.iconst 4, 1) := by decide +kernel
theorem dX9_run_140 : decode cX9_run 140 = .ok (.if_icmp .eq 14, 3) := by decide +kernel
theorem dX9_run_143 : decode cX9_run 143 = .ok (.aload_n 0, 1) := by decide +kernel
theorem dX9_run_144 : decode cX9_run 144 = .ok (.getfield 17, 3) := by decide +kernel
