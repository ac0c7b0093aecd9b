theorem dX9_init_0 : decode cX9_init 0 = .ok (.aload_n 0, 1) := by decide +kernel
theorem dX9_init_1 : decode cX9_init 1 = .ok (.invokespecial 3, 3) := by decide +kernel
theorem dX9_init_4 : decode cX9_init 4 = .ok (.aload_n 0, 1) := by decide +kernel
theorem dX9_init_5 : decode cX9_init 5 = .ok (.sipush 356, 3) := by decide +kernel
theorem dX9_init_8 : decode cX9_init 8 = .ok (.newarray .int, 2) := by decide +kernel
theorem dX9_init_10 : decode cX9_init 10 = .ok (.putfield 9, 3) := by decide +kernel
theorem dX9_init_13 : decode cX9_init 13 = .ok (.aload_n 0, 1) := by decide +kernel
theorem dX9_init_14 : decode cX9_init 14 = .ok (.sipush 356, 3) := by decide +kernel
theorem dX9_init_17 : decode cX9_init 17 = .ok (.newarray .int, 2) := by decide +kernel
theorem dX9_init_19 : decode cX9_init 19 = .ok (.putfield 13, 3) := by decide +kernel
theorem dX9_init_22 : decode cX9_init 22 = .ok (.aload_n 0, 1) := by decide +kernel
theorem dX9_init_23 : decode cX9_init 23 = .ok (.sipush 1120, 3) := by decide +kernel
theorem dX9_init_26 : decode cX9_init 26 = .ok (.newarray .int, 2) := by decide +kernel
theorem dX9_init_28 : decode cX9_init 28 = .ok (.putfield 16, 3) := by decide +kernel
theorem dX9_init_31 : decode cX9_init 31 = .ok (.aload_n 0, 1) := by decide +kernel
theorem dX9_init_32 : decode cX9_init 32 = .ok (.sipush 960, 3) := by decide +kernel
theorem dX9_init_35 : decode cX9_init 35 = .ok (.newarray .int, 2) := by decide +kernel
theorem dX9_init_37 : decode cX9_init 37 = .ok (.putfield 19, 3) := by decide +kernel
theorem dX9_init_40 : decode cX9_init 40 = .ok (.aload_n 0, 1) := by decide +kernel
theorem dX9_init_41 : decode cX9_init 41 = .ok (.bipush 6, 2) := by decide +kernel
theorem dX9_init_43 : decode cX9_init 43 = .ok (.newarray .int, 2) := by decide +kernel
theorem dX9_init_45 : decode cX9_init 45 = .ok (.putfield 22, 3) := by decide +kernel
theorem dX9_init_48 : decode cX9_init 48 = .ok (.aload_n 0, 1) := by decide +kernel
theorem dX9_init_49 : decode cX9_init 49 = .ok (.bipush 6, 2) := by decide +kernel
theorem dX9_init_51 : decode cX9_init 51 = .ok (.newarray .int, 2) := by decide +kernel
theorem dX9_init_53 : decode cX9_init 53 = .ok (.putfield 25, 3) := by decide +kernel
theorem dX9_init_56 : decode cX9_init 56 = .ok (.aload_n 0, 1) := by decide +kernel
theorem dX9_init_57 : decode cX9_init 57 = .ok (.bipush 6, 2) := by decide +kernel
theorem dX9_init_59 : decode cX9_init 59 = .ok (.newarray .int, 2) := by decide +kernel
theorem dX9_init_61 : decode cX9_init 61 = .ok (.putfield 28, 3) := by decide +kernel
theorem dX9_init_64 : decode cX9_init 64 = .ok (.aload_n 0, 1) := by decide +kernel
theorem dX9_init_65 : decode cX9_init 65 = .ok (.bipush 6, 2) := by decide +kernel
theorem dX9_init_67 : decode cX9_init 67 = .ok (.newarray .int, 2) := by decide +kernel
theorem dX9_init_69 : decode cX9_init 69 = .ok (.putfield 31, 3) := by decide +kernel
theorem dX9_init_72 : decode cX9_init 72 = .ok (.aload_n 0, 1) := by decide +kernel
theorem dX9_init_73 : decode cX9_init 73 = .ok (.bipush 6, 2) := by decide +kernel
theorem dX9_init_75 : decode cX9_init 75 = .ok (.newarray .int, 2) := by decide +kernel
theorem dX9_init_77 : decode cX9_init 77 = .ok (.putfield 34, 3) := by decide +kernel
theorem dX9_init_80 : decode cX9_init 80 = .ok (.aload_n 0, 1) := by decide +kernel
theorem dX9_init_81 : decode cX9_init 81 = .ok (.sipush 910, 3) := by decide +kernel
theorem dX9_init_84 : decode cX9_init 84 = .ok (.newarray .int, 2) := by decide +kernel
theorem dX9_init_86 : decode cX9_init 86 = .ok (.putfield 37, 3) := by decide +kernel
theorem dX9_init_89 : decode cX9_init 89 = .ok (.aload_n 0, 1) := by decide +kernel
theorem dX9_init_90 : decode cX9_init 90 = .ok (.sipush 780, 3) := by decide +kernel
theorem dX9_init_93 : decode cX9_init 93 = .ok (.newarray .int, 2) := by decide +kernel
theorem dX9_init_95 : decode cX9_init 95 = .ok (.putfield 40, 3) := by decide +kernel
theorem dX9_init_98 : decode cX9_init 98 = .ok (.aload_n 0, 1) := by decide +kernel
theorem dX9_init_99 : decode cX9_init 99 = .ok (.bipush 35, 2) := by decide +kernel
theorem dX9_init_101 : decode cX9_init 101 = .ok (.newarray .int, 2) := by decide +kernel
theorem dX9_init_103 : decode cX9_init 103 = .ok (.putfield 43, 3) := by decide +kernel
theorem dX9_init_106 : decode cX9_init 106 = .ok (.aload_n 0, 1) := by decide +kernel
theorem dX9_init_107 : decode cX9_init 107 = .ok (.bipush 30, 2) := by decide +kernel
theorem dX9_init_109 : decode cX9_init 109 = .ok (.newarray .int, 2) := by decide +kernel
theorem dX9_init_111 : decode cX9_init 111 = .ok (.putfield 46, 3) := by decide +kernel
theorem dX9_init_114 : decode cX9_init 114 = .ok (.aload_n 0, 1) := by decide +kernel
theorem dX9_init_115 : decode cX9_init 115 = .ok (.bipush 9, 2) := by decide +kernel
theorem dX9_init_117 : decode cX9_init 117 = .ok (.newarray .int, 2) := by decide +kernel
theorem dX9_init_119 : decode cX9_init 119 = .ok (.putfield 49, 3) := by decide +kernel
theorem dX9_init_122 : decode cX9_init 122 = .ok (.aload_n 0, 1) := by decide +kernel
theorem dX9_init_123 : decode cX9_init 123 = .ok (.bipush 9, 2) := by decide +kernel
theorem dX9_init_125 : decode cX9_init 125 = .ok (.newarray .boolean, 2) := by decide +kernel
theorem dX9_init_127 : decode cX9_init 127 = .ok (.putfield 52, 3) := by decide +kernel
theorem dX9_init_130 : decode cX9_init 130 = .ok (.aload_n 0, 1) := by decide +kernel
theorem dX9_init_131 : decode cX9_init 131 = .ok (.sipush 200, 3) := by decide +kernel
theorem dX9_init_134 : decode cX9_init 134 = .ok (.newarray .int, 2) := by decide +kernel
theorem dX9_init_136 : decode cX9_init 136 = .ok (.putfield 56, 3) := by decide +kernel
theorem dX9_init_139 : decode cX9_init 139 = .ok (.aload_n 0, 1) := by decide +kernel
theorem dX9_init_140 : decode cX9_init 140 = .ok (.sipush 200, 3) := by decide +kernel
theorem dX9_init_143 : decode cX9_init 143 = .ok (.newarray .int, 2) := by decide +kernel
theorem dX9_init_145 : decode cX9_init 145 = .ok (.putfield 59, 3) := by decide +kernel
theorem dX9_init_148 : decode cX9_init 148 = .ok (.aload_n 0, 1) := by decide +kernel
theorem dX9_init_149 : decode cX9_init 149 = .ok (.bipush 32, 2) := by decide +kernel
theorem dX9_init_151 : decode cX9_init 151 = .ok (.newarray .int, 2) := by decide +kernel
theorem dX9_init_153 : decode cX9_init 153 = .ok (.putfield 62, 3) := by decide +kernel
theorem dX9_init_156 : decode cX9_init 156 = .ok (.aload_n 0, 1) := by decide +kernel
theorem dX9_init_157 : decode cX9_init 157 = .ok (.sipush 200, 3) := by decide +kernel
theorem dX9_init_160 : decode cX9_init 160 = .ok (.newarray .int, 2) := by decide +kernel
theorem dX9_init_162 : decode cX9_init 162 = .ok (.putfield 65, 3) := by decide +kernel
theorem dX9_init_165 : decode cX9_init 165 = .ok (.aload_n 0, 1) := by decide +kernel
theorem dX9_init_166 : decode cX9_init 166 = .ok (.bipush 6, 2) := by decide +kernel
theorem dX9_init_168 : decode cX9_init 168 = .ok (.newarray .int, 2) := by decide +kernel
theorem dX9_init_170 : decode cX9_init 170 = .ok (.putfield 68, 3) := by decide +kernel
theorem dX9_init_173 : decode cX9_init 173 = .ok (.aload_n 0, 1) := by decide +kernel
theorem dX9_init_174 : decode cX9_init 174 = .ok (.bipush 6, 2) := by decide +kernel
theorem dX9_init_176 : decode cX9_init 176 = .ok (.newarray .int, 2) := by decide +kernel
theorem dX9_init_178 : decode cX9_init 178 = .ok (.putfield 71, 3) := by decide +kernel
theorem dX9_init_181 : decode cX9_init 181 = .ok (.aload_n 0, 1) := by decide +kernel
theorem dX9_init_182 : decode cX9_init 182 = .ok (.bipush 6, 2) := by decide +kernel
theorem dX9_init_184 : decode cX9_init 184 = .ok (.newarray .int, 2) := by decide +kernel
theorem dX9_init_186 : decode cX9_init 186 = .ok (.putfield 74, 3) := by decide +kernel
theorem dX9_init_189 : decode cX9_init 189 = .ok (.aload_n 0, 1) := by decide +kernel
theorem dX9_init_190 : decode cX9_init 190 = .ok (.bipush 6, 2) := by decide +kernel
theorem dX9_init_192 : decode cX9_init 192 = .ok (.newarray .int, 2) := by decide +kernel
theorem dX9_init_194 : decode cX9_init 194 = .ok (.putfield 77, 3) := by decide +kernel
theorem dX9_init_197 : decode cX9_init 197 = .ok (.aload_n 0, 1) := by decide +kernel
theorem dX9_init_198 : decode cX9_init 198 = .ok (.bipush 18, 2) := by decide +kernel
theorem dX9_init_200 : decode cX9_init 200 = .ok (.newarray .int, 2) := by decide +kernel
theorem dX9_init_202 : decode cX9_init 202 = .ok (.putfield 80, 3) := by decide +kernel
theorem dX9_init_205 : decode cX9_init 205 = .ok (.aload_n 0, 1) := by decide +kernel
theorem dX9_init_206 : decode cX9_init 206 = .ok (.iconst 4, 1) := by decide +kernel
theorem dX9_init_207 : decode cX9_init 207 = .ok (.newarray .int, 2) := by decide +kernel
theorem dX9_init_209 : decode cX9_init 209 = .ok (.dup, 1) := by decide +kernel
theorem dX9_init_210 : decode cX9_init 210 = .ok (.iconst 0, 1) := by decide +kernel
theorem dX9_init_211 : decode cX9_init 211 = .ok (.iconst (-1), 1) := by decide +kernel
theorem dX9_init_212 : decode cX9_init 212 = .ok (.iastore, 1) := by decide +kernel
theorem dX9_init_213 : decode cX9_init 213 = .ok (.dup, 1) := by decide +kernel
theorem dX9_init_214 : decode cX9_init 214 = .ok (.iconst 1, 1) := by decide +kernel
theorem dX9_init_215 : decode cX9_init 215 = .ok (.iconst (-1), 1) := by decide +kernel
theorem dX9_init_216 : decode cX9_init 216 = .ok (.iastore, 1) := by decide +kernel
theorem dX9_init_217 : decode cX9_init 217 = .ok (.dup, 1) := by decide +kernel
theorem dX9_init_218 : decode cX9_init 218 = .ok (.iconst 2, 1) := by decide +kernel
theorem dX9_init_219 : decode cX9_init 219 = .ok (.iconst (-1), 1) := by decide +kernel
theorem dX9_init_220 : decode cX9_init 220 = .ok (.iastore, 1) := by decide +kernel
theorem dX9_init_221 : decode cX9_init 221 = .ok (.dup, 1) := by decide +kernel
theorem dX9_init_222 : decode cX9_init 222 = .ok (.iconst 3, 1) := by decide +kernel
theorem dX9_init_223 : decode cX9_init 223 = .ok (.iconst (-1), 1) := by decide +kernel
theorem dX9_init_224 : decode cX9_init 224 = .ok (.iastore, 1) := by decide +kernel
theorem dX9_init_225 : decode cX9_init 225 = .ok (.putfield 83, 3) := by decide +kernel
theorem dX9_init_228 : decode cX9_init 228 = .ok (.aload_n 0, 1) := by decide +kernel
theorem dX9_init_229 : decode cX9_init 229 = .ok (.iconst 4, 1) := by decide +kernel
theorem dX9_init_230 : decode cX9_init 230 = .ok (.newarray .int, 2) := by decide +kernel
theorem dX9_init_232 : decode cX9_init 232 = .ok (.putfield 86, 3) := by decide +kernel
theorem dX9_init_235 : decode cX9_init 235 = .ok (.aload_n 0, 1) := by decide +kernel
theorem dX9_init_236 : decode cX9_init 236 = .ok (.sipush 160, 3) := by decide +kernel
theorem dX9_init_239 : decode cX9_init 239 = .ok (.newarray .int, 2) := by decide +kernel
theorem dX9_init_241 : decode cX9_init 241 = .ok (.putfield 89, 3) := by decide +kernel
theorem dX9_init_244 : decode cX9_init 244 = .ok (.aload_n 0, 1) := by decide +kernel
theorem dX9_init_245 : decode cX9_init 245 = .ok (.iconst 4, 1) := by decide +kernel
theorem dX9_init_246 : decode cX9_init 246 = .ok (.newarray .int, 2) := by decide +kernel
theorem dX9_init_248 : decode cX9_init 248 = .ok (.putfield 92, 3) := by decide +kernel
theorem dX9_init_251 : decode cX9_init 251 = .ok (.aload_n 0, 1) := by decide +kernel
theorem dX9_init_252 : decode cX9_init 252 = .ok (.iconst 4, 1) := by decide +kernel
theorem dX9_init_253 : decode cX9_init 253 = .ok (.newarray .int, 2) := by decide +kernel
theorem dX9_init_255 : decode cX9_init 255 = .ok (.putfield 95, 3) := by decide +kernel
theorem dX9_init_258 : decode cX9_init 258 = .ok (.aload_n 0, 1) := by decide +kernel
theorem dX9_init_259 : decode cX9_init 259 = .ok (.iconst 4, 1) := by decide +kernel
theorem dX9_init_260 : decode cX9_init 260 = .ok (.newarray .int, 2) := by decide +kernel
theorem dX9_init_262 : decode cX9_init 262 = .ok (.putfield 98, 3) := by decide +kernel
theorem dX9_init_265 : decode cX9_init 265 = .ok (.aload_n 0, 1) := by decide +kernel
theorem dX9_init_266 : decode cX9_init 266 = .ok (.bipush 30, 2) := by decide +kernel
theorem dX9_init_268 : decode cX9_init 268 = .ok (.newarray .int, 2) := by decide +kernel
theorem dX9_init_270 : decode cX9_init 270 = .ok (.putfield 101, 3) := by decide +kernel
theorem dX9_init_273 : decode cX9_init 273 = .ok (.aload_n 0, 1) := by decide +kernel
theorem dX9_init_274 : decode cX9_init 274 = .ok (.getfield 9, 3) := by decide +kernel
theorem dX9_init_277 : decode cX9_init 277 = .ok (.iconst 4, 1) := by decide +kernel
theorem dX9_init_278 : decode cX9_init 278 = .ok (.iconst (-1), 1) := by decide +kernel
theorem dX9_init_279 : decode cX9_init 279 = .ok (.iastore, 1) := by decide +kernel
theorem dX9_init_280 : decode cX9_init 280 = .ok (.return_, 1) := by decide +kernel
theorem dX9_in_0 : decode cX9_in 0 = .ok (.iload_n 0, 1) := by decide +kernel
theorem dX9_in_1 : decode cX9_in 1 = .ok (.iload_n 1, 1) := by decide +kernel
theorem dX9_in_2 : decode cX9_in 2 = .ok (.if_icmp .lt 12, 3) := by decide +kernel
theorem dX9_in_5 : decode cX9_in 5 = .ok (.iload_n 0, 1) := by decide +kernel
theorem dX9_in_6 : decode cX9_in 6 = .ok (.iload_n 2, 1) := by decide +kernel
theorem dX9_in_7 : decode cX9_in 7 = .ok (.if_icmp .gt 7, 3) := by decide +kernel
theorem dX9_in_10 : decode cX9_in 10 = .ok (.iconst 1, 1) := by decide +kernel
theorem dX9_in_11 : decode cX9_in 11 = .ok (.goto 4, 3) := by decide +kernel
theorem dX9_in_14 : decode cX9_in 14 = .ok (.iconst 0, 1) := by decide +kernel
theorem dX9_in_15 : decode cX9_in 15 = .ok (.ireturn, 1) := by decide +kernel
theorem dX9_isVillage_0 : decode cX9_isVillage 0 = .ok (.iload_n 1, 1) := by decide +kernel
theorem dX9_isVillage_1 : decode cX9_isVillage 1 = .ok (.iconst 0, 1) := by decide +kernel
theorem dX9_isVillage_2 : decode cX9_isVillage 2 = .ok (.aload_n 0, 1) := by decide +kernel
theorem dX9_isVillage_3 : decode cX9_isVillage 3 = .ok (.getfield 9, 3) := by decide +kernel
theorem dX9_isVillage_6 : decode cX9_isVillage 6 = .ok (.iconst 0, 1) := by decide +kernel
theorem dX9_isVillage_7 : decode cX9_isVillage 7 = .ok (.iaload, 1) := by decide +kernel
theorem dX9_isVillage_8 : decode cX9_isVillage 8 = .ok (.iconst 1, 1) := by decide +kernel
theorem dX9_isVillage_9 : decode cX9_isVillage 9 = .ok (.isub, 1) := by decide +kernel
theorem dX9_isVillage_10 : decode cX9_isVillage 10 = .ok (.invokestatic 104, 3) := by decide +kernel
theorem dX9_isVillage_13 : decode cX9_isVillage 13 = .ok (.ireturn, 1) := by decide +kernel
theorem dX9_at_0 : decode cX9_at 0 = .ok (.bipush 10, 2) := by decide +kernel
theorem dX9_at_2 : decode cX9_at 2 = .ok (.bipush 18, 2) := by decide +kernel
theorem dX9_at_4 : decode cX9_at 4 = .ok (.iload_n 0, 1) := by decide +kernel
theorem dX9_at_5 : decode cX9_at 5 = .ok (.imul, 1) := by decide +kernel
theorem dX9_at_6 : decode cX9_at 6 = .ok (.iadd, 1) := by decide +kernel
theorem dX9_at_7 : decode cX9_at 7 = .ok (.iload_n 1, 1) := by decide +kernel
theorem dX9_at_8 : decode cX9_at 8 = .ok (.iadd, 1) := by decide +kernel
theorem dX9_at_9 : decode cX9_at 9 = .ok (.ireturn, 1) := by decide +kernel
theorem dX9_of_0 : decode cX9_of 0 = .ok (.aload_n 0, 1) := by decide +kernel
theorem dX9_of_1 : decode cX9_of 1 = .ok (.getfield 9, 3) := by decide +kernel
theorem dX9_of_4 : decode cX9_of 4 = .ok (.iload_n 1, 1) := by decide +kernel
theorem dX9_of_5 : decode cX9_of 5 = .ok (.iload_n 2, 1) := by decide +kernel
theorem dX9_of_6 : decode cX9_of 6 = .ok (.invokestatic 108, 3) := by decide +kernel
theorem dX9_of_9 : decode cX9_of 9 = .ok (.iaload, 1) := by decide +kernel
theorem dX9_of_10 : decode cX9_of 10 = .ok (.ireturn, 1) := by decide +kernel
theorem dX9_village_0 : decode cX9_village 0 = .ok (.iload_n 1, 1) := by decide +kernel
theorem dX9_village_1 : decode cX9_village 1 = .ok (.iconst 0, 1) := by decide +kernel
theorem dX9_village_2 : decode cX9_village 2 = .ok (.bipush 12, 2) := by decide +kernel
theorem dX9_village_4 : decode cX9_village 4 = .ok (.invokestatic 104, 3) := by decide +kernel
theorem dX9_village_7 : decode cX9_village 7 = .ok (.ifCond .ne 5, 3) := by decide +kernel
theorem dX9_village_10 : decode cX9_village 10 = .ok (.iconst (-1), 1) := by decide +kernel
theorem dX9_village_11 : decode cX9_village 11 = .ok (.ireturn, 1) := by decide +kernel
theorem dX9_village_12 : decode cX9_village 12 = .ok (.aload_n 0, 1) := by decide +kernel
theorem dX9_village_13 : decode cX9_village 13 = .ok (.getfield 9, 3) := by decide +kernel
theorem dX9_village_16 : decode cX9_village 16 = .ok (.iconst 0, 1) := by decide +kernel
theorem dX9_village_17 : decode cX9_village 17 = .ok (.iaload, 1) := by decide +kernel
theorem dX9_village_18 : decode cX9_village 18 = .ok (.istore_n 2, 1) := by decide +kernel
theorem dX9_village_19 : decode cX9_village 19 = .ok (.iload_n 2, 1) := by decide +kernel
theorem dX9_village_20 : decode cX9_village 20 = .ok (.bipush 6, 2) := by decide +kernel
theorem dX9_village_22 : decode cX9_village 22 = .ok (.if_icmp .ne 6, 3) := by decide +kernel
theorem dX9_village_25 : decode cX9_village 25 = .ok (.bipush (-2), 2) := by decide +kernel
theorem dX9_village_27 : decode cX9_village 27 = .ok (.ireturn, 1) := by decide +kernel
theorem dX9_village_28 : decode cX9_village 28 = .ok (.iconst 0, 1) := by decide +kernel
theorem dX9_village_29 : decode cX9_village 29 = .ok (.istore_n 3, 1) := by decide +kernel
theorem dX9_village_30 : decode cX9_village 30 = .ok (.iload_n 3, 1) := by decide +kernel
theorem dX9_village_31 : decode cX9_village 31 = .ok (.bipush 18, 2) := by decide +kernel
theorem dX9_village_33 : decode cX9_village 33 = .ok (.if_icmp .ge 20, 3) := by decide +kernel
theorem dX9_village_36 : decode cX9_village 36 = .ok (.aload_n 0, 1) := by decide +kernel
theorem dX9_village_37 : decode cX9_village 37 = .ok (.getfield 9, 3) := by decide +kernel
theorem dX9_village_40 : decode cX9_village 40 = .ok (.iload_n 2, 1) := by decide +kernel
theorem dX9_village_41 : decode cX9_village 41 = .ok (.iload_n 3, 1) := by decide +kernel
theorem dX9_village_42 : decode cX9_village 42 = .ok (.invokestatic 108, 3) := by decide +kernel
theorem dX9_village_45 : decode cX9_village 45 = .ok (.iconst 0, 1) := by decide +kernel
theorem dX9_village_46 : decode cX9_village 46 = .ok (.iastore, 1) := by decide +kernel
theorem dX9_village_47 : decode cX9_village 47 = .ok (.iinc 3 1, 3) := by decide +kernel
theorem dX9_village_50 : decode cX9_village 50 = .ok (.goto (-20), 3) := by decide +kernel
theorem dX9_village_53 : decode cX9_village 53 = .ok (.aload_n 0, 1) := by decide +kernel
theorem dX9_village_54 : decode cX9_village 54 = .ok (.getfield 9, 3) := by decide +kernel
theorem dX9_village_57 : decode cX9_village 57 = .ok (.iload_n 2, 1) := by decide +kernel
theorem dX9_village_58 : decode cX9_village 58 = .ok (.iconst 0, 1) := by decide +kernel
theorem dX9_village_59 : decode cX9_village 59 = .ok (.invokestatic 108, 3) := by decide +kernel
theorem dX9_village_62 : decode cX9_village 62 = .ok (.iload_n 1, 1) := by decide +kernel
theorem dX9_village_63 : decode cX9_village 63 = .ok (.iastore, 1) := by decide +kernel
theorem dX9_village_64 : decode cX9_village 64 = .ok (.aload_n 0, 1) := by decide +kernel
theorem dX9_village_65 : decode cX9_village 65 = .ok (.getfield 9, 3) := by decide +kernel
theorem dX9_village_68 : decode cX9_village 68 = .ok (.iload_n 2, 1) := by decide +kernel
theorem dX9_village_69 : decode cX9_village 69 = .ok (.iconst 1, 1) := by decide +kernel
theorem dX9_village_70 : decode cX9_village 70 = .ok (.invokestatic 108, 3) := by decide +kernel
theorem dX9_village_73 : decode cX9_village 73 = .ok (.bipush 99, 2) := by decide +kernel
theorem dX9_village_75 : decode cX9_village 75 = .ok (.iastore, 1) := by decide +kernel
theorem dX9_village_76 : decode cX9_village 76 = .ok (.aload_n 0, 1) := by decide +kernel
theorem dX9_village_77 : decode cX9_village 77 = .ok (.getfield 9, 3) := by decide +kernel
theorem dX9_village_80 : decode cX9_village 80 = .ok (.iload_n 2, 1) := by decide +kernel
theorem dX9_village_81 : decode cX9_village 81 = .ok (.iconst 4, 1) := by decide +kernel
theorem dX9_village_82 : decode cX9_village 82 = .ok (.invokestatic 108, 3) := by decide +kernel
theorem dX9_village_85 : decode cX9_village 85 = .ok (.bipush 99, 2) := by decide +kernel
theorem dX9_village_87 : decode cX9_village 87 = .ok (.iastore, 1) := by decide +kernel
theorem dX9_village_88 : decode cX9_village 88 = .ok (.aload_n 0, 1) := by decide +kernel
theorem dX9_village_89 : decode cX9_village 89 = .ok (.getfield 9, 3) := by decide +kernel
theorem dX9_village_92 : decode cX9_village 92 = .ok (.iload_n 2, 1) := by decide +kernel
theorem dX9_village_93 : decode cX9_village 93 = .ok (.iconst 5, 1) := by decide +kernel
theorem dX9_village_94 : decode cX9_village 94 = .ok (.invokestatic 108, 3) := by decide +kernel
theorem dX9_village_97 : decode cX9_village 97 = .ok (.iconst 1, 1) := by decide +kernel
theorem dX9_village_98 : decode cX9_village 98 = .ok (.iastore, 1) := by decide +kernel
theorem dX9_village_99 : decode cX9_village 99 = .ok (.aload_n 0, 1) := by decide +kernel
theorem dX9_village_100 : decode cX9_village 100 = .ok (.getfield 9, 3) := by decide +kernel
theorem dX9_village_103 : decode cX9_village 103 = .ok (.iconst 0, 1) := by decide +kernel
theorem dX9_village_104 : decode cX9_village 104 = .ok (.dup2, 1) := by decide +kernel
theorem dX9_village_105 : decode cX9_village 105 = .ok (.iaload, 1) := by decide +kernel
theorem dX9_village_106 : decode cX9_village 106 = .ok (.iconst 1, 1) := by decide +kernel
theorem dX9_village_107 : decode cX9_village 107 = .ok (.iadd, 1) := by decide +kernel
theorem dX9_village_108 : decode cX9_village 108 = .ok (.iastore, 1) := by decide +kernel
theorem dX9_village_109 : decode cX9_village 109 = .ok (.iload_n 2, 1) := by decide +kernel
theorem dX9_village_110 : decode cX9_village 110 = .ok (.ireturn, 1) := by decide +kernel
theorem dX9_villageOf_0 : decode cX9_villageOf 0 = .ok (.aload_n 0, 1) := by decide +kernel
theorem dX9_villageOf_1 : decode cX9_villageOf 1 = .ok (.iload_n 1, 1) := by decide +kernel
theorem dX9_villageOf_2 : decode cX9_villageOf 2 = .ok (.invokevirtual 112, 3) := by decide +kernel
theorem dX9_villageOf_5 : decode cX9_villageOf 5 = .ok (.ifCond .eq 21, 3) := by decide +kernel
theorem dX9_villageOf_8 : decode cX9_villageOf 8 = .ok (.iload_n 2, 1) := by decide +kernel
theorem dX9_villageOf_9 : decode cX9_villageOf 9 = .ok (.iconst 0, 1) := by decide +kernel
theorem dX9_villageOf_10 : decode cX9_villageOf 10 = .ok (.iconst 5, 1) := by decide +kernel
theorem dX9_villageOf_11 : decode cX9_villageOf 11 = .ok (.invokestatic 104, 3) := by decide +kernel
theorem dX9_villageOf_14 : decode cX9_villageOf 14 = .ok (.ifCond .eq 12, 3) := by decide +kernel
theorem dX9_villageOf_17 : decode cX9_villageOf 17 = .ok (.aload_n 0, 1) := by decide +kernel
theorem dX9_villageOf_18 : decode cX9_villageOf 18 = .ok (.iload_n 1, 1) := by decide +kernel
theorem dX9_villageOf_19 : decode cX9_villageOf 19 = .ok (.iload_n 2, 1) := by decide +kernel
theorem dX9_villageOf_20 : decode cX9_villageOf 20 = .ok (.invokevirtual 116, 3) := by decide +kernel
theorem dX9_villageOf_23 : decode cX9_villageOf 23 = .ok (.goto 4, 3) := by decide +kernel
theorem dX9_villageOf_26 : decode cX9_villageOf 26 = .ok (.iconst (-1), 1) := by decide +kernel
theorem dX9_villageOf_27 : decode cX9_villageOf 27 = .ok (.ireturn, 1) := by decide +kernel
theorem dX9_fits_0 : decode cX9_fits 0 = .ok (.iload_n 0, 1) := by decide +kernel
theorem dX9_fits_1 : decode cX9_fits 1 = .ok (.tableswitch 67 0 4 #[35, 43, 51, 59, 43], 35) := by decide +kernel
theorem dX9_fits_36 : decode cX9_fits 36 = .ok (.iload_n 1, 1) := by decide +kernel
theorem dX9_fits_37 : decode cX9_fits 37 = .ok (.iconst 0, 1) := by decide +kernel
theorem dX9_fits_38 : decode cX9_fits 38 = .ok (.bipush 12, 2) := by decide +kernel
theorem dX9_fits_40 : decode cX9_fits 40 = .ok (.invokestatic 104, 3) := by decide +kernel
theorem dX9_fits_43 : decode cX9_fits 43 = .ok (.ireturn, 1) := by decide +kernel
theorem dX9_fits_44 : decode cX9_fits 44 = .ok (.iload_n 1, 1) := by decide +kernel
theorem dX9_fits_45 : decode cX9_fits 45 = .ok (.iconst 0, 1) := by decide +kernel
theorem dX9_fits_46 : decode cX9_fits 46 = .ok (.bipush 99, 2) := by decide +kernel
theorem dX9_fits_48 : decode cX9_fits 48 = .ok (.invokestatic 104, 3) := by decide +kernel
theorem dX9_fits_51 : decode cX9_fits 51 = .ok (.ireturn, 1) := by decide +kernel
theorem dX9_fits_52 : decode cX9_fits 52 = .ok (.iload_n 1, 1) := by decide +kernel
theorem dX9_fits_53 : decode cX9_fits 53 = .ok (.iconst 0, 1) := by decide +kernel
theorem dX9_fits_54 : decode cX9_fits 54 = .ok (.bipush 9, 2) := by decide +kernel
theorem dX9_fits_56 : decode cX9_fits 56 = .ok (.invokestatic 104, 3) := by decide +kernel
theorem dX9_fits_59 : decode cX9_fits 59 = .ok (.ireturn, 1) := by decide +kernel
theorem dX9_fits_60 : decode cX9_fits 60 = .ok (.iload_n 1, 1) := by decide +kernel
theorem dX9_fits_61 : decode cX9_fits 61 = .ok (.iconst 0, 1) := by decide +kernel
theorem dX9_fits_62 : decode cX9_fits 62 = .ok (.bipush 20, 2) := by decide +kernel
theorem dX9_fits_64 : decode cX9_fits 64 = .ok (.invokestatic 104, 3) := by decide +kernel
theorem dX9_fits_67 : decode cX9_fits 67 = .ok (.ireturn, 1) := by decide +kernel
theorem dX9_fits_68 : decode cX9_fits 68 = .ok (.iload_n 1, 1) := by decide +kernel
theorem dX9_fits_69 : decode cX9_fits 69 = .ok (.iconst 1, 1) := by decide +kernel
theorem dX9_fits_70 : decode cX9_fits 70 = .ok (.bipush 9, 2) := by decide +kernel
theorem dX9_fits_72 : decode cX9_fits 72 = .ok (.invokestatic 104, 3) := by decide +kernel
theorem dX9_fits_75 : decode cX9_fits 75 = .ok (.ireturn, 1) := by decide +kernel
theorem dX9_set_0 : decode cX9_set 0 = .ok (.aload_n 0, 1) := by decide +kernel
theorem dX9_set_1 : decode cX9_set 1 = .ok (.iload_n 1, 1) := by decide +kernel
theorem dX9_set_2 : decode cX9_set 2 = .ok (.invokevirtual 112, 3) := by decide +kernel
theorem dX9_set_5 : decode cX9_set 5 = .ok (.ifCond .eq 20, 3) := by decide +kernel
theorem dX9_set_8 : decode cX9_set 8 = .ok (.iload_n 2, 1) := by decide +kernel
theorem dX9_set_9 : decode cX9_set 9 = .ok (.iconst 0, 1) := by decide +kernel
theorem dX9_set_10 : decode cX9_set 10 = .ok (.iconst 5, 1) := by decide +kernel
theorem dX9_set_11 : decode cX9_set 11 = .ok (.invokestatic 104, 3) := by decide +kernel
theorem dX9_set_14 : decode cX9_set 14 = .ok (.ifCond .eq 11, 3) := by decide +kernel
theorem dX9_set_17 : decode cX9_set 17 = .ok (.iload_n 2, 1) := by decide +kernel
theorem dX9_set_18 : decode cX9_set 18 = .ok (.iload_n 3, 1) := by decide +kernel
theorem dX9_set_19 : decode cX9_set 19 = .ok (.invokestatic 119, 3) := by decide +kernel
theorem dX9_set_22 : decode cX9_set 22 = .ok (.ifCond .ne 5, 3) := by decide +kernel
theorem dX9_set_25 : decode cX9_set 25 = .ok (.iconst (-1), 1) := by decide +kernel
theorem dX9_set_26 : decode cX9_set 26 = .ok (.ireturn, 1) := by decide +kernel
theorem dX9_set_27 : decode cX9_set 27 = .ok (.aload_n 0, 1) := by decide +kernel
theorem dX9_set_28 : decode cX9_set 28 = .ok (.iload_n 1, 1) := by decide +kernel
theorem dX9_set_29 : decode cX9_set 29 = .ok (.iload_n 2, 1) := by decide +kernel
theorem dX9_set_30 : decode cX9_set 30 = .ok (.invokevirtual 116, 3) := by decide +kernel
theorem dX9_set_33 : decode cX9_set 33 = .ok (.istore 4, 2) := by decide +kernel
theorem dX9_set_35 : decode cX9_set 35 = .ok (.aload_n 0, 1) := by decide +kernel
theorem dX9_set_36 : decode cX9_set 36 = .ok (.getfield 9, 3) := by decide +kernel
theorem dX9_set_39 : decode cX9_set 39 = .ok (.iload_n 1, 1) := by decide +kernel
theorem dX9_set_40 : decode cX9_set 40 = .ok (.iload_n 2, 1) := by decide +kernel
theorem dX9_set_41 : decode cX9_set 41 = .ok (.invokestatic 108, 3) := by decide +kernel
theorem dX9_set_44 : decode cX9_set 44 = .ok (.iload_n 3, 1) := by decide +kernel
theorem dX9_set_45 : decode cX9_set 45 = .ok (.iastore, 1) := by decide +kernel
theorem dX9_set_46 : decode cX9_set 46 = .ok (.iload 4, 2) := by decide +kernel
theorem dX9_set_48 : decode cX9_set 48 = .ok (.ireturn, 1) := by decide +kernel
theorem dX9_first_0 : decode cX9_first 0 = .ok (.iconst 0, 1) := by decide +kernel
theorem dX9_first_1 : decode cX9_first 1 = .ok (.istore_n 3, 1) := by decide +kernel
theorem dX9_first_2 : decode cX9_first 2 = .ok (.iconst 0, 1) := by decide +kernel
theorem dX9_first_3 : decode cX9_first 3 = .ok (.istore 4, 2) := by decide +kernel
theorem dX9_first_5 : decode cX9_first 5 = .ok (.iload 4, 2) := by decide +kernel
theorem dX9_first_7 : decode cX9_first 7 = .ok (.iload_n 2, 1) := by decide +kernel
theorem dX9_first_8 : decode cX9_first 8 = .ok (.if_icmp .ge 22, 3) := by decide +kernel
theorem dX9_first_11 : decode cX9_first 11 = .ok (.iload_n 3, 1) := by decide +kernel
theorem dX9_first_12 : decode cX9_first 12 = .ok (.aload_n 0, 1) := by decide +kernel
theorem dX9_first_13 : decode cX9_first 13 = .ok (.iload_n 1, 1) := by decide +kernel
theorem dX9_first_14 : decode cX9_first 14 = .ok (.bipush 6, 2) := by decide +kernel
theorem dX9_first_16 : decode cX9_first 16 = .ok (.iload 4, 2) := by decide +kernel
theorem dX9_first_18 : decode cX9_first 18 = .ok (.iadd, 1) := by decide +kernel
theorem dX9_first_19 : decode cX9_first 19 = .ok (.invokevirtual 116, 3) := by decide +kernel
theorem dX9_first_22 : decode cX9_first 22 = .ok (.iadd, 1) := by decide +kernel
theorem dX9_first_23 : decode cX9_first 23 = .ok (.istore_n 3, 1) := by decide +kernel
theorem dX9_first_24 : decode cX9_first 24 = .ok (.iinc 4 1, 3) := by decide +kernel
theorem dX9_first_27 : decode cX9_first 27 = .ok (.goto (-22), 3) := by decide +kernel
theorem dX9_first_30 : decode cX9_first 30 = .ok (.iload_n 3, 1) := by decide +kernel
theorem dX9_first_31 : decode cX9_first 31 = .ok (.ireturn, 1) := by decide +kernel
theorem dX9_worth_0 : decode cX9_worth 0 = .ok (.aload_n 0, 1) := by decide +kernel
theorem dX9_worth_1 : decode cX9_worth 1 = .ok (.iload_n 1, 1) := by decide +kernel
theorem dX9_worth_2 : decode cX9_worth 2 = .ok (.invokevirtual 112, 3) := by decide +kernel
theorem dX9_worth_5 : decode cX9_worth 5 = .ok (.ifCond .eq 22, 3) := by decide +kernel
theorem dX9_worth_8 : decode cX9_worth 8 = .ok (.iload_n 2, 1) := by decide +kernel
theorem dX9_worth_9 : decode cX9_worth 9 = .ok (.iconst 0, 1) := by decide +kernel
theorem dX9_worth_10 : decode cX9_worth 10 = .ok (.bipush 12, 2) := by decide +kernel
theorem dX9_worth_12 : decode cX9_worth 12 = .ok (.invokestatic 104, 3) := by decide +kernel
theorem dX9_worth_15 : decode cX9_worth 15 = .ok (.ifCond .eq 12, 3) := by decide +kernel
theorem dX9_worth_18 : decode cX9_worth 18 = .ok (.aload_n 0, 1) := by decide +kernel
theorem dX9_worth_19 : decode cX9_worth 19 = .ok (.iload_n 1, 1) := by decide +kernel
theorem dX9_worth_20 : decode cX9_worth 20 = .ok (.iload_n 2, 1) := by decide +kernel
theorem dX9_worth_21 : decode cX9_worth 21 = .ok (.invokevirtual 123, 3) := by decide +kernel
theorem dX9_worth_24 : decode cX9_worth 24 = .ok (.goto 4, 3) := by decide +kernel
theorem dX9_worth_27 : decode cX9_worth 27 = .ok (.iconst (-1), 1) := by decide +kernel
theorem dX9_worth_28 : decode cX9_worth 28 = .ok (.ireturn, 1) := by decide +kernel
theorem dX9_flows_0 : decode cX9_flows 0 = .ok (.iconst 0, 1) := by decide +kernel
theorem dX9_flows_1 : decode cX9_flows 1 = .ok (.istore_n 2, 1) := by decide +kernel
theorem dX9_flows_2 : decode cX9_flows 2 = .ok (.iload_n 2, 1) := by decide +kernel
theorem dX9_flows_3 : decode cX9_flows 3 = .ok (.aload_n 0, 1) := by decide +kernel
theorem dX9_flows_4 : decode cX9_flows 4 = .ok (.getfield 9, 3) := by decide +kernel
theorem dX9_flows_7 : decode cX9_flows 7 = .ok (.iconst 0, 1) := by decide +kernel
theorem dX9_flows_8 : decode cX9_flows 8 = .ok (.iaload, 1) := by decide +kernel
theorem dX9_flows_9 : decode cX9_flows 9 = .ok (.if_icmp .ge 26, 3) := by decide +kernel
theorem dX9_flows_12 : decode cX9_flows 12 = .ok (.aload_n 0, 1) := by decide +kernel
theorem dX9_flows_13 : decode cX9_flows 13 = .ok (.getfield 22, 3) := by decide +kernel
theorem dX9_flows_16 : decode cX9_flows 16 = .ok (.iload_n 2, 1) := by decide +kernel
theorem dX9_flows_17 : decode cX9_flows 17 = .ok (.aload_n 0, 1) := by decide +kernel
theorem dX9_flows_18 : decode cX9_flows 18 = .ok (.iload_n 2, 1) := by decide +kernel
theorem dX9_flows_19 : decode cX9_flows 19 = .ok (.iconst 0, 1) := by decide +kernel
theorem dX9_flows_20 : decode cX9_flows 20 = .ok (.invokevirtual 116, 3) := by decide +kernel
theorem dX9_flows_23 : decode cX9_flows 23 = .ok (.iload_n 1, 1) := by decide +kernel
theorem dX9_flows_24 : decode cX9_flows 24 = .ok (.imul, 1) := by decide +kernel
theorem dX9_flows_25 : decode cX9_flows 25 = .ok (.bipush 10, 2) := by decide +kernel
theorem dX9_flows_27 : decode cX9_flows 27 = .ok (.idiv, 1) := by decide +kernel
theorem dX9_flows_28 : decode cX9_flows 28 = .ok (.iastore, 1) := by decide +kernel
theorem dX9_flows_29 : decode cX9_flows 29 = .ok (.iinc 2 1, 3) := by decide +kernel
theorem dX9_flows_32 : decode cX9_flows 32 = .ok (.goto (-30), 3) := by decide +kernel
theorem dX9_flows_35 : decode cX9_flows 35 = .ok (.return_, 1) := by decide +kernel
theorem dX9_harm_0 : decode cX9_harm 0 = .ok (.iload_n 2, 1) := by decide +kernel
theorem dX9_harm_1 : decode cX9_harm 1 = .ok (.aload_n 0, 1) := by decide +kernel
theorem dX9_harm_2 : decode cX9_harm 2 = .ok (.iload_n 1, 1) := by decide +kernel
theorem dX9_harm_3 : decode cX9_harm 3 = .ok (.iconst 1, 1) := by decide +kernel
theorem dX9_harm_4 : decode cX9_harm 4 = .ok (.invokevirtual 116, 3) := by decide +kernel
theorem dX9_harm_7 : decode cX9_harm 7 = .ok (.isub, 1) := by decide +kernel
theorem dX9_harm_8 : decode cX9_harm 8 = .ok (.istore_n 3, 1) := by decide +kernel
theorem dX9_harm_9 : decode cX9_harm 9 = .ok (.iload_n 3, 1) := by decide +kernel
theorem dX9_harm_10 : decode cX9_harm 10 = .ok (.ifCond .le 14, 3) := by decide +kernel
theorem dX9_harm_13 : decode cX9_harm 13 = .ok (.iload_n 3, 1) := by decide +kernel
theorem dX9_harm_14 : decode cX9_harm 14 = .ok (.aload_n 0, 1) := by decide +kernel
theorem dX9_harm_15 : decode cX9_harm 15 = .ok (.iload_n 1, 1) := by decide +kernel
theorem dX9_harm_16 : decode cX9_harm 16 = .ok (.iconst 2, 1) := by decide +kernel
theorem dX9_harm_17 : decode cX9_harm 17 = .ok (.invokevirtual 116, 3) := by decide +kernel
theorem dX9_harm_20 : decode cX9_harm 20 = .ok (.imul, 1) := by decide +kernel
theorem dX9_harm_21 : decode cX9_harm 21 = .ok (.goto 4, 3) := by decide +kernel
theorem dX9_harm_24 : decode cX9_harm 24 = .ok (.iconst 0, 1) := by decide +kernel
theorem dX9_harm_25 : decode cX9_harm 25 = .ok (.ireturn, 1) := by decide +kernel
theorem dX9_mostOf_0 : decode cX9_mostOf 0 = .ok (.iconst 0, 1) := by decide +kernel
theorem dX9_mostOf_1 : decode cX9_mostOf 1 = .ok (.istore_n 3, 1) := by decide +kernel
theorem dX9_mostOf_2 : decode cX9_mostOf 2 = .ok (.iload_n 1, 1) := by decide +kernel
theorem dX9_mostOf_3 : decode cX9_mostOf 3 = .ok (.istore 4, 2) := by decide +kernel
theorem dX9_mostOf_5 : decode cX9_mostOf 5 = .ok (.iload 4, 2) := by decide +kernel
theorem dX9_mostOf_7 : decode cX9_mostOf 7 = .ok (.iload_n 2, 1) := by decide +kernel
theorem dX9_mostOf_8 : decode cX9_mostOf 8 = .ok (.if_icmp .gt 19, 3) := by decide +kernel
theorem dX9_mostOf_11 : decode cX9_mostOf 11 = .ok (.iload_n 3, 1) := by decide +kernel
theorem dX9_mostOf_12 : decode cX9_mostOf 12 = .ok (.aload_n 0, 1) := by decide +kernel
theorem dX9_mostOf_13 : decode cX9_mostOf 13 = .ok (.getfield 22, 3) := by decide +kernel
theorem dX9_mostOf_16 : decode cX9_mostOf 16 = .ok (.iload 4, 2) := by decide +kernel
theorem dX9_mostOf_18 : decode cX9_mostOf 18 = .ok (.iaload, 1) := by decide +kernel
theorem dX9_mostOf_19 : decode cX9_mostOf 19 = .ok (.iadd, 1) := by decide +kernel
theorem dX9_mostOf_20 : decode cX9_mostOf 20 = .ok (.istore_n 3, 1) := by decide +kernel
theorem dX9_mostOf_21 : decode cX9_mostOf 21 = .ok (.iinc 4 1, 3) := by decide +kernel
theorem dX9_mostOf_24 : decode cX9_mostOf 24 = .ok (.goto (-19), 3) := by decide +kernel
theorem dX9_mostOf_27 : decode cX9_mostOf 27 = .ok (.iconst 0, 1) := by decide +kernel
theorem dX9_mostOf_28 : decode cX9_mostOf 28 = .ok (.istore 4, 2) := by decide +kernel
theorem dX9_mostOf_30 : decode cX9_mostOf 30 = .ok (.iload 4, 2) := by decide +kernel
theorem dX9_mostOf_32 : decode cX9_mostOf 32 = .ok (.iload_n 3, 1) := by decide +kernel
theorem dX9_mostOf_33 : decode cX9_mostOf 33 = .ok (.if_icmp .gt 25, 3) := by decide +kernel
theorem dX9_mostOf_36 : decode cX9_mostOf 36 = .ok (.aload_n 0, 1) := by decide +kernel
theorem dX9_mostOf_37 : decode cX9_mostOf 37 = .ok (.getfield 16, 3) := by decide +kernel
theorem dX9_mostOf_40 : decode cX9_mostOf 40 = .ok (.sipush 160, 3) := by decide +kernel
theorem dX9_mostOf_43 : decode cX9_mostOf 43 = .ok (.iload_n 2, 1) := by decide +kernel
theorem dX9_mostOf_44 : decode cX9_mostOf 44 = .ok (.iconst 1, 1) := by decide +kernel
theorem dX9_mostOf_45 : decode cX9_mostOf 45 = .ok (.iadd, 1) := by decide +kernel
theorem dX9_mostOf_46 : decode cX9_mostOf 46 = .ok (.imul, 1) := by decide +kernel
theorem dX9_mostOf_47 : decode cX9_mostOf 47 = .ok (.iload 4, 2) := by decide +kernel
theorem dX9_mostOf_49 : decode cX9_mostOf 49 = .ok (.iadd, 1) := by decide +kernel
theorem dX9_mostOf_50 : decode cX9_mostOf 50 = .ok (.iconst 0, 1) := by decide +kernel
theorem dX9_mostOf_51 : decode cX9_mostOf 51 = .ok (.iastore, 1) := by decide +kernel
theorem dX9_mostOf_52 : decode cX9_mostOf 52 = .ok (.iinc 4 1, 3) := by decide +kernel
theorem dX9_mostOf_55 : decode cX9_mostOf 55 = .ok (.goto (-25), 3) := by decide +kernel
theorem dX9_mostOf_58 : decode cX9_mostOf 58 = .ok (.iload_n 2, 1) := by decide +kernel
theorem dX9_mostOf_59 : decode cX9_mostOf 59 = .ok (.istore 4, 2) := by decide +kernel
theorem dX9_mostOf_61 : decode cX9_mostOf 61 = .ok (.iload 4, 2) := by decide +kernel
theorem dX9_mostOf_63 : decode cX9_mostOf 63 = .ok (.iload_n 1, 1) := by decide +kernel
theorem dX9_mostOf_64 : decode cX9_mostOf 64 = .ok (.if_icmp .lt 189, 3) := by decide +kernel
theorem dX9_mostOf_67 : decode cX9_mostOf 67 = .ok (.iload 4, 2) := by decide +kernel
theorem dX9_mostOf_69 : decode cX9_mostOf 69 = .ok (.iload_n 2, 1) := by decide +kernel
theorem dX9_mostOf_70 : decode cX9_mostOf 70 = .ok (.if_icmp .ge 15, 3) := by decide +kernel
theorem dX9_mostOf_73 : decode cX9_mostOf 73 = .ok (.aload_n 0, 1) := by decide +kernel
theorem dX9_mostOf_74 : decode cX9_mostOf 74 = .ok (.getfield 22, 3) := by decide +kernel
theorem dX9_mostOf_77 : decode cX9_mostOf 77 = .ok (.iload 4, 2) := by decide +kernel
theorem dX9_mostOf_79 : decode cX9_mostOf 79 = .ok (.iconst 1, 1) := by decide +kernel
theorem dX9_mostOf_80 : decode cX9_mostOf 80 = .ok (.iadd, 1) := by decide +kernel
theorem dX9_mostOf_81 : decode cX9_mostOf 81 = .ok (.iaload, 1) := by decide +kernel
theorem dX9_mostOf_82 : decode cX9_mostOf 82 = .ok (.goto 4, 3) := by decide +kernel
theorem dX9_mostOf_85 : decode cX9_mostOf 85 = .ok (.iconst 0, 1) := by decide +kernel
theorem dX9_mostOf_86 : decode cX9_mostOf 86 = .ok (.istore 5, 2) := by decide +kernel
theorem dX9_mostOf_88 : decode cX9_mostOf 88 = .ok (.iload_n 3, 1) := by decide +kernel
theorem dX9_mostOf_89 : decode cX9_mostOf 89 = .ok (.iload 4, 2) := by decide +kernel
theorem dX9_mostOf_91 : decode cX9_mostOf 91 = .ok (.iload_n 2, 1) := by decide +kernel
theorem dX9_mostOf_92 : decode cX9_mostOf 92 = .ok (.if_icmp .ge 8, 3) := by decide +kernel
theorem dX9_mostOf_95 : decode cX9_mostOf 95 = .ok (.iload 5, 2) := by decide +kernel
theorem dX9_mostOf_97 : decode cX9_mostOf 97 = .ok (.goto 4, 3) := by decide +kernel
theorem dX9_mostOf_100 : decode cX9_mostOf 100 = .ok (.iconst 0, 1) := by decide +kernel
theorem dX9_mostOf_101 : decode cX9_mostOf 101 = .ok (.isub, 1) := by decide +kernel
theorem dX9_mostOf_102 : decode cX9_mostOf 102 = .ok (.istore_n 3, 1) := by decide +kernel
theorem dX9_mostOf_103 : decode cX9_mostOf 103 = .ok (.iconst 0, 1) := by decide +kernel
theorem dX9_mostOf_104 : decode cX9_mostOf 104 = .ok (.istore 6, 2) := by decide +kernel
theorem dX9_mostOf_106 : decode cX9_mostOf 106 = .ok (.iload 6, 2) := by decide +kernel
theorem dX9_mostOf_108 : decode cX9_mostOf 108 = .ok (.iload_n 3, 1) := by decide +kernel
theorem dX9_mostOf_109 : decode cX9_mostOf 109 = .ok (.if_icmp .gt 138, 3) := by decide +kernel
theorem dX9_mostOf_112 : decode cX9_mostOf 112 = .ok (.iconst 0, 1) := by decide +kernel
theorem dX9_mostOf_113 : decode cX9_mostOf 113 = .ok (.istore 7, 2) := by decide +kernel
theorem dX9_mostOf_115 : decode cX9_mostOf 115 = .ok (.iconst 0, 1) := by decide +kernel
theorem dX9_mostOf_116 : decode cX9_mostOf 116 = .ok (.istore 8, 2) := by decide +kernel
theorem dX9_mostOf_118 : decode cX9_mostOf 118 = .ok (.iload 8, 2) := by decide +kernel
theorem dX9_mostOf_120 : decode cX9_mostOf 120 = .ok (.bipush 12, 2) := by decide +kernel
theorem dX9_mostOf_122 : decode cX9_mostOf 122 = .ok (.if_icmp .gt 103, 3) := by decide +kernel
theorem dX9_mostOf_125 : decode cX9_mostOf 125 = .ok (.iload 8, 2) := by decide +kernel
theorem dX9_mostOf_127 : decode cX9_mostOf 127 = .ok (.iload 6, 2) := by decide +kernel
theorem dX9_mostOf_129 : decode cX9_mostOf 129 = .ok (.if_icmp .gt 96, 3) := by decide +kernel
theorem dX9_mostOf_132 : decode cX9_mostOf 132 = .ok (.aload_n 0, 1) := by decide +kernel
theorem dX9_mostOf_133 : decode cX9_mostOf 133 = .ok (.iload 4, 2) := by decide +kernel
theorem dX9_mostOf_135 : decode cX9_mostOf 135 = .ok (.iload 8, 2) := by decide +kernel
theorem dX9_mostOf_137 : decode cX9_mostOf 137 = .ok (.invokevirtual 123, 3) := by decide +kernel
theorem dX9_mostOf_140 : decode cX9_mostOf 140 = .ok (.aload_n 0, 1) := by decide +kernel
theorem dX9_mostOf_141 : decode cX9_mostOf 141 = .ok (.iload 4, 2) := by decide +kernel
theorem dX9_mostOf_143 : decode cX9_mostOf 143 = .ok (.iload 6, 2) := by decide +kernel
theorem dX9_mostOf_145 : decode cX9_mostOf 145 = .ok (.iload 8, 2) := by decide +kernel
theorem dX9_mostOf_147 : decode cX9_mostOf 147 = .ok (.isub, 1) := by decide +kernel
theorem dX9_mostOf_148 : decode cX9_mostOf 148 = .ok (.invokevirtual 126, 3) := by decide +kernel
theorem dX9_mostOf_151 : decode cX9_mostOf 151 = .ok (.isub, 1) := by decide +kernel
theorem dX9_mostOf_152 : decode cX9_mostOf 152 = .ok (.aload_n 0, 1) := by decide +kernel
theorem dX9_mostOf_153 : decode cX9_mostOf 153 = .ok (.getfield 16, 3) := by decide +kernel
theorem dX9_mostOf_156 : decode cX9_mostOf 156 = .ok (.sipush 160, 3) := by decide +kernel
theorem dX9_mostOf_159 : decode cX9_mostOf 159 = .ok (.iload 4, 2) := by decide +kernel
theorem dX9_mostOf_161 : decode cX9_mostOf 161 = .ok (.iconst 1, 1) := by decide +kernel
theorem dX9_mostOf_162 : decode cX9_mostOf 162 = .ok (.iadd, 1) := by decide +kernel
theorem dX9_mostOf_163 : decode cX9_mostOf 163 = .ok (.imul, 1) := by decide +kernel
theorem dX9_mostOf_164 : decode cX9_mostOf 164 = .ok (.iload 4, 2) := by decide +kernel
theorem dX9_mostOf_166 : decode cX9_mostOf 166 = .ok (.iload_n 2, 1) := by decide +kernel
theorem dX9_mostOf_167 : decode cX9_mostOf 167 = .ok (.if_icmp .ge 14, 3) := by decide +kernel
theorem dX9_mostOf_170 : decode cX9_mostOf 170 = .ok (.iload 6, 2) := by decide +kernel
theorem dX9_mostOf_172 : decode cX9_mostOf 172 = .ok (.iload 8, 2) := by decide +kernel
theorem dX9_mostOf_174 : decode cX9_mostOf 174 = .ok (.isub, 1) := by decide +kernel
theorem dX9_mostOf_175 : decode cX9_mostOf 175 = .ok (.iload 5, 2) := by decide +kernel
theorem dX9_mostOf_177 : decode cX9_mostOf 177 = .ok (.iadd, 1) := by decide +kernel
theorem dX9_mostOf_178 : decode cX9_mostOf 178 = .ok (.goto 4, 3) := by decide +kernel
theorem dX9_mostOf_181 : decode cX9_mostOf 181 = .ok (.iconst 0, 1) := by decide +kernel
theorem dX9_mostOf_182 : decode cX9_mostOf 182 = .ok (.iadd, 1) := by decide +kernel
theorem dX9_mostOf_183 : decode cX9_mostOf 183 = .ok (.iaload, 1) := by decide +kernel
theorem dX9_mostOf_184 : decode cX9_mostOf 184 = .ok (.iadd, 1) := by decide +kernel
theorem dX9_mostOf_185 : decode cX9_mostOf 185 = .ok (.istore 9, 2) := by decide +kernel
theorem dX9_mostOf_187 : decode cX9_mostOf 187 = .ok (.iload 8, 2) := by decide +kernel
theorem dX9_mostOf_189 : decode cX9_mostOf 189 = .ok (.ifCond .eq 10, 3) := by decide +kernel
theorem dX9_mostOf_192 : decode cX9_mostOf 192 = .ok (.iload 9, 2) := by decide +kernel
theorem dX9_mostOf_194 : decode cX9_mostOf 194 = .ok (.iload 7, 2) := by decide +kernel
theorem dX9_mostOf_196 : decode cX9_mostOf 196 = .ok (.if_icmp .le 23, 3) := by decide +kernel
theorem dX9_mostOf_199 : decode cX9_mostOf 199 = .ok (.iload 9, 2) := by decide +kernel
theorem dX9_mostOf_201 : decode cX9_mostOf 201 = .ok (.istore 7, 2) := by decide +kernel
theorem dX9_mostOf_203 : decode cX9_mostOf 203 = .ok (.aload_n 0, 1) := by decide +kernel
theorem dX9_mostOf_204 : decode cX9_mostOf 204 = .ok (.getfield 19, 3) := by decide +kernel
theorem dX9_mostOf_207 : decode cX9_mostOf 207 = .ok (.sipush 160, 3) := by decide +kernel
theorem dX9_mostOf_210 : decode cX9_mostOf 210 = .ok (.iload 4, 2) := by decide +kernel
theorem dX9_mostOf_212 : decode cX9_mostOf 212 = .ok (.imul, 1) := by decide +kernel
theorem dX9_mostOf_213 : decode cX9_mostOf 213 = .ok (.iload 6, 2) := by decide +kernel
theorem dX9_mostOf_215 : decode cX9_mostOf 215 = .ok (.iadd, 1) := by decide +kernel
theorem dX9_mostOf_216 : decode cX9_mostOf 216 = .ok (.iload 8, 2) := by decide +kernel
theorem dX9_mostOf_218 : decode cX9_mostOf 218 = .ok (.iastore, 1) := by decide +kernel
theorem dX9_mostOf_219 : decode cX9_mostOf 219 = .ok (.iinc 8 1, 3) := by decide +kernel
theorem dX9_mostOf_222 : decode cX9_mostOf 222 = .ok (.goto (-104), 3) := by decide +kernel
theorem dX9_mostOf_225 : decode cX9_mostOf 225 = .ok (.aload_n 0, 1) := by decide +kernel
theorem dX9_mostOf_226 : decode cX9_mostOf 226 = .ok (.getfield 16, 3) := by decide +kernel
theorem dX9_mostOf_229 : decode cX9_mostOf 229 = .ok (.sipush 160, 3) := by decide +kernel
theorem dX9_mostOf_232 : decode cX9_mostOf 232 = .ok (.iload 4, 2) := by decide +kernel
theorem dX9_mostOf_234 : decode cX9_mostOf 234 = .ok (.imul, 1) := by decide +kernel
theorem dX9_mostOf_235 : decode cX9_mostOf 235 = .ok (.iload 6, 2) := by decide +kernel
theorem dX9_mostOf_237 : decode cX9_mostOf 237 = .ok (.iadd, 1) := by decide +kernel
theorem dX9_mostOf_238 : decode cX9_mostOf 238 = .ok (.iload 7, 2) := by decide +kernel
theorem dX9_mostOf_240 : decode cX9_mostOf 240 = .ok (.iastore, 1) := by decide +kernel
theorem dX9_mostOf_241 : decode cX9_mostOf 241 = .ok (.iinc 6 1, 3) := by decide +kernel
theorem dX9_mostOf_244 : decode cX9_mostOf 244 = .ok (.goto (-138), 3) := by decide +kernel
theorem dX9_mostOf_247 : decode cX9_mostOf 247 = .ok (.iinc 4 (-1), 3) := by decide +kernel
theorem dX9_mostOf_250 : decode cX9_mostOf 250 = .ok (.goto (-189), 3) := by decide +kernel
theorem dX9_mostOf_253 : decode cX9_mostOf 253 = .ok (.aload_n 0, 1) := by decide +kernel
theorem dX9_mostOf_254 : decode cX9_mostOf 254 = .ok (.getfield 16, 3) := by decide +kernel
theorem dX9_mostOf_257 : decode cX9_mostOf 257 = .ok (.sipush 160, 3) := by decide +kernel
theorem dX9_mostOf_260 : decode cX9_mostOf 260 = .ok (.iload_n 1, 1) := by decide +kernel
theorem dX9_mostOf_261 : decode cX9_mostOf 261 = .ok (.imul, 1) := by decide +kernel
theorem dX9_mostOf_262 : decode cX9_mostOf 262 = .ok (.aload_n 0, 1) := by decide +kernel
theorem dX9_mostOf_263 : decode cX9_mostOf 263 = .ok (.getfield 22, 3) := by decide +kernel
theorem dX9_mostOf_266 : decode cX9_mostOf 266 = .ok (.iload_n 1, 1) := by decide +kernel
theorem dX9_mostOf_267 : decode cX9_mostOf 267 = .ok (.iaload, 1) := by decide +kernel
theorem dX9_mostOf_268 : decode cX9_mostOf 268 = .ok (.iadd, 1) := by decide +kernel
theorem dX9_mostOf_269 : decode cX9_mostOf 269 = .ok (.iaload, 1) := by decide +kernel
theorem dX9_mostOf_270 : decode cX9_mostOf 270 = .ok (.ireturn, 1) := by decide +kernel
theorem dX9_bestOf_0 : decode cX9_bestOf 0 = .ok (.aload_n 0, 1) := by decide +kernel
theorem dX9_bestOf_1 : decode cX9_bestOf 1 = .ok (.getfield 9, 3) := by decide +kernel
theorem dX9_bestOf_4 : decode cX9_bestOf 4 = .ok (.iconst 0, 1) := by decide +kernel
theorem dX9_bestOf_5 : decode cX9_bestOf 5 = .ok (.iaload, 1) := by decide +kernel
theorem dX9_bestOf_6 : decode cX9_bestOf 6 = .ok (.ifCond .ne 5, 3) := by decide +kernel
theorem dX9_bestOf_9 : decode cX9_bestOf 9 = .ok (.iconst 0, 1) := by decide +kernel
theorem dX9_bestOf_10 : decode cX9_bestOf 10 = .ok (.ireturn, 1) := by decide +kernel
theorem dX9_bestOf_11 : decode cX9_bestOf 11 = .ok (.aload_n 0, 1) := by decide +kernel
theorem dX9_bestOf_12 : decode cX9_bestOf 12 = .ok (.iload_n 1, 1) := by decide +kernel
theorem dX9_bestOf_13 : decode cX9_bestOf 13 = .ok (.invokevirtual 129, 3) := by decide +kernel
theorem dX9_bestOf_16 : decode cX9_bestOf 16 = .ok (.aload_n 0, 1) := by decide +kernel
theorem dX9_bestOf_17 : decode cX9_bestOf 17 = .ok (.iconst 0, 1) := by decide +kernel
theorem dX9_bestOf_18 : decode cX9_bestOf 18 = .ok (.aload_n 0, 1) := by decide +kernel
theorem dX9_bestOf_19 : decode cX9_bestOf 19 = .ok (.getfield 9, 3) := by decide +kernel
theorem dX9_bestOf_22 : decode cX9_bestOf 22 = .ok (.iconst 0, 1) := by decide +kernel
theorem dX9_bestOf_23 : decode cX9_bestOf 23 = .ok (.iaload, 1) := by decide +kernel
theorem dX9_bestOf_24 : decode cX9_bestOf 24 = .ok (.iconst 1, 1) := by decide +kernel
theorem dX9_bestOf_25 : decode cX9_bestOf 25 = .ok (.isub, 1) := by decide +kernel
theorem dX9_bestOf_26 : decode cX9_bestOf 26 = .ok (.invokevirtual 133, 3) := by decide +kernel
theorem dX9_bestOf_29 : decode cX9_bestOf 29 = .ok (.ireturn, 1) := by decide +kernel
theorem dX9_best_0 : decode cX9_best 0 = .ok (.iload_n 1, 1) := by decide +kernel
theorem dX9_best_1 : decode cX9_best 1 = .ok (.iconst 0, 1) := by decide +kernel
theorem dX9_best_2 : decode cX9_best 2 = .ok (.bipush 20, 2) := by decide +kernel
theorem dX9_best_4 : decode cX9_best 4 = .ok (.invokestatic 104, 3) := by decide +kernel
theorem dX9_best_7 : decode cX9_best 7 = .ok (.ifCond .eq 11, 3) := by decide +kernel
theorem dX9_best_10 : decode cX9_best 10 = .ok (.aload_n 0, 1) := by decide +kernel
theorem dX9_best_11 : decode cX9_best 11 = .ok (.iload_n 1, 1) := by decide +kernel
theorem dX9_best_12 : decode cX9_best 12 = .ok (.invokevirtual 136, 3) := by decide +kernel
theorem dX9_best_15 : decode cX9_best 15 = .ok (.goto 5, 3) := by decide +kernel
theorem dX9_best_18 : decode cX9_best 18 = .ok (.ldc 140, 2) := by decide +kernel
theorem dX9_best_20 : decode cX9_best 20 = .ok (.ireturn, 1) := by decide +kernel
theorem dX9_findBest_0 : decode cX9_findBest 0 = .ok (.aload_n 0, 1) := by decide +kernel
theorem dX9_findBest_1 : decode cX9_findBest 1 = .ok (.bipush 10, 2) := by decide +kernel
theorem dX9_findBest_3 : decode cX9_findBest 3 = .ok (.invokevirtual 136, 3) := by decide +kernel
theorem dX9_findBest_6 : decode cX9_findBest 6 = .ok (.istore_n 1, 1) := by decide +kernel
theorem dX9_findBest_7 : decode cX9_findBest 7 = .ok (.iconst 0, 1) := by decide +kernel
theorem dX9_findBest_8 : decode cX9_findBest 8 = .ok (.istore_n 2, 1) := by decide +kernel
theorem dX9_findBest_9 : decode cX9_findBest 9 = .ok (.iconst 0, 1) := by decide +kernel
theorem dX9_findBest_10 : decode cX9_findBest 10 = .ok (.istore_n 3, 1) := by decide +kernel
theorem dX9_findBest_11 : decode cX9_findBest 11 = .ok (.iload_n 3, 1) := by decide +kernel
theorem dX9_findBest_12 : decode cX9_findBest 12 = .ok (.aload_n 0, 1) := by decide +kernel
theorem dX9_findBest_13 : decode cX9_findBest 13 = .ok (.getfield 9, 3) := by decide +kernel
theorem dX9_findBest_16 : decode cX9_findBest 16 = .ok (.iconst 0, 1) := by decide +kernel
theorem dX9_findBest_17 : decode cX9_findBest 17 = .ok (.iaload, 1) := by decide +kernel
theorem dX9_findBest_18 : decode cX9_findBest 18 = .ok (.if_icmp .ge 89, 3) := by decide +kernel
theorem dX9_findBest_21 : decode cX9_findBest 21 = .ok (.iload_n 2, 1) := by decide +kernel
theorem dX9_findBest_22 : decode cX9_findBest 22 = .ok (.aload_n 0, 1) := by decide +kernel
theorem dX9_findBest_23 : decode cX9_findBest 23 = .ok (.getfield 22, 3) := by decide +kernel
theorem dX9_findBest_26 : decode cX9_findBest 26 = .ok (.iload_n 3, 1) := by decide +kernel
theorem dX9_findBest_27 : decode cX9_findBest 27 = .ok (.iaload, 1) := by decide +kernel
theorem dX9_findBest_28 : decode cX9_findBest 28 = .ok (.iadd, 1) := by decide +kernel
theorem dX9_findBest_29 : decode cX9_findBest 29 = .ok (.istore 4, 2) := by decide +kernel
theorem dX9_findBest_31 : decode cX9_findBest 31 = .ok (.aload_n 0, 1) := by decide +kernel
theorem dX9_findBest_32 : decode cX9_findBest 32 = .ok (.getfield 25, 3) := by decide +kernel
theorem dX9_findBest_35 : decode cX9_findBest 35 = .ok (.iload_n 3, 1) := by decide +kernel
theorem dX9_findBest_36 : decode cX9_findBest 36 = .ok (.aload_n 0, 1) := by decide +kernel
theorem dX9_findBest_37 : decode cX9_findBest 37 = .ok (.getfield 19, 3) := by decide +kernel
theorem dX9_findBest_40 : decode cX9_findBest 40 = .ok (.sipush 160, 3) := by decide +kernel
theorem dX9_findBest_43 : decode cX9_findBest 43 = .ok (.iload_n 3, 1) := by decide +kernel
theorem dX9_findBest_44 : decode cX9_findBest 44 = .ok (.imul, 1) := by decide +kernel
theorem dX9_findBest_45 : decode cX9_findBest 45 = .ok (.iload 4, 2) := by decide +kernel
theorem dX9_findBest_47 : decode cX9_findBest 47 = .ok (.iadd, 1) := by decide +kernel
theorem dX9_findBest_48 : decode cX9_findBest 48 = .ok (.iaload, 1) := by decide +kernel
theorem dX9_findBest_49 : decode cX9_findBest 49 = .ok (.iastore, 1) := by decide +kernel
theorem dX9_findBest_50 : decode cX9_findBest 50 = .ok (.aload_n 0, 1) := by decide +kernel
theorem dX9_findBest_51 : decode cX9_findBest 51 = .ok (.getfield 28, 3) := by decide +kernel
theorem dX9_findBest_54 : decode cX9_findBest 54 = .ok (.iload_n 3, 1) := by decide +kernel
theorem dX9_findBest_55 : decode cX9_findBest 55 = .ok (.iload 4, 2) := by decide +kernel
theorem dX9_findBest_57 : decode cX9_findBest 57 = .ok (.aload_n 0, 1) := by decide +kernel
theorem dX9_findBest_58 : decode cX9_findBest 58 = .ok (.getfield 25, 3) := by decide +kernel
theorem dX9_findBest_61 : decode cX9_findBest 61 = .ok (.iload_n 3, 1) := by decide +kernel
theorem dX9_findBest_62 : decode cX9_findBest 62 = .ok (.iaload, 1) := by decide +kernel
theorem dX9_findBest_63 : decode cX9_findBest 63 = .ok (.isub, 1) := by decide +kernel
theorem dX9_findBest_64 : decode cX9_findBest 64 = .ok (.iastore, 1) := by decide +kernel
theorem dX9_findBest_65 : decode cX9_findBest 65 = .ok (.aload_n 0, 1) := by decide +kernel
theorem dX9_findBest_66 : decode cX9_findBest 66 = .ok (.getfield 31, 3) := by decide +kernel
theorem dX9_findBest_69 : decode cX9_findBest 69 = .ok (.iload_n 3, 1) := by decide +kernel
theorem dX9_findBest_70 : decode cX9_findBest 70 = .ok (.aload_n 0, 1) := by decide +kernel
theorem dX9_findBest_71 : decode cX9_findBest 71 = .ok (.iload_n 3, 1) := by decide +kernel
theorem dX9_findBest_72 : decode cX9_findBest 72 = .ok (.aload_n 0, 1) := by decide +kernel
theorem dX9_findBest_73 : decode cX9_findBest 73 = .ok (.getfield 25, 3) := by decide +kernel
theorem dX9_findBest_76 : decode cX9_findBest 76 = .ok (.iload_n 3, 1) := by decide +kernel
theorem dX9_findBest_77 : decode cX9_findBest 77 = .ok (.iaload, 1) := by decide +kernel
theorem dX9_findBest_78 : decode cX9_findBest 78 = .ok (.invokevirtual 123, 3) := by decide +kernel
theorem dX9_findBest_81 : decode cX9_findBest 81 = .ok (.aload_n 0, 1) := by decide +kernel
theorem dX9_findBest_82 : decode cX9_findBest 82 = .ok (.iload_n 3, 1) := by decide +kernel
theorem dX9_findBest_83 : decode cX9_findBest 83 = .ok (.aload_n 0, 1) := by decide +kernel
theorem dX9_findBest_84 : decode cX9_findBest 84 = .ok (.getfield 28, 3) := by decide +kernel
theorem dX9_findBest_87 : decode cX9_findBest 87 = .ok (.iload_n 3, 1) := by decide +kernel
theorem dX9_findBest_88 : decode cX9_findBest 88 = .ok (.iaload, 1) := by decide +kernel
theorem dX9_findBest_89 : decode cX9_findBest 89 = .ok (.invokevirtual 126, 3) := by decide +kernel
theorem dX9_findBest_92 : decode cX9_findBest 92 = .ok (.isub, 1) := by decide +kernel
theorem dX9_findBest_93 : decode cX9_findBest 93 = .ok (.iastore, 1) := by decide +kernel
theorem dX9_findBest_94 : decode cX9_findBest 94 = .ok (.aload_n 0, 1) := by decide +kernel
theorem dX9_findBest_95 : decode cX9_findBest 95 = .ok (.getfield 28, 3) := by decide +kernel
theorem dX9_findBest_98 : decode cX9_findBest 98 = .ok (.iload_n 3, 1) := by decide +kernel
theorem dX9_findBest_99 : decode cX9_findBest 99 = .ok (.iaload, 1) := by decide +kernel
theorem dX9_findBest_100 : decode cX9_findBest 100 = .ok (.istore_n 2, 1) := by decide +kernel
theorem dX9_findBest_101 : decode cX9_findBest 101 = .ok (.iinc 3 1, 3) := by decide +kernel
theorem dX9_findBest_104 : decode cX9_findBest 104 = .ok (.goto (-93), 3) := by decide +kernel
theorem dX9_findBest_107 : decode cX9_findBest 107 = .ok (.iload_n 1, 1) := by decide +kernel
theorem dX9_findBest_108 : decode cX9_findBest 108 = .ok (.ireturn, 1) := by decide +kernel
theorem dX9_use_0 : decode cX9_use 0 = .ok (.aload_n 0, 1) := by decide +kernel
theorem dX9_use_1 : decode cX9_use 1 = .ok (.iload_n 1, 1) := by decide +kernel
theorem dX9_use_2 : decode cX9_use 2 = .ok (.invokevirtual 112, 3) := by decide +kernel
theorem dX9_use_5 : decode cX9_use 5 = .ok (.ifCond .eq 12, 3) := by decide +kernel
theorem dX9_use_8 : decode cX9_use 8 = .ok (.iload_n 2, 1) := by decide +kernel
theorem dX9_use_9 : decode cX9_use 9 = .ok (.iconst 0, 1) := by decide +kernel
theorem dX9_use_10 : decode cX9_use 10 = .ok (.iconst 2, 1) := by decide +kernel
theorem dX9_use_11 : decode cX9_use 11 = .ok (.invokestatic 104, 3) := by decide +kernel
theorem dX9_use_14 : decode cX9_use 14 = .ok (.ifCond .ne 6, 3) := by decide +kernel
theorem dX9_use_17 : decode cX9_use 17 = .ok (.ldc 140, 2) := by decide +kernel
theorem dX9_use_19 : decode cX9_use 19 = .ok (.ireturn, 1) := by decide +kernel
theorem dX9_use_20 : decode cX9_use 20 = .ok (.aload_n 0, 1) := by decide +kernel
theorem dX9_use_21 : decode cX9_use 21 = .ok (.invokevirtual 141, 3) := by decide +kernel
theorem dX9_use_24 : decode cX9_use 24 = .ok (.istore_n 3, 1) := by decide +kernel
theorem dX9_use_25 : decode cX9_use 25 = .ok (.iload_n 2, 1) := by decide +kernel
theorem dX9_use_26 : decode cX9_use 26 = .ok (.ifCond .ne 12, 3) := by decide +kernel
theorem dX9_use_29 : decode cX9_use 29 = .ok (.aload_n 0, 1) := by decide +kernel
theorem dX9_use_30 : decode cX9_use 30 = .ok (.getfield 25, 3) := by decide +kernel
theorem dX9_use_33 : decode cX9_use 33 = .ok (.iload_n 1, 1) := by decide +kernel
theorem dX9_use_34 : decode cX9_use 34 = .ok (.iaload, 1) := by decide +kernel
theorem dX9_use_35 : decode cX9_use 35 = .ok (.goto 23, 3) := by decide +kernel
theorem dX9_use_38 : decode cX9_use 38 = .ok (.iload_n 2, 1) := by decide +kernel
theorem dX9_use_39 : decode cX9_use 39 = .ok (.iconst 1, 1) := by decide +kernel
theorem dX9_use_40 : decode cX9_use 40 = .ok (.if_icmp .ne 12, 3) := by decide +kernel
theorem dX9_use_43 : decode cX9_use 43 = .ok (.aload_n 0, 1) := by decide +kernel
theorem dX9_use_44 : decode cX9_use 44 = .ok (.getfield 28, 3) := by decide +kernel
theorem dX9_use_47 : decode cX9_use 47 = .ok (.iload_n 1, 1) := by decide +kernel
theorem dX9_use_48 : decode cX9_use 48 = .ok (.iaload, 1) := by decide +kernel
theorem dX9_use_49 : decode cX9_use 49 = .ok (.goto 9, 3) := by decide +kernel
theorem dX9_use_52 : decode cX9_use 52 = .ok (.aload_n 0, 1) := by decide +kernel
theorem dX9_use_53 : decode cX9_use 53 = .ok (.getfield 31, 3) := by decide +kernel
theorem dX9_use_56 : decode cX9_use 56 = .ok (.iload_n 1, 1) := by decide +kernel
theorem dX9_use_57 : decode cX9_use 57 = .ok (.iaload, 1) := by decide +kernel
theorem dX9_use_58 : decode cX9_use 58 = .ok (.ireturn, 1) := by decide +kernel
theorem dX9_price_0 : decode cX9_price 0 = .ok (.aload_n 0, 1) := by decide +kernel
theorem dX9_price_1 : decode cX9_price 1 = .ok (.iload_n 1, 1) := by decide +kernel
theorem dX9_price_2 : decode cX9_price 2 = .ok (.invokevirtual 112, 3) := by decide +kernel
theorem dX9_price_5 : decode cX9_price 5 = .ok (.ifCond .ne 6, 3) := by decide +kernel
theorem dX9_price_8 : decode cX9_price 8 = .ok (.ldc 140, 2) := by decide +kernel
theorem dX9_price_10 : decode cX9_price 10 = .ok (.ireturn, 1) := by decide +kernel
theorem dX9_price_11 : decode cX9_price 11 = .ok (.aload_n 0, 1) := by decide +kernel
theorem dX9_price_12 : decode cX9_price 12 = .ok (.bipush 10, 2) := by decide +kernel
theorem dX9_price_14 : decode cX9_price 14 = .ok (.invokevirtual 136, 3) := by decide +kernel
theorem dX9_price_17 : decode cX9_price 17 = .ok (.istore_n 2, 1) := by decide +kernel
theorem dX9_price_18 : decode cX9_price 18 = .ok (.aload_n 0, 1) := by decide +kernel
theorem dX9_price_19 : decode cX9_price 19 = .ok (.getfield 22, 3) := by decide +kernel
theorem dX9_price_22 : decode cX9_price 22 = .ok (.iload_n 1, 1) := by decide +kernel
theorem dX9_price_23 : decode cX9_price 23 = .ok (.dup2, 1) := by decide +kernel
theorem dX9_price_24 : decode cX9_price 24 = .ok (.iaload, 1) := by decide +kernel
theorem dX9_price_25 : decode cX9_price 25 = .ok (.iconst 1, 1) := by decide +kernel
theorem dX9_price_26 : decode cX9_price 26 = .ok (.iadd, 1) := by decide +kernel
theorem dX9_price_27 : decode cX9_price 27 = .ok (.iastore, 1) := by decide +kernel
theorem dX9_price_28 : decode cX9_price 28 = .ok (.aload_n 0, 1) := by decide +kernel
theorem dX9_price_29 : decode cX9_price 29 = .ok (.iconst 0, 1) := by decide +kernel
theorem dX9_price_30 : decode cX9_price 30 = .ok (.aload_n 0, 1) := by decide +kernel
theorem dX9_price_31 : decode cX9_price 31 = .ok (.getfield 9, 3) := by decide +kernel
theorem dX9_price_34 : decode cX9_price 34 = .ok (.iconst 0, 1) := by decide +kernel
theorem dX9_price_35 : decode cX9_price 35 = .ok (.iaload, 1) := by decide +kernel
theorem dX9_price_36 : decode cX9_price 36 = .ok (.iconst 1, 1) := by decide +kernel
theorem dX9_price_37 : decode cX9_price 37 = .ok (.isub, 1) := by decide +kernel
theorem dX9_price_38 : decode cX9_price 38 = .ok (.invokevirtual 133, 3) := by decide +kernel
theorem dX9_price_41 : decode cX9_price 41 = .ok (.iload_n 2, 1) := by decide +kernel
theorem dX9_price_42 : decode cX9_price 42 = .ok (.isub, 1) := by decide +kernel
theorem dX9_price_43 : decode cX9_price 43 = .ok (.ireturn, 1) := by decide +kernel
theorem dX9_runOf_0 : decode cX9_runOf 0 = .ok (.aload_n 0, 1) := by decide +kernel
theorem dX9_runOf_1 : decode cX9_runOf 1 = .ok (.bipush 10, 2) := by decide +kernel
theorem dX9_runOf_3 : decode cX9_runOf 3 = .ok (.invokevirtual 129, 3) := by decide +kernel
theorem dX9_runOf_6 : decode cX9_runOf 6 = .ok (.aload_n 0, 1) := by decide +kernel
theorem dX9_runOf_7 : decode cX9_runOf 7 = .ok (.iload_n 1, 1) := by decide +kernel
theorem dX9_runOf_8 : decode cX9_runOf 8 = .ok (.iload_n 2, 1) := by decide +kernel
theorem dX9_runOf_9 : decode cX9_runOf 9 = .ok (.invokevirtual 133, 3) := by decide +kernel
theorem dX9_runOf_12 : decode cX9_runOf 12 = .ok (.ireturn, 1) := by decide +kernel
theorem dX9_run_0 : decode cX9_run 0 = .ok (.aload_n 0, 1) := by decide +kernel
theorem dX9_run_1 : decode cX9_run 1 = .ok (.iload_n 1, 1) := by decide +kernel
theorem dX9_run_2 : decode cX9_run 2 = .ok (.invokevirtual 112, 3) := by decide +kernel
theorem dX9_run_5 : decode cX9_run 5 = .ok (.ifCond .eq 25, 3) := by decide +kernel
theorem dX9_run_8 : decode cX9_run 8 = .ok (.aload_n 0, 1) := by decide +kernel
theorem dX9_run_9 : decode cX9_run 9 = .ok (.iload_n 2, 1) := by decide +kernel
theorem dX9_run_10 : decode cX9_run 10 = .ok (.invokevirtual 112, 3) := by decide +kernel
theorem dX9_run_13 : decode cX9_run 13 = .ok (.ifCond .eq 17, 3) := by decide +kernel
theorem dX9_run_16 : decode cX9_run 16 = .ok (.iload_n 1, 1) := by decide +kernel
theorem dX9_run_17 : decode cX9_run 17 = .ok (.iload_n 2, 1) := by decide +kernel
theorem dX9_run_18 : decode cX9_run 18 = .ok (.if_icmp .gt 12, 3) := by decide +kernel
theorem dX9_run_21 : decode cX9_run 21 = .ok (.aload_n 0, 1) := by decide +kernel
theorem dX9_run_22 : decode cX9_run 22 = .ok (.iload_n 1, 1) := by decide +kernel
theorem dX9_run_23 : decode cX9_run 23 = .ok (.iload_n 2, 1) := by decide +kernel
theorem dX9_run_24 : decode cX9_run 24 = .ok (.invokevirtual 145, 3) := by decide +kernel
theorem dX9_run_27 : decode cX9_run 27 = .ok (.goto 5, 3) := by decide +kernel
theorem dX9_run_30 : decode cX9_run 30 = .ok (.ldc 140, 2) := by decide +kernel
theorem dX9_run_32 : decode cX9_run 32 = .ok (.ireturn, 1) := by decide +kernel
theorem dX9_mostFor_0 : decode cX9_mostFor 0 = .ok (.iconst 0, 1) := by decide +kernel
theorem dX9_mostFor_1 : decode cX9_mostFor 1 = .ok (.istore_n 2, 1) := by decide +kernel
theorem dX9_mostFor_2 : decode cX9_mostFor 2 = .ok (.iconst 0, 1) := by decide +kernel
theorem dX9_mostFor_3 : decode cX9_mostFor 3 = .ok (.istore_n 3, 1) := by decide +kernel
theorem dX9_mostFor_4 : decode cX9_mostFor 4 = .ok (.iload_n 3, 1) := by decide +kernel
theorem dX9_mostFor_5 : decode cX9_mostFor 5 = .ok (.iload_n 1, 1) := by decide +kernel
theorem dX9_mostFor_6 : decode cX9_mostFor 6 = .ok (.if_icmp .gt 18, 3) := by decide +kernel
theorem dX9_mostFor_9 : decode cX9_mostFor 9 = .ok (.iload_n 2, 1) := by decide +kernel
theorem dX9_mostFor_10 : decode cX9_mostFor 10 = .ok (.aload_n 0, 1) := by decide +kernel
theorem dX9_mostFor_11 : decode cX9_mostFor 11 = .ok (.iload_n 3, 1) := by decide +kernel
theorem dX9_mostFor_12 : decode cX9_mostFor 12 = .ok (.iconst 0, 1) := by decide +kernel
theorem dX9_mostFor_13 : decode cX9_mostFor 13 = .ok (.invokevirtual 116, 3) := by decide +kernel
theorem dX9_mostFor_16 : decode cX9_mostFor 16 = .ok (.iadd, 1) := by decide +kernel
theorem dX9_mostFor_17 : decode cX9_mostFor 17 = .ok (.istore_n 2, 1) := by decide +kernel
theorem dX9_mostFor_18 : decode cX9_mostFor 18 = .ok (.iinc 3 1, 3) := by decide +kernel
theorem dX9_mostFor_21 : decode cX9_mostFor 21 = .ok (.goto (-17), 3) := by decide +kernel
theorem dX9_mostFor_24 : decode cX9_mostFor 24 = .ok (.aload_n 0, 1) := by decide +kernel
theorem dX9_mostFor_25 : decode cX9_mostFor 25 = .ok (.iload_n 1, 1) := by decide +kernel
theorem dX9_mostFor_26 : decode cX9_mostFor 26 = .ok (.iload_n 2, 1) := by decide +kernel
theorem dX9_mostFor_27 : decode cX9_mostFor 27 = .ok (.bipush 12, 2) := by decide +kernel
theorem dX9_mostFor_29 : decode cX9_mostFor 29 = .ok (.if_icmp .ge 7, 3) := by decide +kernel
theorem dX9_mostFor_32 : decode cX9_mostFor 32 = .ok (.iload_n 2, 1) := by decide +kernel
theorem dX9_mostFor_33 : decode cX9_mostFor 33 = .ok (.goto 5, 3) := by decide +kernel
theorem dX9_mostFor_36 : decode cX9_mostFor 36 = .ok (.bipush 12, 2) := by decide +kernel
theorem dX9_mostFor_38 : decode cX9_mostFor 38 = .ok (.invokevirtual 123, 3) := by decide +kernel
theorem dX9_mostFor_41 : decode cX9_mostFor 41 = .ok (.ireturn, 1) := by decide +kernel
theorem dX9_most_0 : decode cX9_most 0 = .ok (.aload_n 0, 1) := by decide +kernel
theorem dX9_most_1 : decode cX9_most 1 = .ok (.iload_n 1, 1) := by decide +kernel
theorem dX9_most_2 : decode cX9_most 2 = .ok (.invokevirtual 112, 3) := by decide +kernel
theorem dX9_most_5 : decode cX9_most 5 = .ok (.ifCond .eq 11, 3) := by decide +kernel
theorem dX9_most_8 : decode cX9_most 8 = .ok (.aload_n 0, 1) := by decide +kernel
theorem dX9_most_9 : decode cX9_most 9 = .ok (.iload_n 1, 1) := by decide +kernel
theorem dX9_most_10 : decode cX9_most 10 = .ok (.invokevirtual 148, 3) := by decide +kernel
theorem dX9_most_13 : decode cX9_most 13 = .ok (.goto 4, 3) := by decide +kernel
theorem dX9_most_16 : decode cX9_most 16 = .ok (.iconst (-1), 1) := by decide +kernel
theorem dX9_most_17 : decode cX9_most 17 = .ok (.ireturn, 1) := by decide +kernel
theorem dX9_canUse_0 : decode cX9_canUse 0 = .ok (.iconst 0, 1) := by decide +kernel
theorem dX9_canUse_1 : decode cX9_canUse 1 = .ok (.istore_n 3, 1) := by decide +kernel
theorem dX9_canUse_2 : decode cX9_canUse 2 = .ok (.iload_n 3, 1) := by decide +kernel
theorem dX9_canUse_3 : decode cX9_canUse 3 = .ok (.bipush 12, 2) := by decide +kernel
theorem dX9_canUse_5 : decode cX9_canUse 5 = .ok (.if_icmp .ge 26, 3) := by decide +kernel
theorem dX9_canUse_8 : decode cX9_canUse 8 = .ok (.iload_n 3, 1) := by decide +kernel
theorem dX9_canUse_9 : decode cX9_canUse 9 = .ok (.iload_n 2, 1) := by decide +kernel
theorem dX9_canUse_10 : decode cX9_canUse 10 = .ok (.if_icmp .ge 21, 3) := by decide +kernel
theorem dX9_canUse_13 : decode cX9_canUse 13 = .ok (.aload_n 0, 1) := by decide +kernel
theorem dX9_canUse_14 : decode cX9_canUse 14 = .ok (.iload_n 1, 1) := by decide +kernel
theorem dX9_canUse_15 : decode cX9_canUse 15 = .ok (.bipush 6, 2) := by decide +kernel
theorem dX9_canUse_17 : decode cX9_canUse 17 = .ok (.iload_n 3, 1) := by decide +kernel
theorem dX9_canUse_18 : decode cX9_canUse 18 = .ok (.iadd, 1) := by decide +kernel
theorem dX9_canUse_19 : decode cX9_canUse 19 = .ok (.invokevirtual 116, 3) := by decide +kernel
theorem dX9_canUse_22 : decode cX9_canUse 22 = .ok (.ifCond .le 9, 3) := by decide +kernel
theorem dX9_canUse_25 : decode cX9_canUse 25 = .ok (.iinc 3 1, 3) := by decide +kernel
theorem dX9_canUse_28 : decode cX9_canUse 28 = .ok (.goto (-26), 3) := by decide +kernel
theorem dX9_canUse_31 : decode cX9_canUse 31 = .ok (.iload_n 3, 1) := by decide +kernel
theorem dX9_canUse_32 : decode cX9_canUse 32 = .ok (.ireturn, 1) := by decide +kernel
theorem dX9_findShares_0 : decode cX9_findShares 0 = .ok (.aload_n 0, 1) := by decide +kernel
theorem dX9_findShares_1 : decode cX9_findShares 1 = .ok (.getfield 9, 3) := by decide +kernel
theorem dX9_findShares_4 : decode cX9_findShares 4 = .ok (.iconst 0, 1) := by decide +kernel
theorem dX9_findShares_5 : decode cX9_findShares 5 = .ok (.iaload, 1) := by decide +kernel
theorem dX9_findShares_6 : decode cX9_findShares 6 = .ok (.istore_n 2, 1) := by decide +kernel
theorem dX9_findShares_7 : decode cX9_findShares 7 = .ok (.aload_n 0, 1) := by decide +kernel
theorem dX9_findShares_8 : decode cX9_findShares 8 = .ok (.invokevirtual 141, 3) := by decide +kernel
theorem dX9_findShares_11 : decode cX9_findShares 11 = .ok (.istore_n 3, 1) := by decide +kernel
theorem dX9_findShares_12 : decode cX9_findShares 12 = .ok (.iconst 0, 1) := by decide +kernel
theorem dX9_findShares_13 : decode cX9_findShares 13 = .ok (.istore 4, 2) := by decide +kernel
theorem dX9_findShares_15 : decode cX9_findShares 15 = .ok (.iconst 0, 1) := by decide +kernel
theorem dX9_findShares_16 : decode cX9_findShares 16 = .ok (.istore 5, 2) := by decide +kernel
theorem dX9_findShares_18 : decode cX9_findShares 18 = .ok (.iload 5, 2) := by decide +kernel
theorem dX9_findShares_20 : decode cX9_findShares 20 = .ok (.iload_n 2, 1) := by decide +kernel
theorem dX9_findShares_21 : decode cX9_findShares 21 = .ok (.if_icmp .ge 210, 3) := by decide +kernel
theorem dX9_findShares_24 : decode cX9_findShares 24 = .ok (.iload_n 1, 1) := by decide +kernel
theorem dX9_findShares_25 : decode cX9_findShares 25 = .ok (.ifCond .ne 62, 3) := by decide +kernel
theorem dX9_findShares_28 : decode cX9_findShares 28 = .ok (.iload 4, 2) := by decide +kernel
theorem dX9_findShares_30 : decode cX9_findShares 30 = .ok (.aload_n 0, 1) := by decide +kernel
theorem dX9_findShares_31 : decode cX9_findShares 31 = .ok (.iload 5, 2) := by decide +kernel
theorem dX9_findShares_33 : decode cX9_findShares 33 = .ok (.iconst 0, 1) := by decide +kernel
theorem dX9_findShares_34 : decode cX9_findShares 34 = .ok (.invokevirtual 116, 3) := by decide +kernel
theorem dX9_findShares_37 : decode cX9_findShares 37 = .ok (.iadd, 1) := by decide +kernel
theorem dX9_findShares_38 : decode cX9_findShares 38 = .ok (.istore 6, 2) := by decide +kernel
theorem dX9_findShares_40 : decode cX9_findShares 40 = .ok (.aload_n 0, 1) := by decide +kernel
theorem dX9_findShares_41 : decode cX9_findShares 41 = .ok (.iload 5, 2) := by decide +kernel
theorem dX9_findShares_43 : decode cX9_findShares 43 = .ok (.iload 6, 2) := by decide +kernel
theorem dX9_findShares_45 : decode cX9_findShares 45 = .ok (.invokevirtual 151, 3) := by decide +kernel
theorem dX9_findShares_48 : decode cX9_findShares 48 = .ok (.istore 7, 2) := by decide +kernel
theorem dX9_findShares_50 : decode cX9_findShares 50 = .ok (.aload_n 0, 1) := by decide +kernel
theorem dX9_findShares_51 : decode cX9_findShares 51 = .ok (.getfield 34, 3) := by decide +kernel
theorem dX9_findShares_54 : decode cX9_findShares 54 = .ok (.iload 5, 2) := by decide +kernel
theorem dX9_findShares_56 : decode cX9_findShares 56 = .ok (.aload_n 0, 1) := by decide +kernel
theorem dX9_findShares_57 : decode cX9_findShares 57 = .ok (.iload 5, 2) := by decide +kernel
theorem dX9_findShares_59 : decode cX9_findShares 59 = .ok (.iload 7, 2) := by decide +kernel
theorem dX9_findShares_61 : decode cX9_findShares 61 = .ok (.invokevirtual 123, 3) := by decide +kernel
theorem dX9_findShares_64 : decode cX9_findShares 64 = .ok (.aload_n 0, 1) := by decide +kernel
theorem dX9_findShares_65 : decode cX9_findShares 65 = .ok (.iload 5, 2) := by decide +kernel
theorem dX9_findShares_67 : decode cX9_findShares 67 = .ok (.iload 6, 2) := by decide +kernel
theorem dX9_findShares_69 : decode cX9_findShares 69 = .ok (.iload 7, 2) := by decide +kernel
theorem dX9_findShares_71 : decode cX9_findShares 71 = .ok (.isub, 1) := by decide +kernel
theorem dX9_findShares_72 : decode cX9_findShares 72 = .ok (.invokevirtual 126, 3) := by decide +kernel
theorem dX9_findShares_75 : decode cX9_findShares 75 = .ok (.isub, 1) := by decide +kernel
theorem dX9_findShares_76 : decode cX9_findShares 76 = .ok (.iastore, 1) := by decide +kernel
theorem dX9_findShares_77 : decode cX9_findShares 77 = .ok (.iload 6, 2) := by decide +kernel
theorem dX9_findShares_79 : decode cX9_findShares 79 = .ok (.iload 7, 2) := by decide +kernel
theorem dX9_findShares_81 : decode cX9_findShares 81 = .ok (.isub, 1) := by decide +kernel
theorem dX9_findShares_82 : decode cX9_findShares 82 = .ok (.istore 4, 2) := by decide +kernel
theorem dX9_findShares_84 : decode cX9_findShares 84 = .ok (.goto 141, 3) := by decide +kernel
theorem dX9_findShares_87 : decode cX9_findShares 87 = .ok (.iload_n 1, 1) := by decide +kernel
theorem dX9_findShares_88 : decode cX9_findShares 88 = .ok (.iconst 1, 1) := by decide +kernel
theorem dX9_findShares_89 : decode cX9_findShares 89 = .ok (.if_icmp .ne 39, 3) := by decide +kernel
theorem dX9_findShares_92 : decode cX9_findShares 92 = .ok (.aload_n 0, 1) := by decide +kernel
theorem dX9_findShares_93 : decode cX9_findShares 93 = .ok (.getfield 34, 3) := by decide +kernel
theorem dX9_findShares_96 : decode cX9_findShares 96 = .ok (.iload 5, 2) := by decide +kernel
theorem dX9_findShares_98 : decode cX9_findShares 98 = .ok (.aload_n 0, 1) := by decide +kernel
theorem dX9_findShares_99 : decode cX9_findShares 99 = .ok (.iconst 0, 1) := by decide +kernel
theorem dX9_findShares_100 : decode cX9_findShares 100 = .ok (.iload 5, 2) := by decide +kernel
theorem dX9_findShares_102 : decode cX9_findShares 102 = .ok (.invokevirtual 145, 3) := by decide +kernel
theorem dX9_findShares_105 : decode cX9_findShares 105 = .ok (.iload 5, 2) := by decide +kernel
theorem dX9_findShares_107 : decode cX9_findShares 107 = .ok (.ifCond .le 15, 3) := by decide +kernel
theorem dX9_findShares_110 : decode cX9_findShares 110 = .ok (.aload_n 0, 1) := by decide +kernel
theorem dX9_findShares_111 : decode cX9_findShares 111 = .ok (.iconst 0, 1) := by decide +kernel
theorem dX9_findShares_112 : decode cX9_findShares 112 = .ok (.iload 5, 2) := by decide +kernel
theorem dX9_findShares_114 : decode cX9_findShares 114 = .ok (.iconst 1, 1) := by decide +kernel
theorem dX9_findShares_115 : decode cX9_findShares 115 = .ok (.isub, 1) := by decide +kernel
theorem dX9_findShares_116 : decode cX9_findShares 116 = .ok (.invokevirtual 145, 3) := by decide +kernel
theorem dX9_findShares_119 : decode cX9_findShares 119 = .ok (.goto 4, 3) := by decide +kernel
theorem dX9_findShares_122 : decode cX9_findShares 122 = .ok (.iconst 0, 1) := by decide +kernel
theorem dX9_findShares_123 : decode cX9_findShares 123 = .ok (.isub, 1) := by decide +kernel
theorem dX9_findShares_124 : decode cX9_findShares 124 = .ok (.iastore, 1) := by decide +kernel
theorem dX9_findShares_125 : decode cX9_findShares 125 = .ok (.goto 100, 3) := by decide +kernel
theorem dX9_findShares_128 : decode cX9_findShares 128 = .ok (.iload_n 1, 1) := by decide +kernel
theorem dX9_findShares_129 : decode cX9_findShares 129 = .ok (.iconst 2, 1) := by decide +kernel
theorem dX9_findShares_130 : decode cX9_findShares 130 = .ok (.if_icmp .ne 46, 3) := by decide +kernel
theorem dX9_findShares_133 : decode cX9_findShares 133 = .ok (.aload_n 0, 1) := by decide +kernel
theorem dX9_findShares_134 : decode cX9_findShares 134 = .ok (.getfield 34, 3) := by decide +kernel
theorem dX9_findShares_137 : decode cX9_findShares 137 = .ok (.iload 5, 2) := by decide +kernel
theorem dX9_findShares_139 : decode cX9_findShares 139 = .ok (.aload_n 0, 1) := by decide +kernel
theorem dX9_findShares_140 : decode cX9_findShares 140 = .ok (.iload 5, 2) := by decide +kernel
theorem dX9_findShares_142 : decode cX9_findShares 142 = .ok (.iload_n 2, 1) := by decide +kernel
theorem dX9_findShares_143 : decode cX9_findShares 143 = .ok (.iconst 1, 1) := by decide +kernel
theorem dX9_findShares_144 : decode cX9_findShares 144 = .ok (.isub, 1) := by decide +kernel
theorem dX9_findShares_145 : decode cX9_findShares 145 = .ok (.invokevirtual 145, 3) := by decide +kernel
theorem dX9_findShares_148 : decode cX9_findShares 148 = .ok (.iload 5, 2) := by decide +kernel
theorem dX9_findShares_150 : decode cX9_findShares 150 = .ok (.iload_n 2, 1) := by decide +kernel
theorem dX9_findShares_151 : decode cX9_findShares 151 = .ok (.iconst 1, 1) := by decide +kernel
theorem dX9_findShares_152 : decode cX9_findShares 152 = .ok (.isub, 1) := by decide +kernel
theorem dX9_findShares_153 : decode cX9_findShares 153 = .ok (.if_icmp .ge 17, 3) := by decide +kernel
theorem dX9_findShares_156 : decode cX9_findShares 156 = .ok (.aload_n 0, 1) := by decide +kernel
theorem dX9_findShares_157 : decode cX9_findShares 157 = .ok (.iload 5, 2) := by decide +kernel
theorem dX9_findShares_159 : decode cX9_findShares 159 = .ok (.iconst 1, 1) := by decide +kernel
theorem dX9_findShares_160 : decode cX9_findShares 160 = .ok (.iadd, 1) := by decide +kernel
theorem dX9_findShares_161 : decode cX9_findShares 161 = .ok (.iload_n 2, 1) := by decide +kernel
theorem dX9_findShares_162 : decode cX9_findShares 162 = .ok (.iconst 1, 1) := by decide +kernel
theorem dX9_findShares_163 : decode cX9_findShares 163 = .ok (.isub, 1) := by decide +kernel
theorem dX9_findShares_164 : decode cX9_findShares 164 = .ok (.invokevirtual 145, 3) := by decide +kernel
theorem dX9_findShares_167 : decode cX9_findShares 167 = .ok (.goto 4, 3) := by decide +kernel
theorem dX9_findShares_170 : decode cX9_findShares 170 = .ok (.iconst 0, 1) := by decide +kernel
theorem dX9_findShares_171 : decode cX9_findShares 171 = .ok (.isub, 1) := by decide +kernel
theorem dX9_findShares_172 : decode cX9_findShares 172 = .ok (.iastore, 1) := by decide +kernel
theorem dX9_findShares_173 : decode cX9_findShares 173 = .ok (.goto 52, 3) := by decide +kernel
theorem dX9_findShares_176 : decode cX9_findShares 176 = .ok (.iload_n 3, 1) := by decide +kernel
theorem dX9_findShares_177 : decode cX9_findShares 177 = .ok (.iload_n 2, 1) := by decide +kernel
theorem dX9_findShares_178 : decode cX9_findShares 178 = .ok (.idiv, 1) := by decide +kernel
theorem dX9_findShares_179 : decode cX9_findShares 179 = .ok (.istore 6, 2) := by decide +kernel
theorem dX9_findShares_181 : decode cX9_findShares 181 = .ok (.iload 6, 2) := by decide +kernel
theorem dX9_findShares_183 : decode cX9_findShares 183 = .ok (.iload 6, 2) := by decide +kernel
theorem dX9_findShares_185 : decode cX9_findShares 185 = .ok (.iload_n 2, 1) := by decide +kernel
theorem dX9_findShares_186 : decode cX9_findShares 186 = .ok (.imul, 1) := by decide +kernel
theorem dX9_findShares_187 : decode cX9_findShares 187 = .ok (.iload_n 3, 1) := by decide +kernel
theorem dX9_findShares_188 : decode cX9_findShares 188 = .ok (.if_icmp .le 7, 3) := by decide +kernel
theorem dX9_findShares_191 : decode cX9_findShares 191 = .ok (.iconst 1, 1) := by decide +kernel
theorem dX9_findShares_192 : decode cX9_findShares 192 = .ok (.goto 4, 3) := by decide +kernel
theorem dX9_findShares_195 : decode cX9_findShares 195 = .ok (.iconst 0, 1) := by decide +kernel
theorem dX9_findShares_196 : decode cX9_findShares 196 = .ok (.isub, 1) := by decide +kernel
theorem dX9_findShares_197 : decode cX9_findShares 197 = .ok (.istore 6, 2) := by decide +kernel
theorem dX9_findShares_199 : decode cX9_findShares 199 = .ok (.aload_n 0, 1) := by decide +kernel
theorem dX9_findShares_200 : decode cX9_findShares 200 = .ok (.getfield 34, 3) := by decide +kernel
theorem dX9_findShares_203 : decode cX9_findShares 203 = .ok (.iload 5, 2) := by decide +kernel
theorem dX9_findShares_205 : decode cX9_findShares 205 = .ok (.iload 6, 2) := by decide +kernel
theorem dX9_findShares_207 : decode cX9_findShares 207 = .ok (.iload 5, 2) := by decide +kernel
theorem dX9_findShares_209 : decode cX9_findShares 209 = .ok (.iload_n 3, 1) := by decide +kernel
theorem dX9_findShares_210 : decode cX9_findShares 210 = .ok (.iload 6, 2) := by decide +kernel
theorem dX9_findShares_212 : decode cX9_findShares 212 = .ok (.iload_n 2, 1) := by decide +kernel
theorem dX9_findShares_213 : decode cX9_findShares 213 = .ok (.imul, 1) := by decide +kernel
theorem dX9_findShares_214 : decode cX9_findShares 214 = .ok (.isub, 1) := by decide +kernel
theorem dX9_findShares_215 : decode cX9_findShares 215 = .ok (.if_icmp .ge 7, 3) := by decide +kernel
theorem dX9_findShares_218 : decode cX9_findShares 218 = .ok (.iconst 1, 1) := by decide +kernel
theorem dX9_findShares_219 : decode cX9_findShares 219 = .ok (.goto 4, 3) := by decide +kernel
theorem dX9_findShares_222 : decode cX9_findShares 222 = .ok (.iconst 0, 1) := by decide +kernel
theorem dX9_findShares_223 : decode cX9_findShares 223 = .ok (.iadd, 1) := by decide +kernel
theorem dX9_findShares_224 : decode cX9_findShares 224 = .ok (.iastore, 1) := by decide +kernel
theorem dX9_findShares_225 : decode cX9_findShares 225 = .ok (.iinc 5 1, 3) := by decide +kernel
theorem dX9_findShares_228 : decode cX9_findShares 228 = .ok (.goto (-210), 3) := by decide +kernel
theorem dX9_findShares_231 : decode cX9_findShares 231 = .ok (.return_, 1) := by decide +kernel
theorem dX9_share_0 : decode cX9_share 0 = .ok (.iload_n 1, 1) := by decide +kernel
theorem dX9_share_1 : decode cX9_share 1 = .ok (.iconst 0, 1) := by decide +kernel
theorem dX9_share_2 : decode cX9_share 2 = .ok (.iconst 3, 1) := by decide +kernel
theorem dX9_share_3 : decode cX9_share 3 = .ok (.invokestatic 104, 3) := by decide +kernel
theorem dX9_share_6 : decode cX9_share 6 = .ok (.ifCond .eq 20, 3) := by decide +kernel
theorem dX9_share_9 : decode cX9_share 9 = .ok (.aload_n 0, 1) := by decide +kernel
theorem dX9_share_10 : decode cX9_share 10 = .ok (.iload_n 2, 1) := by decide +kernel
theorem dX9_share_11 : decode cX9_share 11 = .ok (.invokevirtual 112, 3) := by decide +kernel
theorem dX9_share_14 : decode cX9_share 14 = .ok (.ifCond .eq 12, 3) := by decide +kernel
theorem dX9_share_17 : decode cX9_share 17 = .ok (.iload_n 3, 1) := by decide +kernel
theorem dX9_share_18 : decode cX9_share 18 = .ok (.iconst 0, 1) := by decide +kernel
theorem dX9_share_19 : decode cX9_share 19 = .ok (.iconst 1, 1) := by decide +kernel
theorem dX9_share_20 : decode cX9_share 20 = .ok (.invokestatic 104, 3) := by decide +kernel
theorem dX9_share_23 : decode cX9_share 23 = .ok (.ifCond .ne 6, 3) := by decide +kernel
theorem dX9_share_26 : decode cX9_share 26 = .ok (.ldc 140, 2) := by decide +kernel
theorem dX9_share_28 : decode cX9_share 28 = .ok (.ireturn, 1) := by decide +kernel
theorem dX9_share_29 : decode cX9_share 29 = .ok (.aload_n 0, 1) := by decide +kernel
theorem dX9_share_30 : decode cX9_share 30 = .ok (.iload_n 1, 1) := by decide +kernel
theorem dX9_share_31 : decode cX9_share 31 = .ok (.invokevirtual 154, 3) := by decide +kernel
theorem dX9_share_34 : decode cX9_share 34 = .ok (.iload_n 3, 1) := by decide +kernel
theorem dX9_share_35 : decode cX9_share 35 = .ok (.ifCond .ne 12, 3) := by decide +kernel
theorem dX9_share_38 : decode cX9_share 38 = .ok (.aload_n 0, 1) := by decide +kernel
theorem dX9_share_39 : decode cX9_share 39 = .ok (.getfield 34, 3) := by decide +kernel
theorem dX9_share_42 : decode cX9_share 42 = .ok (.iload_n 2, 1) := by decide +kernel
theorem dX9_share_43 : decode cX9_share 43 = .ok (.iaload, 1) := by decide +kernel
theorem dX9_share_44 : decode cX9_share 44 = .ok (.goto 24, 3) := by decide +kernel
theorem dX9_share_47 : decode cX9_share 47 = .ok (.iload_n 1, 1) := by decide +kernel
theorem dX9_share_48 : decode cX9_share 48 = .ok (.ifCond .ne 7, 3) := by decide +kernel
theorem dX9_share_51 : decode cX9_share 51 = .ok (.iconst 0, 1) := by decide +kernel
theorem dX9_share_52 : decode cX9_share 52 = .ok (.goto 16, 3) := by decide +kernel
theorem dX9_share_55 : decode cX9_share 55 = .ok (.aload_n 0, 1) := by decide +kernel
theorem dX9_share_56 : decode cX9_share 56 = .ok (.getfield 34, 3) := by decide +kernel
theorem dX9_share_59 : decode cX9_share 59 = .ok (.iload_n 2, 1) := by decide +kernel
theorem dX9_share_60 : decode cX9_share 60 = .ok (.iaload, 1) := by decide +kernel
theorem dX9_share_61 : decode cX9_share 61 = .ok (.aload_n 0, 1) := by decide +kernel
theorem dX9_share_62 : decode cX9_share 62 = .ok (.getfield 31, 3) := by decide +kernel
theorem dX9_share_65 : decode cX9_share 65 = .ok (.iload_n 2, 1) := by decide +kernel
theorem dX9_share_66 : decode cX9_share 66 = .ok (.iaload, 1) := by decide +kernel
theorem dX9_share_67 : decode cX9_share 67 = .ok (.isub, 1) := by decide +kernel
theorem dX9_share_68 : decode cX9_share 68 = .ok (.ireturn, 1) := by decide +kernel
theorem dX9_breakOf_0 : decode cX9_breakOf 0 = .ok (.aload_n 0, 1) := by decide +kernel
theorem dX9_breakOf_1 : decode cX9_breakOf 1 = .ok (.getfield 9, 3) := by decide +kernel
theorem dX9_breakOf_4 : decode cX9_breakOf 4 = .ok (.iconst 0, 1) := by decide +kernel
theorem dX9_breakOf_5 : decode cX9_breakOf 5 = .ok (.iaload, 1) := by decide +kernel
theorem dX9_breakOf_6 : decode cX9_breakOf 6 = .ok (.istore_n 1, 1) := by decide +kernel
theorem dX9_breakOf_7 : decode cX9_breakOf 7 = .ok (.iconst 0, 1) := by decide +kernel
theorem dX9_breakOf_8 : decode cX9_breakOf 8 = .ok (.istore_n 2, 1) := by decide +kernel
theorem dX9_breakOf_9 : decode cX9_breakOf 9 = .ok (.iload_n 2, 1) := by decide +kernel
theorem dX9_breakOf_10 : decode cX9_breakOf 10 = .ok (.iload_n 1, 1) := by decide +kernel
theorem dX9_breakOf_11 : decode cX9_breakOf 11 = .ok (.if_icmp .ge 58, 3) := by decide +kernel
theorem dX9_breakOf_14 : decode cX9_breakOf 14 = .ok (.iconst 0, 1) := by decide +kernel
theorem dX9_breakOf_15 : decode cX9_breakOf 15 = .ok (.istore_n 3, 1) := by decide +kernel
theorem dX9_breakOf_16 : decode cX9_breakOf 16 = .ok (.iload_n 2, 1) := by decide +kernel
theorem dX9_breakOf_17 : decode cX9_breakOf 17 = .ok (.istore 4, 2) := by decide +kernel
theorem dX9_breakOf_19 : decode cX9_breakOf 19 = .ok (.iload 4, 2) := by decide +kernel
theorem dX9_breakOf_21 : decode cX9_breakOf 21 = .ok (.iload_n 1, 1) := by decide +kernel
theorem dX9_breakOf_22 : decode cX9_breakOf 22 = .ok (.if_icmp .ge 41, 3) := by decide +kernel
theorem dX9_breakOf_25 : decode cX9_breakOf 25 = .ok (.iload_n 3, 1) := by decide +kernel
theorem dX9_breakOf_26 : decode cX9_breakOf 26 = .ok (.aload_n 0, 1) := by decide +kernel
theorem dX9_breakOf_27 : decode cX9_breakOf 27 = .ok (.getfield 34, 3) := by decide +kernel
theorem dX9_breakOf_30 : decode cX9_breakOf 30 = .ok (.iload 4, 2) := by decide +kernel
theorem dX9_breakOf_32 : decode cX9_breakOf 32 = .ok (.iaload, 1) := by decide +kernel
theorem dX9_breakOf_33 : decode cX9_breakOf 33 = .ok (.iadd, 1) := by decide +kernel
theorem dX9_breakOf_34 : decode cX9_breakOf 34 = .ok (.istore_n 3, 1) := by decide +kernel
theorem dX9_breakOf_35 : decode cX9_breakOf 35 = .ok (.iload_n 3, 1) := by decide +kernel
theorem dX9_breakOf_36 : decode cX9_breakOf 36 = .ok (.aload_n 0, 1) := by decide +kernel
theorem dX9_breakOf_37 : decode cX9_breakOf 37 = .ok (.iload_n 2, 1) := by decide +kernel
theorem dX9_breakOf_38 : decode cX9_breakOf 38 = .ok (.iload 4, 2) := by decide +kernel
theorem dX9_breakOf_40 : decode cX9_breakOf 40 = .ok (.invokevirtual 145, 3) := by decide +kernel
theorem dX9_breakOf_43 : decode cX9_breakOf 43 = .ok (.if_icmp .ge 14, 3) := by decide +kernel
theorem dX9_breakOf_46 : decode cX9_breakOf 46 = .ok (.bipush 100, 2) := by decide +kernel
theorem dX9_breakOf_48 : decode cX9_breakOf 48 = .ok (.bipush 10, 2) := by decide +kernel
theorem dX9_breakOf_50 : decode cX9_breakOf 50 = .ok (.iload_n 2, 1) := by decide +kernel
theorem dX9_breakOf_51 : decode cX9_breakOf 51 = .ok (.imul, 1) := by decide +kernel
theorem dX9_breakOf_52 : decode cX9_breakOf 52 = .ok (.iadd, 1) := by decide +kernel
theorem dX9_breakOf_53 : decode cX9_breakOf 53 = .ok (.iload 4, 2) := by decide +kernel
theorem dX9_breakOf_55 : decode cX9_breakOf 55 = .ok (.iadd, 1) := by decide +kernel
theorem dX9_breakOf_56 : decode cX9_breakOf 56 = .ok (.ireturn, 1) := by decide +kernel
theorem dX9_breakOf_57 : decode cX9_breakOf 57 = .ok (.iinc 4 1, 3) := by decide +kernel
theorem dX9_breakOf_60 : decode cX9_breakOf 60 = .ok (.goto (-41), 3) := by decide +kernel
theorem dX9_breakOf_63 : decode cX9_breakOf 63 = .ok (.iinc 2 1, 3) := by decide +kernel
theorem dX9_breakOf_66 : decode cX9_breakOf 66 = .ok (.goto (-57), 3) := by decide +kernel
theorem dX9_breakOf_69 : decode cX9_breakOf 69 = .ok (.iconst 0, 1) := by decide +kernel
theorem dX9_breakOf_70 : decode cX9_breakOf 70 = .ok (.istore_n 2, 1) := by decide +kernel
theorem dX9_breakOf_71 : decode cX9_breakOf 71 = .ok (.iload_n 2, 1) := by decide +kernel
theorem dX9_breakOf_72 : decode cX9_breakOf 72 = .ok (.iload_n 1, 1) := by decide +kernel
theorem dX9_breakOf_73 : decode cX9_breakOf 73 = .ok (.if_icmp .ge 29, 3) := by decide +kernel
theorem dX9_breakOf_76 : decode cX9_breakOf 76 = .ok (.aload_n 0, 1) := by decide +kernel
theorem dX9_breakOf_77 : decode cX9_breakOf 77 = .ok (.getfield 34, 3) := by decide +kernel
theorem dX9_breakOf_80 : decode cX9_breakOf 80 = .ok (.iload_n 2, 1) := by decide +kernel
theorem dX9_breakOf_81 : decode cX9_breakOf 81 = .ok (.iaload, 1) := by decide +kernel
theorem dX9_breakOf_82 : decode cX9_breakOf 82 = .ok (.aload_n 0, 1) := by decide +kernel
theorem dX9_breakOf_83 : decode cX9_breakOf 83 = .ok (.iload_n 2, 1) := by decide +kernel
theorem dX9_breakOf_84 : decode cX9_breakOf 84 = .ok (.invokevirtual 148, 3) := by decide +kernel
theorem dX9_breakOf_87 : decode cX9_breakOf 87 = .ok (.if_icmp .le 9, 3) := by decide +kernel
theorem dX9_breakOf_90 : decode cX9_breakOf 90 = .ok (.sipush 200, 3) := by decide +kernel
theorem dX9_breakOf_93 : decode cX9_breakOf 93 = .ok (.iload_n 2, 1) := by decide +kernel
theorem dX9_breakOf_94 : decode cX9_breakOf 94 = .ok (.iadd, 1) := by decide +kernel
theorem dX9_breakOf_95 : decode cX9_breakOf 95 = .ok (.ireturn, 1) := by decide +kernel
theorem dX9_breakOf_96 : decode cX9_breakOf 96 = .ok (.iinc 2 1, 3) := by decide +kernel
theorem dX9_breakOf_99 : decode cX9_breakOf 99 = .ok (.goto (-28), 3) := by decide +kernel
theorem dX9_breakOf_102 : decode cX9_breakOf 102 = .ok (.iconst 0, 1) := by decide +kernel
theorem dX9_breakOf_103 : decode cX9_breakOf 103 = .ok (.ireturn, 1) := by decide +kernel
theorem dX9_broken_0 : decode cX9_broken 0 = .ok (.iload_n 1, 1) := by decide +kernel
theorem dX9_broken_1 : decode cX9_broken 1 = .ok (.iconst 0, 1) := by decide +kernel
theorem dX9_broken_2 : decode cX9_broken 2 = .ok (.iconst 3, 1) := by decide +kernel
theorem dX9_broken_3 : decode cX9_broken 3 = .ok (.invokestatic 104, 3) := by decide +kernel
theorem dX9_broken_6 : decode cX9_broken 6 = .ok (.ifCond .ne 5, 3) := by decide +kernel
theorem dX9_broken_9 : decode cX9_broken 9 = .ok (.iconst (-1), 1) := by decide +kernel
theorem dX9_broken_10 : decode cX9_broken 10 = .ok (.ireturn, 1) := by decide +kernel
theorem dX9_broken_11 : decode cX9_broken 11 = .ok (.aload_n 0, 1) := by decide +kernel
theorem dX9_broken_12 : decode cX9_broken 12 = .ok (.iload_n 1, 1) := by decide +kernel
theorem dX9_broken_13 : decode cX9_broken 13 = .ok (.invokevirtual 154, 3) := by decide +kernel
theorem dX9_broken_16 : decode cX9_broken 16 = .ok (.aload_n 0, 1) := by decide +kernel
theorem dX9_broken_17 : decode cX9_broken 17 = .ok (.invokevirtual 157, 3) := by decide +kernel
theorem dX9_broken_20 : decode cX9_broken 20 = .ok (.ireturn, 1) := by decide +kernel
theorem dX9_findCleaning_0 : decode cX9_findCleaning 0 = .ok (.aload_n 0, 1) := by decide +kernel
theorem dX9_findCleaning_1 : decode cX9_findCleaning 1 = .ok (.getfield 9, 3) := by decide +kernel
theorem dX9_findCleaning_4 : decode cX9_findCleaning 4 = .ok (.iconst 0, 1) := by decide +kernel
theorem dX9_findCleaning_5 : decode cX9_findCleaning 5 = .ok (.iaload, 1) := by decide +kernel
theorem dX9_findCleaning_6 : decode cX9_findCleaning 6 = .ok (.istore_n 1, 1) := by decide +kernel
theorem dX9_findCleaning_7 : decode cX9_findCleaning 7 = .ok (.iconst 0, 1) := by decide +kernel
theorem dX9_findCleaning_8 : decode cX9_findCleaning 8 = .ok (.istore_n 2, 1) := by decide +kernel
theorem dX9_findCleaning_9 : decode cX9_findCleaning 9 = .ok (.iconst 0, 1) := by decide +kernel
theorem dX9_findCleaning_10 : decode cX9_findCleaning 10 = .ok (.istore_n 3, 1) := by decide +kernel
theorem dX9_findCleaning_11 : decode cX9_findCleaning 11 = .ok (.iload_n 3, 1) := by decide +kernel
theorem dX9_findCleaning_12 : decode cX9_findCleaning 12 = .ok (.iload_n 1, 1) := by decide +kernel
theorem dX9_findCleaning_13 : decode cX9_findCleaning 13 = .ok (.if_icmp .ge 18, 3) := by decide +kernel
theorem dX9_findCleaning_16 : decode cX9_findCleaning 16 = .ok (.iload_n 2, 1) := by decide +kernel
theorem dX9_findCleaning_17 : decode cX9_findCleaning 17 = .ok (.aload_n 0, 1) := by decide +kernel
theorem dX9_findCleaning_18 : decode cX9_findCleaning 18 = .ok (.iload_n 3, 1) := by decide +kernel
theorem dX9_findCleaning_19 : decode cX9_findCleaning 19 = .ok (.iconst 3, 1) := by decide +kernel
theorem dX9_findCleaning_20 : decode cX9_findCleaning 20 = .ok (.invokevirtual 116, 3) := by decide +kernel
theorem dX9_findCleaning_23 : decode cX9_findCleaning 23 = .ok (.iadd, 1) := by decide +kernel
theorem dX9_findCleaning_24 : decode cX9_findCleaning 24 = .ok (.istore_n 2, 1) := by decide +kernel
theorem dX9_findCleaning_25 : decode cX9_findCleaning 25 = .ok (.iinc 3 1, 3) := by decide +kernel
theorem dX9_findCleaning_28 : decode cX9_findCleaning 28 = .ok (.goto (-17), 3) := by decide +kernel
theorem dX9_findCleaning_31 : decode cX9_findCleaning 31 = .ok (.iconst 0, 1) := by decide +kernel
theorem dX9_findCleaning_32 : decode cX9_findCleaning 32 = .ok (.istore_n 3, 1) := by decide +kernel
theorem dX9_findCleaning_33 : decode cX9_findCleaning 33 = .ok (.iload_n 3, 1) := by decide +kernel
theorem dX9_findCleaning_34 : decode cX9_findCleaning 34 = .ok (.iload_n 2, 1) := by decide +kernel
theorem dX9_findCleaning_35 : decode cX9_findCleaning 35 = .ok (.if_icmp .gt 22, 3) := by decide +kernel
theorem dX9_findCleaning_38 : decode cX9_findCleaning 38 = .ok (.aload_n 0, 1) := by decide +kernel
theorem dX9_findCleaning_39 : decode cX9_findCleaning 39 = .ok (.getfield 37, 3) := by decide +kernel
theorem dX9_findCleaning_42 : decode cX9_findCleaning 42 = .ok (.sipush 130, 3) := by decide +kernel
theorem dX9_findCleaning_45 : decode cX9_findCleaning 45 = .ok (.iload_n 1, 1) := by decide +kernel
theorem dX9_findCleaning_46 : decode cX9_findCleaning 46 = .ok (.imul, 1) := by decide +kernel
theorem dX9_findCleaning_47 : decode cX9_findCleaning 47 = .ok (.iload_n 3, 1) := by decide +kernel
theorem dX9_findCleaning_48 : decode cX9_findCleaning 48 = .ok (.iadd, 1) := by decide +kernel
theorem dX9_findCleaning_49 : decode cX9_findCleaning 49 = .ok (.iconst 0, 1) := by decide +kernel
theorem dX9_findCleaning_50 : decode cX9_findCleaning 50 = .ok (.iastore, 1) := by decide +kernel
theorem dX9_findCleaning_51 : decode cX9_findCleaning 51 = .ok (.iinc 3 1, 3) := by decide +kernel
theorem dX9_findCleaning_54 : decode cX9_findCleaning 54 = .ok (.goto (-21), 3) := by decide +kernel
theorem dX9_findCleaning_57 : decode cX9_findCleaning 57 = .ok (.iload_n 1, 1) := by decide +kernel
theorem dX9_findCleaning_58 : decode cX9_findCleaning 58 = .ok (.iconst 1, 1) := by decide +kernel
theorem dX9_findCleaning_59 : decode cX9_findCleaning 59 = .ok (.isub, 1) := by decide +kernel
theorem dX9_findCleaning_60 : decode cX9_findCleaning 60 = .ok (.istore_n 3, 1) := by decide +kernel
theorem dX9_findCleaning_61 : decode cX9_findCleaning 61 = .ok (.iload_n 3, 1) := by decide +kernel
theorem dX9_findCleaning_62 : decode cX9_findCleaning 62 = .ok (.ifCond .lt 199, 3) := by decide +kernel
theorem dX9_findCleaning_65 : decode cX9_findCleaning 65 = .ok (.iconst 0, 1) := by decide +kernel
theorem dX9_findCleaning_66 : decode cX9_findCleaning 66 = .ok (.istore 4, 2) := by decide +kernel
theorem dX9_findCleaning_68 : decode cX9_findCleaning 68 = .ok (.iload 4, 2) := by decide +kernel
theorem dX9_findCleaning_70 : decode cX9_findCleaning 70 = .ok (.iload_n 2, 1) := by decide +kernel
theorem dX9_findCleaning_71 : decode cX9_findCleaning 71 = .ok (.aload_n 0, 1) := by decide +kernel
theorem dX9_findCleaning_72 : decode cX9_findCleaning 72 = .ok (.iload_n 3, 1) := by decide +kernel
theorem dX9_findCleaning_73 : decode cX9_findCleaning 73 = .ok (.iconst 3, 1) := by decide +kernel
theorem dX9_findCleaning_74 : decode cX9_findCleaning 74 = .ok (.invokevirtual 116, 3) := by decide +kernel
theorem dX9_findCleaning_77 : decode cX9_findCleaning 77 = .ok (.isub, 1) := by decide +kernel
theorem dX9_findCleaning_78 : decode cX9_findCleaning 78 = .ok (.if_icmp .gt 177, 3) := by decide +kernel
theorem dX9_findCleaning_81 : decode cX9_findCleaning 81 = .ok (.iload 4, 2) := by decide +kernel
theorem dX9_findCleaning_83 : decode cX9_findCleaning 83 = .ok (.aload_n 0, 1) := by decide +kernel
theorem dX9_findCleaning_84 : decode cX9_findCleaning 84 = .ok (.iload_n 3, 1) := by decide +kernel
theorem dX9_findCleaning_85 : decode cX9_findCleaning 85 = .ok (.iconst 3, 1) := by decide +kernel
theorem dX9_findCleaning_86 : decode cX9_findCleaning 86 = .ok (.invokevirtual 116, 3) := by decide +kernel
theorem dX9_findCleaning_89 : decode cX9_findCleaning 89 = .ok (.iadd, 1) := by decide +kernel
theorem dX9_findCleaning_90 : decode cX9_findCleaning 90 = .ok (.istore 5, 2) := by decide +kernel
theorem dX9_findCleaning_92 : decode cX9_findCleaning 92 = .ok (.iconst (-1), 1) := by decide +kernel
theorem dX9_findCleaning_93 : decode cX9_findCleaning 93 = .ok (.istore 6, 2) := by decide +kernel
theorem dX9_findCleaning_95 : decode cX9_findCleaning 95 = .ok (.iconst 0, 1) := by decide +kernel
theorem dX9_findCleaning_96 : decode cX9_findCleaning 96 = .ok (.istore 7, 2) := by decide +kernel
theorem dX9_findCleaning_98 : decode cX9_findCleaning 98 = .ok (.iload 7, 2) := by decide +kernel
theorem dX9_findCleaning_100 : decode cX9_findCleaning 100 = .ok (.iload 5, 2) := by decide +kernel
theorem dX9_findCleaning_102 : decode cX9_findCleaning 102 = .ok (.if_icmp .gt 132, 3) := by decide +kernel
theorem dX9_findCleaning_105 : decode cX9_findCleaning 105 = .ok (.iload_n 3, 1) := by decide +kernel
theorem dX9_findCleaning_106 : decode cX9_findCleaning 106 = .ok (.iload_n 1, 1) := by decide +kernel
theorem dX9_findCleaning_107 : decode cX9_findCleaning 107 = .ok (.iconst 1, 1) := by decide +kernel
theorem dX9_findCleaning_108 : decode cX9_findCleaning 108 = .ok (.isub, 1) := by decide +kernel
theorem dX9_findCleaning_109 : decode cX9_findCleaning 109 = .ok (.if_icmp .eq 37, 3) := by decide +kernel
theorem dX9_findCleaning_112 : decode cX9_findCleaning 112 = .ok (.iload 5, 2) := by decide +kernel
theorem dX9_findCleaning_114 : decode cX9_findCleaning 114 = .ok (.iload 7, 2) := by decide +kernel
theorem dX9_findCleaning_116 : decode cX9_findCleaning 116 = .ok (.isub, 1) := by decide +kernel
theorem dX9_findCleaning_117 : decode cX9_findCleaning 117 = .ok (.aload_n 0, 1) := by decide +kernel
theorem dX9_findCleaning_118 : decode cX9_findCleaning 118 = .ok (.iload_n 3, 1) := by decide +kernel
theorem dX9_findCleaning_119 : decode cX9_findCleaning 119 = .ok (.iconst 1, 1) := by decide +kernel
theorem dX9_findCleaning_120 : decode cX9_findCleaning 120 = .ok (.iadd, 1) := by decide +kernel
theorem dX9_findCleaning_121 : decode cX9_findCleaning 121 = .ok (.iconst 4, 1) := by decide +kernel
theorem dX9_findCleaning_122 : decode cX9_findCleaning 122 = .ok (.invokevirtual 116, 3) := by decide +kernel
theorem dX9_findCleaning_125 : decode cX9_findCleaning 125 = .ok (.if_icmp .gt 25, 3) := by decide +kernel
theorem dX9_findCleaning_128 : decode cX9_findCleaning 128 = .ok (.iload 5, 2) := by decide +kernel
theorem dX9_findCleaning_130 : decode cX9_findCleaning 130 = .ok (.iload 7, 2) := by decide +kernel
theorem dX9_findCleaning_132 : decode cX9_findCleaning 132 = .ok (.isub, 1) := by decide +kernel
theorem dX9_findCleaning_133 : decode cX9_findCleaning 133 = .ok (.iload_n 2, 1) := by decide +kernel
theorem dX9_findCleaning_134 : decode cX9_findCleaning 134 = .ok (.aload_n 0, 1) := by decide +kernel
theorem dX9_findCleaning_135 : decode cX9_findCleaning 135 = .ok (.iload_n 3, 1) := by decide +kernel
theorem dX9_findCleaning_136 : decode cX9_findCleaning 136 = .ok (.iconst 1, 1) := by decide +kernel
theorem dX9_findCleaning_137 : decode cX9_findCleaning 137 = .ok (.iadd, 1) := by decide +kernel
theorem dX9_findCleaning_138 : decode cX9_findCleaning 138 = .ok (.iconst 3, 1) := by decide +kernel
theorem dX9_findCleaning_139 : decode cX9_findCleaning 139 = .ok (.invokevirtual 116, 3) := by decide +kernel
theorem dX9_findCleaning_142 : decode cX9_findCleaning 142 = .ok (.isub, 1) := by decide +kernel
theorem dX9_findCleaning_143 : decode cX9_findCleaning 143 = .ok (.if_icmp .gt 7, 3) := by decide +kernel
theorem dX9_findCleaning_146 : decode cX9_findCleaning 146 = .ok (.iconst 1, 1) := by decide +kernel
theorem dX9_findCleaning_147 : decode cX9_findCleaning 147 = .ok (.goto 4, 3) := by decide +kernel
theorem dX9_findCleaning_150 : decode cX9_findCleaning 150 = .ok (.iconst 0, 1) := by decide +kernel
theorem dX9_findCleaning_151 : decode cX9_findCleaning 151 = .ok (.istore 8, 2) := by decide +kernel
theorem dX9_findCleaning_153 : decode cX9_findCleaning 153 = .ok (.iload 8, 2) := by decide +kernel
theorem dX9_findCleaning_155 : decode cX9_findCleaning 155 = .ok (.ifCond .eq 34, 3) := by decide +kernel
theorem dX9_findCleaning_158 : decode cX9_findCleaning 158 = .ok (.iload 7, 2) := by decide +kernel
theorem dX9_findCleaning_160 : decode cX9_findCleaning 160 = .ok (.aload_n 0, 1) := by decide +kernel
theorem dX9_findCleaning_161 : decode cX9_findCleaning 161 = .ok (.iload_n 3, 1) := by decide +kernel
theorem dX9_findCleaning_162 : decode cX9_findCleaning 162 = .ok (.iconst 5, 1) := by decide +kernel
theorem dX9_findCleaning_163 : decode cX9_findCleaning 163 = .ok (.invokevirtual 116, 3) := by decide +kernel
theorem dX9_findCleaning_166 : decode cX9_findCleaning 166 = .ok (.imul, 1) := by decide +kernel
theorem dX9_findCleaning_167 : decode cX9_findCleaning 167 = .ok (.aload_n 0, 1) := by decide +kernel
theorem dX9_findCleaning_168 : decode cX9_findCleaning 168 = .ok (.getfield 37, 3) := by decide +kernel
theorem dX9_findCleaning_171 : decode cX9_findCleaning 171 = .ok (.sipush 130, 3) := by decide +kernel
theorem dX9_findCleaning_174 : decode cX9_findCleaning 174 = .ok (.iload_n 3, 1) := by decide +kernel
theorem dX9_findCleaning_175 : decode cX9_findCleaning 175 = .ok (.iconst 1, 1) := by decide +kernel
theorem dX9_findCleaning_176 : decode cX9_findCleaning 176 = .ok (.iadd, 1) := by decide +kernel
theorem dX9_findCleaning_177 : decode cX9_findCleaning 177 = .ok (.imul, 1) := by decide +kernel
theorem dX9_findCleaning_178 : decode cX9_findCleaning 178 = .ok (.iload 5, 2) := by decide +kernel
theorem dX9_findCleaning_180 : decode cX9_findCleaning 180 = .ok (.iadd, 1) := by decide +kernel
theorem dX9_findCleaning_181 : decode cX9_findCleaning 181 = .ok (.iload 7, 2) := by decide +kernel
theorem dX9_findCleaning_183 : decode cX9_findCleaning 183 = .ok (.isub, 1) := by decide +kernel
theorem dX9_findCleaning_184 : decode cX9_findCleaning 184 = .ok (.iaload, 1) := by decide +kernel
theorem dX9_findCleaning_185 : decode cX9_findCleaning 185 = .ok (.iadd, 1) := by decide +kernel
theorem dX9_findCleaning_186 : decode cX9_findCleaning 186 = .ok (.goto 4, 3) := by decide +kernel
theorem dX9_findCleaning_189 : decode cX9_findCleaning 189 = .ok (.iconst (-1), 1) := by decide +kernel
theorem dX9_findCleaning_190 : decode cX9_findCleaning 190 = .ok (.istore 9, 2) := by decide +kernel
theorem dX9_findCleaning_192 : decode cX9_findCleaning 192 = .ok (.iload 8, 2) := by decide +kernel
theorem dX9_findCleaning_194 : decode cX9_findCleaning 194 = .ok (.ifCond .eq 34, 3) := by decide +kernel
theorem dX9_findCleaning_197 : decode cX9_findCleaning 197 = .ok (.iload 6, 2) := by decide +kernel
theorem dX9_findCleaning_199 : decode cX9_findCleaning 199 = .ok (.ifCond .lt 10, 3) := by decide +kernel
theorem dX9_findCleaning_202 : decode cX9_findCleaning 202 = .ok (.iload 9, 2) := by decide +kernel
theorem dX9_findCleaning_204 : decode cX9_findCleaning 204 = .ok (.iload 6, 2) := by decide +kernel
theorem dX9_findCleaning_206 : decode cX9_findCleaning 206 = .ok (.if_icmp .ge 22, 3) := by decide +kernel
theorem dX9_findCleaning_209 : decode cX9_findCleaning 209 = .ok (.iload 9, 2) := by decide +kernel
theorem dX9_findCleaning_211 : decode cX9_findCleaning 211 = .ok (.istore 6, 2) := by decide +kernel
theorem dX9_findCleaning_213 : decode cX9_findCleaning 213 = .ok (.aload_n 0, 1) := by decide +kernel
theorem dX9_findCleaning_214 : decode cX9_findCleaning 214 = .ok (.getfield 40, 3) := by decide +kernel
theorem dX9_findCleaning_217 : decode cX9_findCleaning 217 = .ok (.sipush 130, 3) := by decide +kernel
theorem dX9_findCleaning_220 : decode cX9_findCleaning 220 = .ok (.iload_n 3, 1) := by decide +kernel
theorem dX9_findCleaning_221 : decode cX9_findCleaning 221 = .ok (.imul, 1) := by decide +kernel
theorem dX9_findCleaning_222 : decode cX9_findCleaning 222 = .ok (.iload 4, 2) := by decide +kernel
theorem dX9_findCleaning_224 : decode cX9_findCleaning 224 = .ok (.iadd, 1) := by decide +kernel
theorem dX9_findCleaning_225 : decode cX9_findCleaning 225 = .ok (.iload 7, 2) := by decide +kernel
theorem dX9_findCleaning_227 : decode cX9_findCleaning 227 = .ok (.iastore, 1) := by decide +kernel
theorem dX9_findCleaning_228 : decode cX9_findCleaning 228 = .ok (.iinc 7 1, 3) := by decide +kernel
theorem dX9_findCleaning_231 : decode cX9_findCleaning 231 = .ok (.goto (-133), 3) := by decide +kernel
theorem dX9_findCleaning_234 : decode cX9_findCleaning 234 = .ok (.aload_n 0, 1) := by decide +kernel
theorem dX9_findCleaning_235 : decode cX9_findCleaning 235 = .ok (.getfield 37, 3) := by decide +kernel
theorem dX9_findCleaning_238 : decode cX9_findCleaning 238 = .ok (.sipush 130, 3) := by decide +kernel
theorem dX9_findCleaning_241 : decode cX9_findCleaning 241 = .ok (.iload_n 3, 1) := by decide +kernel
theorem dX9_findCleaning_242 : decode cX9_findCleaning 242 = .ok (.imul, 1) := by decide +kernel
theorem dX9_findCleaning_243 : decode cX9_findCleaning 243 = .ok (.iload 4, 2) := by decide +kernel
theorem dX9_findCleaning_245 : decode cX9_findCleaning 245 = .ok (.iadd, 1) := by decide +kernel
theorem dX9_findCleaning_246 : decode cX9_findCleaning 246 = .ok (.iload 6, 2) := by decide +kernel
theorem dX9_findCleaning_248 : decode cX9_findCleaning 248 = .ok (.iastore, 1) := by decide +kernel
theorem dX9_findCleaning_249 : decode cX9_findCleaning 249 = .ok (.iinc 4 1, 3) := by decide +kernel
theorem dX9_findCleaning_252 : decode cX9_findCleaning 252 = .ok (.goto (-184), 3) := by decide +kernel
theorem dX9_findCleaning_255 : decode cX9_findCleaning 255 = .ok (.iinc 3 (-1), 3) := by decide +kernel
theorem dX9_findCleaning_258 : decode cX9_findCleaning 258 = .ok (.goto (-197), 3) := by decide +kernel
theorem dX9_findCleaning_261 : decode cX9_findCleaning 261 = .ok (.return_, 1) := by decide +kernel
theorem dX9_cleaning_0 : decode cX9_cleaning 0 = .ok (.iload_n 1, 1) := by decide +kernel
theorem dX9_cleaning_1 : decode cX9_cleaning 1 = .ok (.iconst (-1), 1) := by decide +kernel
theorem dX9_cleaning_2 : decode cX9_cleaning 2 = .ok (.if_icmp .eq 13, 3) := by decide +kernel
theorem dX9_cleaning_5 : decode cX9_cleaning 5 = .ok (.aload_n 0, 1) := by decide +kernel
theorem dX9_cleaning_6 : decode cX9_cleaning 6 = .ok (.iload_n 1, 1) := by decide +kernel
theorem dX9_cleaning_7 : decode cX9_cleaning 7 = .ok (.invokevirtual 112, 3) := by decide +kernel
theorem dX9_cleaning_10 : decode cX9_cleaning 10 = .ok (.ifCond .ne 5, 3) := by decide +kernel
theorem dX9_cleaning_13 : decode cX9_cleaning 13 = .ok (.iconst (-1), 1) := by decide +kernel
theorem dX9_cleaning_14 : decode cX9_cleaning 14 = .ok (.ireturn, 1) := by decide +kernel
theorem dX9_cleaning_15 : decode cX9_cleaning 15 = .ok (.aload_n 0, 1) := by decide +kernel
theorem dX9_cleaning_16 : decode cX9_cleaning 16 = .ok (.invokevirtual 160, 3) := by decide +kernel
theorem dX9_cleaning_19 : decode cX9_cleaning 19 = .ok (.iload_n 1, 1) := by decide +kernel
theorem dX9_cleaning_20 : decode cX9_cleaning 20 = .ok (.ifCond .ge 23, 3) := by decide +kernel
theorem dX9_cleaning_23 : decode cX9_cleaning 23 = .ok (.aload_n 0, 1) := by decide +kernel
theorem dX9_cleaning_24 : decode cX9_cleaning 24 = .ok (.getfield 9, 3) := by decide +kernel
theorem dX9_cleaning_27 : decode cX9_cleaning 27 = .ok (.iconst 0, 1) := by decide +kernel
theorem dX9_cleaning_28 : decode cX9_cleaning 28 = .ok (.iaload, 1) := by decide +kernel
theorem dX9_cleaning_29 : decode cX9_cleaning 29 = .ok (.ifCond .ne 7, 3) := by decide +kernel
theorem dX9_cleaning_32 : decode cX9_cleaning 32 = .ok (.iconst 0, 1) := by decide +kernel
theorem dX9_cleaning_33 : decode cX9_cleaning 33 = .ok (.goto 9, 3) := by decide +kernel
theorem dX9_cleaning_36 : decode cX9_cleaning 36 = .ok (.aload_n 0, 1) := by decide +kernel
theorem dX9_cleaning_37 : decode cX9_cleaning 37 = .ok (.getfield 37, 3) := by decide +kernel
theorem dX9_cleaning_40 : decode cX9_cleaning 40 = .ok (.iconst 0, 1) := by decide +kernel
theorem dX9_cleaning_41 : decode cX9_cleaning 41 = .ok (.iaload, 1) := by decide +kernel
theorem dX9_cleaning_42 : decode cX9_cleaning 42 = .ok (.ireturn, 1) := by decide +kernel
theorem dX9_cleaning_43 : decode cX9_cleaning 43 = .ok (.iconst 0, 1) := by decide +kernel
theorem dX9_cleaning_44 : decode cX9_cleaning 44 = .ok (.istore_n 2, 1) := by decide +kernel
theorem dX9_cleaning_45 : decode cX9_cleaning 45 = .ok (.iconst 0, 1) := by decide +kernel
theorem dX9_cleaning_46 : decode cX9_cleaning 46 = .ok (.istore_n 3, 1) := by decide +kernel
theorem dX9_cleaning_47 : decode cX9_cleaning 47 = .ok (.iload_n 3, 1) := by decide +kernel
theorem dX9_cleaning_48 : decode cX9_cleaning 48 = .ok (.iload_n 1, 1) := by decide +kernel
theorem dX9_cleaning_49 : decode cX9_cleaning 49 = .ok (.if_icmp .ge 31, 3) := by decide +kernel
theorem dX9_cleaning_52 : decode cX9_cleaning 52 = .ok (.iload_n 2, 1) := by decide +kernel
theorem dX9_cleaning_53 : decode cX9_cleaning 53 = .ok (.aload_n 0, 1) := by decide +kernel
theorem dX9_cleaning_54 : decode cX9_cleaning 54 = .ok (.iload_n 3, 1) := by decide +kernel
theorem dX9_cleaning_55 : decode cX9_cleaning 55 = .ok (.iconst 3, 1) := by decide +kernel
theorem dX9_cleaning_56 : decode cX9_cleaning 56 = .ok (.invokevirtual 116, 3) := by decide +kernel
theorem dX9_cleaning_59 : decode cX9_cleaning 59 = .ok (.aload_n 0, 1) := by decide +kernel
theorem dX9_cleaning_60 : decode cX9_cleaning 60 = .ok (.getfield 40, 3) := by decide +kernel
theorem dX9_cleaning_63 : decode cX9_cleaning 63 = .ok (.sipush 130, 3) := by decide +kernel
theorem dX9_cleaning_66 : decode cX9_cleaning 66 = .ok (.iload_n 3, 1) := by decide +kernel
theorem dX9_cleaning_67 : decode cX9_cleaning 67 = .ok (.imul, 1) := by decide +kernel
theorem dX9_cleaning_68 : decode cX9_cleaning 68 = .ok (.iload_n 2, 1) := by decide +kernel
theorem dX9_cleaning_69 : decode cX9_cleaning 69 = .ok (.iadd, 1) := by decide +kernel
theorem dX9_cleaning_70 : decode cX9_cleaning 70 = .ok (.iaload, 1) := by decide +kernel
theorem dX9_cleaning_71 : decode cX9_cleaning 71 = .ok (.isub, 1) := by decide +kernel
theorem dX9_cleaning_72 : decode cX9_cleaning 72 = .ok (.iadd, 1) := by decide +kernel
theorem dX9_cleaning_73 : decode cX9_cleaning 73 = .ok (.istore_n 2, 1) := by decide +kernel
theorem dX9_cleaning_74 : decode cX9_cleaning 74 = .ok (.iinc 3 1, 3) := by decide +kernel
theorem dX9_cleaning_77 : decode cX9_cleaning 77 = .ok (.goto (-30), 3) := by decide +kernel
theorem dX9_cleaning_80 : decode cX9_cleaning 80 = .ok (.aload_n 0, 1) := by decide +kernel
theorem dX9_cleaning_81 : decode cX9_cleaning 81 = .ok (.getfield 40, 3) := by decide +kernel
theorem dX9_cleaning_84 : decode cX9_cleaning 84 = .ok (.sipush 130, 3) := by decide +kernel
theorem dX9_cleaning_87 : decode cX9_cleaning 87 = .ok (.iload_n 1, 1) := by decide +kernel
theorem dX9_cleaning_88 : decode cX9_cleaning 88 = .ok (.imul, 1) := by decide +kernel
theorem dX9_cleaning_89 : decode cX9_cleaning 89 = .ok (.iload_n 2, 1) := by decide +kernel
theorem dX9_cleaning_90 : decode cX9_cleaning 90 = .ok (.iadd, 1) := by decide +kernel
theorem dX9_cleaning_91 : decode cX9_cleaning 91 = .ok (.iaload, 1) := by decide +kernel
theorem dX9_cleaning_92 : decode cX9_cleaning 92 = .ok (.ireturn, 1) := by decide +kernel
theorem dX9_year_0 : decode cX9_year 0 = .ok (.iload_n 1, 1) := by decide +kernel
theorem dX9_year_1 : decode cX9_year 1 = .ok (.iconst 0, 1) := by decide +kernel
theorem dX9_year_2 : decode cX9_year 2 = .ok (.bipush 20, 2) := by decide +kernel
theorem dX9_year_4 : decode cX9_year 4 = .ok (.invokestatic 104, 3) := by decide +kernel
theorem dX9_year_7 : decode cX9_year 7 = .ok (.ifCond .ne 5, 3) := by decide +kernel
theorem dX9_year_10 : decode cX9_year 10 = .ok (.iconst (-1), 1) := by decide +kernel
theorem dX9_year_11 : decode cX9_year 11 = .ok (.ireturn, 1) := by decide +kernel
theorem dX9_year_12 : decode cX9_year 12 = .ok (.aload_n 0, 1) := by decide +kernel
theorem dX9_year_13 : decode cX9_year 13 = .ok (.getfield 9, 3) := by decide +kernel
theorem dX9_year_16 : decode cX9_year 16 = .ok (.iconst 1, 1) := by decide +kernel
theorem dX9_year_17 : decode cX9_year 17 = .ok (.iaload, 1) := by decide +kernel
theorem dX9_year_18 : decode cX9_year 18 = .ok (.istore_n 2, 1) := by decide +kernel
theorem dX9_year_19 : decode cX9_year 19 = .ok (.iload_n 2, 1) := by decide +kernel
theorem dX9_year_20 : decode cX9_year 20 = .ok (.bipush 6, 2) := by decide +kernel
theorem dX9_year_22 : decode cX9_year 22 = .ok (.if_icmp .ne 6, 3) := by decide +kernel
theorem dX9_year_25 : decode cX9_year 25 = .ok (.bipush (-2), 2) := by decide +kernel
theorem dX9_year_27 : decode cX9_year 27 = .ok (.ireturn, 1) := by decide +kernel
theorem dX9_year_28 : decode cX9_year 28 = .ok (.aload_n 0, 1) := by decide +kernel
theorem dX9_year_29 : decode cX9_year 29 = .ok (.getfield 9, 3) := by decide +kernel
theorem dX9_year_32 : decode cX9_year 32 = .ok (.bipush 118, 2) := by decide +kernel
theorem dX9_year_34 : decode cX9_year 34 = .ok (.iload_n 2, 1) := by decide +kernel
theorem dX9_year_35 : decode cX9_year 35 = .ok (.iadd, 1) := by decide +kernel
theorem dX9_year_36 : decode cX9_year 36 = .ok (.iload_n 1, 1) := by decide +kernel
theorem dX9_year_37 : decode cX9_year 37 = .ok (.iastore, 1) := by decide +kernel
theorem dX9_year_38 : decode cX9_year 38 = .ok (.aload_n 0, 1) := by decide +kernel
theorem dX9_year_39 : decode cX9_year 39 = .ok (.getfield 9, 3) := by decide +kernel
theorem dX9_year_42 : decode cX9_year 42 = .ok (.iconst 1, 1) := by decide +kernel
theorem dX9_year_43 : decode cX9_year 43 = .ok (.dup2, 1) := by decide +kernel
theorem dX9_year_44 : decode cX9_year 44 = .ok (.iaload, 1) := by decide +kernel
theorem dX9_year_45 : decode cX9_year 45 = .ok (.iconst 1, 1) := by decide +kernel
theorem dX9_year_46 : decode cX9_year 46 = .ok (.iadd, 1) := by decide +kernel
theorem dX9_year_47 : decode cX9_year 47 = .ok (.iastore, 1) := by decide +kernel
theorem dX9_year_48 : decode cX9_year 48 = .ok (.iload_n 2, 1) := by decide +kernel
theorem dX9_year_49 : decode cX9_year 49 = .ok (.ireturn, 1) := by decide +kernel
theorem dX9_yearOf_0 : decode cX9_yearOf 0 = .ok (.iload_n 1, 1) := by decide +kernel
theorem dX9_yearOf_1 : decode cX9_yearOf 1 = .ok (.iconst 0, 1) := by decide +kernel
theorem dX9_yearOf_2 : decode cX9_yearOf 2 = .ok (.aload_n 0, 1) := by decide +kernel
theorem dX9_yearOf_3 : decode cX9_yearOf 3 = .ok (.getfield 9, 3) := by decide +kernel
theorem dX9_yearOf_6 : decode cX9_yearOf 6 = .ok (.iconst 1, 1) := by decide +kernel
theorem dX9_yearOf_7 : decode cX9_yearOf 7 = .ok (.iaload, 1) := by decide +kernel
theorem dX9_yearOf_8 : decode cX9_yearOf 8 = .ok (.iconst 1, 1) := by decide +kernel
theorem dX9_yearOf_9 : decode cX9_yearOf 9 = .ok (.isub, 1) := by decide +kernel
theorem dX9_yearOf_10 : decode cX9_yearOf 10 = .ok (.invokestatic 104, 3) := by decide +kernel
theorem dX9_yearOf_13 : decode cX9_yearOf 13 = .ok (.ifCond .eq 13, 3) := by decide +kernel
theorem dX9_yearOf_16 : decode cX9_yearOf 16 = .ok (.iload_n 2, 1) := by decide +kernel
theorem dX9_yearOf_17 : decode cX9_yearOf 17 = .ok (.iconst 0, 1) := by decide +kernel
theorem dX9_yearOf_18 : decode cX9_yearOf 18 = .ok (.bipush 20, 2) := by decide +kernel
theorem dX9_yearOf_20 : decode cX9_yearOf 20 = .ok (.invokestatic 104, 3) := by decide +kernel
theorem dX9_yearOf_23 : decode cX9_yearOf 23 = .ok (.ifCond .ne 5, 3) := by decide +kernel
theorem dX9_yearOf_26 : decode cX9_yearOf 26 = .ok (.iconst (-1), 1) := by decide +kernel
theorem dX9_yearOf_27 : decode cX9_yearOf 27 = .ok (.ireturn, 1) := by decide +kernel
theorem dX9_yearOf_28 : decode cX9_yearOf 28 = .ok (.aload_n 0, 1) := by decide +kernel
theorem dX9_yearOf_29 : decode cX9_yearOf 29 = .ok (.getfield 9, 3) := by decide +kernel
theorem dX9_yearOf_32 : decode cX9_yearOf 32 = .ok (.bipush 118, 2) := by decide +kernel
theorem dX9_yearOf_34 : decode cX9_yearOf 34 = .ok (.iload_n 1, 1) := by decide +kernel
theorem dX9_yearOf_35 : decode cX9_yearOf 35 = .ok (.iadd, 1) := by decide +kernel
theorem dX9_yearOf_36 : decode cX9_yearOf 36 = .ok (.iaload, 1) := by decide +kernel
theorem dX9_yearOf_37 : decode cX9_yearOf 37 = .ok (.istore_n 3, 1) := by decide +kernel
theorem dX9_yearOf_38 : decode cX9_yearOf 38 = .ok (.aload_n 0, 1) := by decide +kernel
theorem dX9_yearOf_39 : decode cX9_yearOf 39 = .ok (.getfield 9, 3) := by decide +kernel
theorem dX9_yearOf_42 : decode cX9_yearOf 42 = .ok (.bipush 118, 2) := by decide +kernel
theorem dX9_yearOf_44 : decode cX9_yearOf 44 = .ok (.iload_n 1, 1) := by decide +kernel
theorem dX9_yearOf_45 : decode cX9_yearOf 45 = .ok (.iadd, 1) := by decide +kernel
theorem dX9_yearOf_46 : decode cX9_yearOf 46 = .ok (.iload_n 2, 1) := by decide +kernel
theorem dX9_yearOf_47 : decode cX9_yearOf 47 = .ok (.iastore, 1) := by decide +kernel
theorem dX9_yearOf_48 : decode cX9_yearOf 48 = .ok (.iload_n 3, 1) := by decide +kernel
theorem dX9_yearOf_49 : decode cX9_yearOf 49 = .ok (.ireturn, 1) := by decide +kernel
theorem dX9_dam_0 : decode cX9_dam 0 = .ok (.iload_n 1, 1) := by decide +kernel
theorem dX9_dam_1 : decode cX9_dam 1 = .ok (.iconst (-1), 1) := by decide +kernel
theorem dX9_dam_2 : decode cX9_dam 2 = .ok (.if_icmp .eq 11, 3) := by decide +kernel
theorem dX9_dam_5 : decode cX9_dam 5 = .ok (.aload_n 0, 1) := by decide +kernel
theorem dX9_dam_6 : decode cX9_dam 6 = .ok (.iload_n 1, 1) := by decide +kernel
theorem dX9_dam_7 : decode cX9_dam 7 = .ok (.invokevirtual 112, 3) := by decide +kernel
theorem dX9_dam_10 : decode cX9_dam 10 = .ok (.ifCond .eq 12, 3) := by decide +kernel
theorem dX9_dam_13 : decode cX9_dam 13 = .ok (.iload_n 2, 1) := by decide +kernel
theorem dX9_dam_14 : decode cX9_dam 14 = .ok (.iconst 0, 1) := by decide +kernel
theorem dX9_dam_15 : decode cX9_dam 15 = .ok (.iconst 4, 1) := by decide +kernel
theorem dX9_dam_16 : decode cX9_dam 16 = .ok (.invokestatic 104, 3) := by decide +kernel
theorem dX9_dam_19 : decode cX9_dam 19 = .ok (.ifCond .ne 5, 3) := by decide +kernel
theorem dX9_dam_22 : decode cX9_dam 22 = .ok (.iconst (-1), 1) := by decide +kernel
theorem dX9_dam_23 : decode cX9_dam 23 = .ok (.ireturn, 1) := by decide +kernel
theorem dX9_dam_24 : decode cX9_dam 24 = .ok (.aload_n 0, 1) := by decide +kernel
theorem dX9_dam_25 : decode cX9_dam 25 = .ok (.getfield 9, 3) := by decide +kernel
theorem dX9_dam_28 : decode cX9_dam 28 = .ok (.iconst 4, 1) := by decide +kernel
theorem dX9_dam_29 : decode cX9_dam 29 = .ok (.iload_n 1, 1) := by decide +kernel
theorem dX9_dam_30 : decode cX9_dam 30 = .ok (.iastore, 1) := by decide +kernel
theorem dX9_dam_31 : decode cX9_dam 31 = .ok (.aload_n 0, 1) := by decide +kernel
theorem dX9_dam_32 : decode cX9_dam 32 = .ok (.getfield 9, 3) := by decide +kernel
theorem dX9_dam_35 : decode cX9_dam 35 = .ok (.iconst 5, 1) := by decide +kernel
theorem dX9_dam_36 : decode cX9_dam 36 = .ok (.iload_n 2, 1) := by decide +kernel
theorem dX9_dam_37 : decode cX9_dam 37 = .ok (.iastore, 1) := by decide +kernel
theorem dX9_dam_38 : decode cX9_dam 38 = .ok (.iconst 1, 1) := by decide +kernel
theorem dX9_dam_39 : decode cX9_dam 39 = .ok (.ireturn, 1) := by decide +kernel
theorem dX9_findYear_0 : decode cX9_findYear 0 = .ok (.aload_n 0, 1) := by decide +kernel
theorem dX9_findYear_1 : decode cX9_findYear 1 = .ok (.getfield 9, 3) := by decide +kernel
theorem dX9_findYear_4 : decode cX9_findYear 4 = .ok (.iconst 5, 1) := by decide +kernel
theorem dX9_findYear_5 : decode cX9_findYear 5 = .ok (.iaload, 1) := by decide +kernel
theorem dX9_findYear_6 : decode cX9_findYear 6 = .ok (.ineg, 1) := by decide +kernel
theorem dX9_findYear_7 : decode cX9_findYear 7 = .ok (.istore_n 2, 1) := by decide +kernel
theorem dX9_findYear_8 : decode cX9_findYear 8 = .ok (.iload_n 2, 1) := by decide +kernel
theorem dX9_findYear_9 : decode cX9_findYear 9 = .ok (.aload_n 0, 1) := by decide +kernel
theorem dX9_findYear_10 : decode cX9_findYear 10 = .ok (.getfield 9, 3) := by decide +kernel
theorem dX9_findYear_13 : decode cX9_findYear 13 = .ok (.iconst 5, 1) := by decide +kernel
theorem dX9_findYear_14 : decode cX9_findYear 14 = .ok (.iaload, 1) := by decide +kernel
theorem dX9_findYear_15 : decode cX9_findYear 15 = .ok (.if_icmp .gt 116, 3) := by decide +kernel
theorem dX9_findYear_18 : decode cX9_findYear 18 = .ok (.aload_n 0, 1) := by decide +kernel
theorem dX9_findYear_19 : decode cX9_findYear 19 = .ok (.getfield 9, 3) := by decide +kernel
theorem dX9_findYear_22 : decode cX9_findYear 22 = .ok (.iconst 4, 1) := by decide +kernel
theorem dX9_findYear_23 : decode cX9_findYear 23 = .ok (.iaload, 1) := by decide +kernel
theorem dX9_findYear_24 : decode cX9_findYear 24 = .ok (.istore_n 3, 1) := by decide +kernel
theorem dX9_findYear_25 : decode cX9_findYear 25 = .ok (.aload_n 0, 1) := by decide +kernel
theorem dX9_findYear_26 : decode cX9_findYear 26 = .ok (.aload_n 0, 1) := by decide +kernel
theorem dX9_findYear_27 : decode cX9_findYear 27 = .ok (.getfield 9, 3) := by decide +kernel
theorem dX9_findYear_30 : decode cX9_findYear 30 = .ok (.bipush 118, 2) := by decide +kernel
theorem dX9_findYear_32 : decode cX9_findYear 32 = .ok (.iload_n 1, 1) := by decide +kernel
theorem dX9_findYear_33 : decode cX9_findYear 33 = .ok (.iadd, 1) := by decide +kernel
theorem dX9_findYear_34 : decode cX9_findYear 34 = .ok (.iaload, 1) := by decide +kernel
theorem dX9_findYear_35 : decode cX9_findYear 35 = .ok (.invokevirtual 129, 3) := by decide +kernel
theorem dX9_findYear_38 : decode cX9_findYear 38 = .ok (.aload_n 0, 1) := by decide +kernel
theorem dX9_findYear_39 : decode cX9_findYear 39 = .ok (.getfield 52, 3) := by decide +kernel
theorem dX9_findYear_42 : decode cX9_findYear 42 = .ok (.iload_n 2, 1) := by decide +kernel
theorem dX9_findYear_43 : decode cX9_findYear 43 = .ok (.iconst 4, 1) := by decide +kernel
theorem dX9_findYear_44 : decode cX9_findYear 44 = .ok (.iadd, 1) := by decide +kernel
theorem dX9_findYear_45 : decode cX9_findYear 45 = .ok (.iload_n 3, 1) := by decide +kernel
theorem dX9_findYear_46 : decode cX9_findYear 46 = .ok (.ifCond .lt 14, 3) := by decide +kernel
theorem dX9_findYear_49 : decode cX9_findYear 49 = .ok (.aload_n 0, 1) := by decide +kernel
theorem dX9_findYear_50 : decode cX9_findYear 50 = .ok (.getfield 22, 3) := by decide +kernel
theorem dX9_findYear_53 : decode cX9_findYear 53 = .ok (.iload_n 3, 1) := by decide +kernel
theorem dX9_findYear_54 : decode cX9_findYear 54 = .ok (.iaload, 1) := by decide +kernel
theorem dX9_findYear_55 : decode cX9_findYear 55 = .ok (.iload_n 2, 1) := by decide +kernel
theorem dX9_findYear_56 : decode cX9_findYear 56 = .ok (.iadd, 1) := by decide +kernel
theorem dX9_findYear_57 : decode cX9_findYear 57 = .ok (.ifCond .lt 7, 3) := by decide +kernel
theorem dX9_findYear_60 : decode cX9_findYear 60 = .ok (.iconst 1, 1) := by decide +kernel
theorem dX9_findYear_61 : decode cX9_findYear 61 = .ok (.goto 4, 3) := by decide +kernel
theorem dX9_findYear_64 : decode cX9_findYear 64 = .ok (.iconst 0, 1) := by decide +kernel
theorem dX9_findYear_65 : decode cX9_findYear 65 = .ok (.bastore, 1) := by decide +kernel
theorem dX9_findYear_66 : decode cX9_findYear 66 = .ok (.iload_n 3, 1) := by decide +kernel
theorem dX9_findYear_67 : decode cX9_findYear 67 = .ok (.ifCond .lt 24, 3) := by decide +kernel
theorem dX9_findYear_70 : decode cX9_findYear 70 = .ok (.aload_n 0, 1) := by decide +kernel
theorem dX9_findYear_71 : decode cX9_findYear 71 = .ok (.getfield 52, 3) := by decide +kernel
theorem dX9_findYear_74 : decode cX9_findYear 74 = .ok (.iload_n 2, 1) := by decide +kernel
theorem dX9_findYear_75 : decode cX9_findYear 75 = .ok (.iconst 4, 1) := by decide +kernel
theorem dX9_findYear_76 : decode cX9_findYear 76 = .ok (.iadd, 1) := by decide +kernel
theorem dX9_findYear_77 : decode cX9_findYear 77 = .ok (.baload, 1) := by decide +kernel
theorem dX9_findYear_78 : decode cX9_findYear 78 = .ok (.ifCond .eq 13, 3) := by decide +kernel
theorem dX9_findYear_81 : decode cX9_findYear 81 = .ok (.aload_n 0, 1) := by decide +kernel
theorem dX9_findYear_82 : decode cX9_findYear 82 = .ok (.getfield 22, 3) := by decide +kernel
theorem dX9_findYear_85 : decode cX9_findYear 85 = .ok (.iload_n 3, 1) := by decide +kernel
theorem dX9_findYear_86 : decode cX9_findYear 86 = .ok (.dup2, 1) := by decide +kernel
theorem dX9_findYear_87 : decode cX9_findYear 87 = .ok (.iaload, 1) := by decide +kernel
theorem dX9_findYear_88 : decode cX9_findYear 88 = .ok (.iload_n 2, 1) := by decide +kernel
theorem dX9_findYear_89 : decode cX9_findYear 89 = .ok (.iadd, 1) := by decide +kernel
theorem dX9_findYear_90 : decode cX9_findYear 90 = .ok (.iastore, 1) := by decide +kernel
theorem dX9_findYear_91 : decode cX9_findYear 91 = .ok (.aload_n 0, 1) := by decide +kernel
theorem dX9_findYear_92 : decode cX9_findYear 92 = .ok (.getfield 49, 3) := by decide +kernel
theorem dX9_findYear_95 : decode cX9_findYear 95 = .ok (.iload_n 2, 1) := by decide +kernel
theorem dX9_findYear_96 : decode cX9_findYear 96 = .ok (.iconst 4, 1) := by decide +kernel
theorem dX9_findYear_97 : decode cX9_findYear 97 = .ok (.iadd, 1) := by decide +kernel
theorem dX9_findYear_98 : decode cX9_findYear 98 = .ok (.aload_n 0, 1) := by decide +kernel
theorem dX9_findYear_99 : decode cX9_findYear 99 = .ok (.getfield 9, 3) := by decide +kernel
theorem dX9_findYear_102 : decode cX9_findYear 102 = .ok (.iconst 0, 1) := by decide +kernel
theorem dX9_findYear_103 : decode cX9_findYear 103 = .ok (.iaload, 1) := by decide +kernel
theorem dX9_findYear_104 : decode cX9_findYear 104 = .ok (.ifCond .ne 7, 3) := by decide +kernel
theorem dX9_findYear_107 : decode cX9_findYear 107 = .ok (.iconst 0, 1) := by decide +kernel
theorem dX9_findYear_108 : decode cX9_findYear 108 = .ok (.goto 16, 3) := by decide +kernel
theorem dX9_findYear_111 : decode cX9_findYear 111 = .ok (.aload_n 0, 1) := by decide +kernel
theorem dX9_findYear_112 : decode cX9_findYear 112 = .ok (.iconst 0, 1) := by decide +kernel
theorem dX9_findYear_113 : decode cX9_findYear 113 = .ok (.aload_n 0, 1) := by decide +kernel
theorem dX9_findYear_114 : decode cX9_findYear 114 = .ok (.getfield 9, 3) := by decide +kernel
theorem dX9_findYear_117 : decode cX9_findYear 117 = .ok (.iconst 0, 1) := by decide +kernel
theorem dX9_findYear_118 : decode cX9_findYear 118 = .ok (.iaload, 1) := by decide +kernel
theorem dX9_findYear_119 : decode cX9_findYear 119 = .ok (.iconst 1, 1) := by decide +kernel
theorem dX9_findYear_120 : decode cX9_findYear 120 = .ok (.isub, 1) := by decide +kernel
theorem dX9_findYear_121 : decode cX9_findYear 121 = .ok (.invokevirtual 133, 3) := by decide +kernel
theorem dX9_findYear_124 : decode cX9_findYear 124 = .ok (.iastore, 1) := by decide +kernel
theorem dX9_findYear_125 : decode cX9_findYear 125 = .ok (.iinc 2 1, 3) := by decide +kernel
theorem dX9_findYear_128 : decode cX9_findYear 128 = .ok (.goto (-120), 3) := by decide +kernel
theorem dX9_findYear_131 : decode cX9_findYear 131 = .ok (.return_, 1) := by decide +kernel
theorem dX9_findKept_0 : decode cX9_findKept 0 = .ok (.aload_n 0, 1) := by decide +kernel
theorem dX9_findKept_1 : decode cX9_findKept 1 = .ok (.getfield 9, 3) := by decide +kernel
theorem dX9_findKept_4 : decode cX9_findKept 4 = .ok (.iconst 1, 1) := by decide +kernel
theorem dX9_findKept_5 : decode cX9_findKept 5 = .ok (.iaload, 1) := by decide +kernel
theorem dX9_findKept_6 : decode cX9_findKept 6 = .ok (.istore_n 1, 1) := by decide +kernel
theorem dX9_findKept_7 : decode cX9_findKept 7 = .ok (.iconst 0, 1) := by decide +kernel
theorem dX9_findKept_8 : decode cX9_findKept 8 = .ok (.istore_n 2, 1) := by decide +kernel
theorem dX9_findKept_9 : decode cX9_findKept 9 = .ok (.iload_n 2, 1) := by decide +kernel
theorem dX9_findKept_10 : decode cX9_findKept 10 = .ok (.iconst 5, 1) := by decide +kernel
theorem dX9_findKept_11 : decode cX9_findKept 11 = .ok (.if_icmp .ge 20, 3) := by decide +kernel
theorem dX9_findKept_14 : decode cX9_findKept 14 = .ok (.aload_n 0, 1) := by decide +kernel
theorem dX9_findKept_15 : decode cX9_findKept 15 = .ok (.getfield 43, 3) := by decide +kernel
theorem dX9_findKept_18 : decode cX9_findKept 18 = .ok (.iconst 5, 1) := by decide +kernel
theorem dX9_findKept_19 : decode cX9_findKept 19 = .ok (.iload_n 1, 1) := by decide +kernel
theorem dX9_findKept_20 : decode cX9_findKept 20 = .ok (.imul, 1) := by decide +kernel
theorem dX9_findKept_21 : decode cX9_findKept 21 = .ok (.iload_n 2, 1) := by decide +kernel
theorem dX9_findKept_22 : decode cX9_findKept 22 = .ok (.iadd, 1) := by decide +kernel
theorem dX9_findKept_23 : decode cX9_findKept 23 = .ok (.iconst 0, 1) := by decide +kernel
theorem dX9_findKept_24 : decode cX9_findKept 24 = .ok (.iastore, 1) := by decide +kernel
theorem dX9_findKept_25 : decode cX9_findKept 25 = .ok (.iinc 2 1, 3) := by decide +kernel
theorem dX9_findKept_28 : decode cX9_findKept 28 = .ok (.goto (-19), 3) := by decide +kernel
theorem dX9_findKept_31 : decode cX9_findKept 31 = .ok (.iload_n 1, 1) := by decide +kernel
theorem dX9_findKept_32 : decode cX9_findKept 32 = .ok (.iconst 1, 1) := by decide +kernel
theorem dX9_findKept_33 : decode cX9_findKept 33 = .ok (.isub, 1) := by decide +kernel
theorem dX9_findKept_34 : decode cX9_findKept 34 = .ok (.istore_n 2, 1) := by decide +kernel
theorem dX9_findKept_35 : decode cX9_findKept 35 = .ok (.iload_n 2, 1) := by decide +kernel
theorem dX9_findKept_36 : decode cX9_findKept 36 = .ok (.ifCond .lt 136, 3) := by decide +kernel
theorem dX9_findKept_39 : decode cX9_findKept 39 = .ok (.aload_n 0, 1) := by decide +kernel
theorem dX9_findKept_40 : decode cX9_findKept 40 = .ok (.iload_n 2, 1) := by decide +kernel
theorem dX9_findKept_41 : decode cX9_findKept 41 = .ok (.invokevirtual 163, 3) := by decide +kernel
theorem dX9_findKept_44 : decode cX9_findKept 44 = .ok (.iconst 0, 1) := by decide +kernel
theorem dX9_findKept_45 : decode cX9_findKept 45 = .ok (.istore_n 3, 1) := by decide +kernel
theorem dX9_findKept_46 : decode cX9_findKept 46 = .ok (.iload_n 3, 1) := by decide +kernel
theorem dX9_findKept_47 : decode cX9_findKept 47 = .ok (.aload_n 0, 1) := by decide +kernel
theorem dX9_findKept_48 : decode cX9_findKept 48 = .ok (.getfield 9, 3) := by decide +kernel
theorem dX9_findKept_51 : decode cX9_findKept 51 = .ok (.iconst 5, 1) := by decide +kernel
theorem dX9_findKept_52 : decode cX9_findKept 52 = .ok (.iaload, 1) := by decide +kernel
theorem dX9_findKept_53 : decode cX9_findKept 53 = .ok (.if_icmp .gt 113, 3) := by decide +kernel
theorem dX9_findKept_56 : decode cX9_findKept 56 = .ok (.iconst 0, 1) := by decide +kernel
theorem dX9_findKept_57 : decode cX9_findKept 57 = .ok (.istore 4, 2) := by decide +kernel
theorem dX9_findKept_59 : decode cX9_findKept 59 = .ok (.iconst 0, 1) := by decide +kernel
theorem dX9_findKept_60 : decode cX9_findKept 60 = .ok (.istore 5, 2) := by decide +kernel
theorem dX9_findKept_62 : decode cX9_findKept 62 = .ok (.iload 5, 2) := by decide +kernel
theorem dX9_findKept_64 : decode cX9_findKept 64 = .ok (.aload_n 0, 1) := by decide +kernel
theorem dX9_findKept_65 : decode cX9_findKept 65 = .ok (.getfield 9, 3) := by decide +kernel
theorem dX9_findKept_68 : decode cX9_findKept 68 = .ok (.iconst 5, 1) := by decide +kernel
theorem dX9_findKept_69 : decode cX9_findKept 69 = .ok (.iaload, 1) := by decide +kernel
theorem dX9_findKept_70 : decode cX9_findKept 70 = .ok (.if_icmp .gt 78, 3) := by decide +kernel
theorem dX9_findKept_73 : decode cX9_findKept 73 = .ok (.aload_n 0, 1) := by decide +kernel
theorem dX9_findKept_74 : decode cX9_findKept 74 = .ok (.getfield 49, 3) := by decide +kernel
theorem dX9_findKept_77 : decode cX9_findKept 77 = .ok (.iload_n 3, 1) := by decide +kernel
theorem dX9_findKept_78 : decode cX9_findKept 78 = .ok (.iload 5, 2) := by decide +kernel
theorem dX9_findKept_80 : decode cX9_findKept 80 = .ok (.isub, 1) := by decide +kernel
theorem dX9_findKept_81 : decode cX9_findKept 81 = .ok (.iconst 4, 1) := by decide +kernel
theorem dX9_findKept_82 : decode cX9_findKept 82 = .ok (.iadd, 1) := by decide +kernel
theorem dX9_findKept_83 : decode cX9_findKept 83 = .ok (.iaload, 1) := by decide +kernel
theorem dX9_findKept_84 : decode cX9_findKept 84 = .ok (.aload_n 0, 1) := by decide +kernel
theorem dX9_findKept_85 : decode cX9_findKept 85 = .ok (.getfield 43, 3) := by decide +kernel
theorem dX9_findKept_88 : decode cX9_findKept 88 = .ok (.iconst 5, 1) := by decide +kernel
theorem dX9_findKept_89 : decode cX9_findKept 89 = .ok (.iload_n 2, 1) := by decide +kernel
theorem dX9_findKept_90 : decode cX9_findKept 90 = .ok (.iconst 1, 1) := by decide +kernel
theorem dX9_findKept_91 : decode cX9_findKept 91 = .ok (.iadd, 1) := by decide +kernel
theorem dX9_findKept_92 : decode cX9_findKept 92 = .ok (.imul, 1) := by decide +kernel
theorem dX9_findKept_93 : decode cX9_findKept 93 = .ok (.iload 5, 2) := by decide +kernel
theorem dX9_findKept_95 : decode cX9_findKept 95 = .ok (.iadd, 1) := by decide +kernel
theorem dX9_findKept_96 : decode cX9_findKept 96 = .ok (.iaload, 1) := by decide +kernel
theorem dX9_findKept_97 : decode cX9_findKept 97 = .ok (.iadd, 1) := by decide +kernel
theorem dX9_findKept_98 : decode cX9_findKept 98 = .ok (.istore 6, 2) := by decide +kernel
theorem dX9_findKept_100 : decode cX9_findKept 100 = .ok (.aload_n 0, 1) := by decide +kernel
theorem dX9_findKept_101 : decode cX9_findKept 101 = .ok (.getfield 52, 3) := by decide +kernel
theorem dX9_findKept_104 : decode cX9_findKept 104 = .ok (.iload_n 3, 1) := by decide +kernel
theorem dX9_findKept_105 : decode cX9_findKept 105 = .ok (.iload 5, 2) := by decide +kernel
theorem dX9_findKept_107 : decode cX9_findKept 107 = .ok (.isub, 1) := by decide +kernel
theorem dX9_findKept_108 : decode cX9_findKept 108 = .ok (.iconst 4, 1) := by decide +kernel
theorem dX9_findKept_109 : decode cX9_findKept 109 = .ok (.iadd, 1) := by decide +kernel
theorem dX9_findKept_110 : decode cX9_findKept 110 = .ok (.baload, 1) := by decide +kernel
theorem dX9_findKept_111 : decode cX9_findKept 111 = .ok (.ifCond .eq 31, 3) := by decide +kernel
theorem dX9_findKept_114 : decode cX9_findKept 114 = .ok (.iload 5, 2) := by decide +kernel
theorem dX9_findKept_116 : decode cX9_findKept 116 = .ok (.ifCond .eq 10, 3) := by decide +kernel
theorem dX9_findKept_119 : decode cX9_findKept 119 = .ok (.iload 6, 2) := by decide +kernel
theorem dX9_findKept_121 : decode cX9_findKept 121 = .ok (.iload 4, 2) := by decide +kernel
theorem dX9_findKept_123 : decode cX9_findKept 123 = .ok (.if_icmp .le 19, 3) := by decide +kernel
theorem dX9_findKept_126 : decode cX9_findKept 126 = .ok (.iload 6, 2) := by decide +kernel
theorem dX9_findKept_128 : decode cX9_findKept 128 = .ok (.istore 4, 2) := by decide +kernel
theorem dX9_findKept_130 : decode cX9_findKept 130 = .ok (.aload_n 0, 1) := by decide +kernel
theorem dX9_findKept_131 : decode cX9_findKept 131 = .ok (.getfield 46, 3) := by decide +kernel
theorem dX9_findKept_134 : decode cX9_findKept 134 = .ok (.iconst 5, 1) := by decide +kernel
theorem dX9_findKept_135 : decode cX9_findKept 135 = .ok (.iload_n 2, 1) := by decide +kernel
theorem dX9_findKept_136 : decode cX9_findKept 136 = .ok (.imul, 1) := by decide +kernel
theorem dX9_findKept_137 : decode cX9_findKept 137 = .ok (.iload_n 3, 1) := by decide +kernel
theorem dX9_findKept_138 : decode cX9_findKept 138 = .ok (.iadd, 1) := by decide +kernel
theorem dX9_findKept_139 : decode cX9_findKept 139 = .ok (.iload 5, 2) := by decide +kernel
theorem dX9_findKept_141 : decode cX9_findKept 141 = .ok (.iastore, 1) := by decide +kernel
theorem dX9_findKept_142 : decode cX9_findKept 142 = .ok (.iinc 5 1, 3) := by decide +kernel
theorem dX9_findKept_145 : decode cX9_findKept 145 = .ok (.goto (-83), 3) := by decide +kernel
theorem dX9_findKept_148 : decode cX9_findKept 148 = .ok (.aload_n 0, 1) := by decide +kernel
theorem dX9_findKept_149 : decode cX9_findKept 149 = .ok (.getfield 43, 3) := by decide +kernel
theorem dX9_findKept_152 : decode cX9_findKept 152 = .ok (.iconst 5, 1) := by decide +kernel
theorem dX9_findKept_153 : decode cX9_findKept 153 = .ok (.iload_n 2, 1) := by decide +kernel
theorem dX9_findKept_154 : decode cX9_findKept 154 = .ok (.imul, 1) := by decide +kernel
theorem dX9_findKept_155 : decode cX9_findKept 155 = .ok (.iload_n 3, 1) := by decide +kernel
theorem dX9_findKept_156 : decode cX9_findKept 156 = .ok (.iadd, 1) := by decide +kernel
theorem dX9_findKept_157 : decode cX9_findKept 157 = .ok (.iload 4, 2) := by decide +kernel
theorem dX9_findKept_159 : decode cX9_findKept 159 = .ok (.iastore, 1) := by decide +kernel
theorem dX9_findKept_160 : decode cX9_findKept 160 = .ok (.iinc 3 1, 3) := by decide +kernel
theorem dX9_findKept_163 : decode cX9_findKept 163 = .ok (.goto (-117), 3) := by decide +kernel
theorem dX9_findKept_166 : decode cX9_findKept 166 = .ok (.iinc 2 (-1), 3) := by decide +kernel
theorem dX9_findKept_169 : decode cX9_findKept 169 = .ok (.goto (-134), 3) := by decide +kernel
theorem dX9_findKept_172 : decode cX9_findKept 172 = .ok (.return_, 1) := by decide +kernel
theorem dX9_kept_0 : decode cX9_kept 0 = .ok (.iload_n 1, 1) := by decide +kernel
theorem dX9_kept_1 : decode cX9_kept 1 = .ok (.iconst (-1), 1) := by decide +kernel
theorem dX9_kept_2 : decode cX9_kept 2 = .ok (.aload_n 0, 1) := by decide +kernel
theorem dX9_kept_3 : decode cX9_kept 3 = .ok (.getfield 9, 3) := by decide +kernel
theorem dX9_kept_6 : decode cX9_kept 6 = .ok (.iconst 1, 1) := by decide +kernel
theorem dX9_kept_7 : decode cX9_kept 7 = .ok (.iaload, 1) := by decide +kernel
theorem dX9_kept_8 : decode cX9_kept 8 = .ok (.iconst 1, 1) := by decide +kernel
theorem dX9_kept_9 : decode cX9_kept 9 = .ok (.isub, 1) := by decide +kernel
theorem dX9_kept_10 : decode cX9_kept 10 = .ok (.invokestatic 104, 3) := by decide +kernel
theorem dX9_kept_13 : decode cX9_kept 13 = .ok (.ifCond .ne 6, 3) := by decide +kernel
theorem dX9_kept_16 : decode cX9_kept 16 = .ok (.ldc 140, 2) := by decide +kernel
theorem dX9_kept_18 : decode cX9_kept 18 = .ok (.ireturn, 1) := by decide +kernel
theorem dX9_kept_19 : decode cX9_kept 19 = .ok (.aload_n 0, 1) := by decide +kernel
theorem dX9_kept_20 : decode cX9_kept 20 = .ok (.invokevirtual 166, 3) := by decide +kernel
theorem dX9_kept_23 : decode cX9_kept 23 = .ok (.iload_n 1, 1) := by decide +kernel
theorem dX9_kept_24 : decode cX9_kept 24 = .ok (.ifCond .ge 10, 3) := by decide +kernel
theorem dX9_kept_27 : decode cX9_kept 27 = .ok (.aload_n 0, 1) := by decide +kernel
theorem dX9_kept_28 : decode cX9_kept 28 = .ok (.getfield 43, 3) := by decide +kernel
theorem dX9_kept_31 : decode cX9_kept 31 = .ok (.iconst 0, 1) := by decide +kernel
theorem dX9_kept_32 : decode cX9_kept 32 = .ok (.iaload, 1) := by decide +kernel
theorem dX9_kept_33 : decode cX9_kept 33 = .ok (.ireturn, 1) := by decide +kernel
theorem dX9_kept_34 : decode cX9_kept 34 = .ok (.iconst 0, 1) := by decide +kernel
theorem dX9_kept_35 : decode cX9_kept 35 = .ok (.istore_n 2, 1) := by decide +kernel
theorem dX9_kept_36 : decode cX9_kept 36 = .ok (.iconst 0, 1) := by decide +kernel
theorem dX9_kept_37 : decode cX9_kept 37 = .ok (.istore_n 3, 1) := by decide +kernel
theorem dX9_kept_38 : decode cX9_kept 38 = .ok (.iload_n 3, 1) := by decide +kernel
theorem dX9_kept_39 : decode cX9_kept 39 = .ok (.iload_n 1, 1) := by decide +kernel
theorem dX9_kept_40 : decode cX9_kept 40 = .ok (.if_icmp .ge 20, 3) := by decide +kernel
theorem dX9_kept_43 : decode cX9_kept 43 = .ok (.aload_n 0, 1) := by decide +kernel
theorem dX9_kept_44 : decode cX9_kept 44 = .ok (.getfield 46, 3) := by decide +kernel
theorem dX9_kept_47 : decode cX9_kept 47 = .ok (.iconst 5, 1) := by decide +kernel
theorem dX9_kept_48 : decode cX9_kept 48 = .ok (.iload_n 3, 1) := by decide +kernel
theorem dX9_kept_49 : decode cX9_kept 49 = .ok (.imul, 1) := by decide +kernel
theorem dX9_kept_50 : decode cX9_kept 50 = .ok (.iload_n 2, 1) := by decide +kernel
theorem dX9_kept_51 : decode cX9_kept 51 = .ok (.iadd, 1) := by decide +kernel
theorem dX9_kept_52 : decode cX9_kept 52 = .ok (.iaload, 1) := by decide +kernel
theorem dX9_kept_53 : decode cX9_kept 53 = .ok (.istore_n 2, 1) := by decide +kernel
theorem dX9_kept_54 : decode cX9_kept 54 = .ok (.iinc 3 1, 3) := by decide +kernel
theorem dX9_kept_57 : decode cX9_kept 57 = .ok (.goto (-19), 3) := by decide +kernel
theorem dX9_kept_60 : decode cX9_kept 60 = .ok (.aload_n 0, 1) := by decide +kernel
theorem dX9_kept_61 : decode cX9_kept 61 = .ok (.getfield 46, 3) := by decide +kernel
theorem dX9_kept_64 : decode cX9_kept 64 = .ok (.iconst 5, 1) := by decide +kernel
theorem dX9_kept_65 : decode cX9_kept 65 = .ok (.iload_n 1, 1) := by decide +kernel
theorem dX9_kept_66 : decode cX9_kept 66 = .ok (.imul, 1) := by decide +kernel
theorem dX9_kept_67 : decode cX9_kept 67 = .ok (.iload_n 2, 1) := by decide +kernel
theorem dX9_kept_68 : decode cX9_kept 68 = .ok (.iadd, 1) := by decide +kernel
theorem dX9_kept_69 : decode cX9_kept 69 = .ok (.iaload, 1) := by decide +kernel
theorem dX9_kept_70 : decode cX9_kept 70 = .ok (.ireturn, 1) := by decide +kernel
theorem dX9_feed_0 : decode cX9_feed 0 = .ok (.iload_n 3, 1) := by decide +kernel
theorem dX9_feed_1 : decode cX9_feed 1 = .ok (.iconst 1, 1) := by decide +kernel
theorem dX9_feed_2 : decode cX9_feed 2 = .ok (.bipush 8, 2) := by decide +kernel
theorem dX9_feed_4 : decode cX9_feed 4 = .ok (.invokestatic 104, 3) := by decide +kernel
theorem dX9_feed_7 : decode cX9_feed 7 = .ok (.ifCond .ne 5, 3) := by decide +kernel
theorem dX9_feed_10 : decode cX9_feed 10 = .ok (.iconst (-1), 1) := by decide +kernel
theorem dX9_feed_11 : decode cX9_feed 11 = .ok (.ireturn, 1) := by decide +kernel
theorem dX9_feed_12 : decode cX9_feed 12 = .ok (.aload_n 0, 1) := by decide +kernel
theorem dX9_feed_13 : decode cX9_feed 13 = .ok (.getfield 169, 3) := by decide +kernel
theorem dX9_feed_16 : decode cX9_feed 16 = .ok (.iload_n 3, 1) := by decide +kernel
theorem dX9_feed_17 : decode cX9_feed 17 = .ok (.iadd, 1) := by decide +kernel
theorem dX9_feed_18 : decode cX9_feed 18 = .ok (.sipush 200, 3) := by decide +kernel
theorem dX9_feed_21 : decode cX9_feed 21 = .ok (.if_icmp .le 6, 3) := by decide +kernel
theorem dX9_feed_24 : decode cX9_feed 24 = .ok (.bipush (-2), 2) := by decide +kernel
theorem dX9_feed_26 : decode cX9_feed 26 = .ok (.ireturn, 1) := by decide +kernel
theorem dX9_feed_27 : decode cX9_feed 27 = .ok (.iconst 0, 1) := by decide +kernel
theorem dX9_feed_28 : decode cX9_feed 28 = .ok (.istore 4, 2) := by decide +kernel
theorem dX9_feed_30 : decode cX9_feed 30 = .ok (.iload 4, 2) := by decide +kernel
theorem dX9_feed_32 : decode cX9_feed 32 = .ok (.iload_n 3, 1) := by decide +kernel
theorem dX9_feed_33 : decode cX9_feed 33 = .ok (.if_icmp .ge 40, 3) := by decide +kernel
theorem dX9_feed_36 : decode cX9_feed 36 = .ok (.aload_n 0, 1) := by decide +kernel
theorem dX9_feed_37 : decode cX9_feed 37 = .ok (.getfield 56, 3) := by decide +kernel
theorem dX9_feed_40 : decode cX9_feed 40 = .ok (.aload_n 0, 1) := by decide +kernel
theorem dX9_feed_41 : decode cX9_feed 41 = .ok (.getfield 169, 3) := by decide +kernel
theorem dX9_feed_44 : decode cX9_feed 44 = .ok (.lload_n 1, 1) := by decide +kernel
theorem dX9_feed_45 : decode cX9_feed 45 = .ok (.bipush 8, 2) := by decide +kernel
theorem dX9_feed_47 : decode cX9_feed 47 = .ok (.iload 4, 2) := by decide +kernel
theorem dX9_feed_49 : decode cX9_feed 49 = .ok (.imul, 1) := by decide +kernel
theorem dX9_feed_50 : decode cX9_feed 50 = .ok (.lshr, 1) := by decide +kernel
theorem dX9_feed_51 : decode cX9_feed 51 = .ok (.ldc2_w 173, 3) := by decide +kernel
theorem dX9_feed_54 : decode cX9_feed 54 = .ok (.land, 1) := by decide +kernel
theorem dX9_feed_55 : decode cX9_feed 55 = .ok (.l2i, 1) := by decide +kernel
theorem dX9_feed_56 : decode cX9_feed 56 = .ok (.iastore, 1) := by decide +kernel
theorem dX9_feed_57 : decode cX9_feed 57 = .ok (.aload_n 0, 1) := by decide +kernel
theorem dX9_feed_58 : decode cX9_feed 58 = .ok (.dup, 1) := by decide +kernel
theorem dX9_feed_59 : decode cX9_feed 59 = .ok (.getfield 169, 3) := by decide +kernel
theorem dX9_feed_62 : decode cX9_feed 62 = .ok (.iconst 1, 1) := by decide +kernel
theorem dX9_feed_63 : decode cX9_feed 63 = .ok (.iadd, 1) := by decide +kernel
theorem dX9_feed_64 : decode cX9_feed 64 = .ok (.putfield 169, 3) := by decide +kernel
theorem dX9_feed_67 : decode cX9_feed 67 = .ok (.iinc 4 1, 3) := by decide +kernel
theorem dX9_feed_70 : decode cX9_feed 70 = .ok (.goto (-40), 3) := by decide +kernel
theorem dX9_feed_73 : decode cX9_feed 73 = .ok (.aload_n 0, 1) := by decide +kernel
theorem dX9_feed_74 : decode cX9_feed 74 = .ok (.getfield 169, 3) := by decide +kernel
theorem dX9_feed_77 : decode cX9_feed 77 = .ok (.ireturn, 1) := by decide +kernel
theorem dX9_isLetter_0 : decode cX9_isLetter 0 = .ok (.iload_n 1, 1) := by decide +kernel
theorem dX9_isLetter_1 : decode cX9_isLetter 1 = .ok (.aload_n 0, 1) := by decide +kernel
theorem dX9_isLetter_2 : decode cX9_isLetter 2 = .ok (.getfield 169, 3) := by decide +kernel
theorem dX9_isLetter_5 : decode cX9_isLetter 5 = .ok (.if_icmp .ge 23, 3) := by decide +kernel
theorem dX9_isLetter_8 : decode cX9_isLetter 8 = .ok (.aload_n 0, 1) := by decide +kernel
theorem dX9_isLetter_9 : decode cX9_isLetter 9 = .ok (.getfield 56, 3) := by decide +kernel
theorem dX9_isLetter_12 : decode cX9_isLetter 12 = .ok (.iload_n 1, 1) := by decide +kernel
theorem dX9_isLetter_13 : decode cX9_isLetter 13 = .ok (.iaload, 1) := by decide +kernel
theorem dX9_isLetter_14 : decode cX9_isLetter 14 = .ok (.bipush 97, 2) := by decide +kernel
theorem dX9_isLetter_16 : decode cX9_isLetter 16 = .ok (.bipush 122, 2) := by decide +kernel
theorem dX9_isLetter_18 : decode cX9_isLetter 18 = .ok (.invokestatic 104, 3) := by decide +kernel
theorem dX9_isLetter_21 : decode cX9_isLetter 21 = .ok (.ifCond .eq 7, 3) := by decide +kernel
theorem dX9_isLetter_24 : decode cX9_isLetter 24 = .ok (.iconst 1, 1) := by decide +kernel
theorem dX9_isLetter_25 : decode cX9_isLetter 25 = .ok (.goto 4, 3) := by decide +kernel
theorem dX9_isLetter_28 : decode cX9_isLetter 28 = .ok (.iconst 0, 1) := by decide +kernel
theorem dX9_isLetter_29 : decode cX9_isLetter 29 = .ok (.ireturn, 1) := by decide +kernel
theorem dX9_isDigit_0 : decode cX9_isDigit 0 = .ok (.iload_n 1, 1) := by decide +kernel
theorem dX9_isDigit_1 : decode cX9_isDigit 1 = .ok (.aload_n 0, 1) := by decide +kernel
theorem dX9_isDigit_2 : decode cX9_isDigit 2 = .ok (.getfield 169, 3) := by decide +kernel
theorem dX9_isDigit_5 : decode cX9_isDigit 5 = .ok (.if_icmp .ge 23, 3) := by decide +kernel
theorem dX9_isDigit_8 : decode cX9_isDigit 8 = .ok (.aload_n 0, 1) := by decide +kernel
theorem dX9_isDigit_9 : decode cX9_isDigit 9 = .ok (.getfield 56, 3) := by decide +kernel
theorem dX9_isDigit_12 : decode cX9_isDigit 12 = .ok (.iload_n 1, 1) := by decide +kernel
theorem dX9_isDigit_13 : decode cX9_isDigit 13 = .ok (.iaload, 1) := by decide +kernel
theorem dX9_isDigit_14 : decode cX9_isDigit 14 = .ok (.bipush 48, 2) := by decide +kernel
theorem dX9_isDigit_16 : decode cX9_isDigit 16 = .ok (.bipush 57, 2) := by decide +kernel
theorem dX9_isDigit_18 : decode cX9_isDigit 18 = .ok (.invokestatic 104, 3) := by decide +kernel
theorem dX9_isDigit_21 : decode cX9_isDigit 21 = .ok (.ifCond .eq 7, 3) := by decide +kernel
theorem dX9_isDigit_24 : decode cX9_isDigit 24 = .ok (.iconst 1, 1) := by decide +kernel
theorem dX9_isDigit_25 : decode cX9_isDigit 25 = .ok (.goto 4, 3) := by decide +kernel
theorem dX9_isDigit_28 : decode cX9_isDigit 28 = .ok (.iconst 0, 1) := by decide +kernel
theorem dX9_isDigit_29 : decode cX9_isDigit 29 = .ok (.ireturn, 1) := by decide +kernel
theorem dX9_next_0 : decode cX9_next 0 = .ok (.aload_n 0, 1) := by decide +kernel
theorem dX9_next_1 : decode cX9_next 1 = .ok (.aload_n 0, 1) := by decide +kernel
theorem dX9_next_2 : decode cX9_next 2 = .ok (.getfield 175, 3) := by decide +kernel
theorem dX9_next_5 : decode cX9_next 5 = .ok (.putfield 178, 3) := by decide +kernel
theorem dX9_next_8 : decode cX9_next 8 = .ok (.aload_n 0, 1) := by decide +kernel
theorem dX9_next_9 : decode cX9_next 9 = .ok (.getfield 178, 3) := by decide +kernel
theorem dX9_next_12 : decode cX9_next 12 = .ok (.aload_n 0, 1) := by decide +kernel
theorem dX9_next_13 : decode cX9_next 13 = .ok (.getfield 169, 3) := by decide +kernel
theorem dX9_next_16 : decode cX9_next 16 = .ok (.if_icmp .ge 30, 3) := by decide +kernel
theorem dX9_next_19 : decode cX9_next 19 = .ok (.aload_n 0, 1) := by decide +kernel
theorem dX9_next_20 : decode cX9_next 20 = .ok (.getfield 56, 3) := by decide +kernel
theorem dX9_next_23 : decode cX9_next 23 = .ok (.aload_n 0, 1) := by decide +kernel
theorem dX9_next_24 : decode cX9_next 24 = .ok (.getfield 178, 3) := by decide +kernel
theorem dX9_next_27 : decode cX9_next 27 = .ok (.iaload, 1) := by decide +kernel
theorem dX9_next_28 : decode cX9_next 28 = .ok (.bipush 32, 2) := by decide +kernel
theorem dX9_next_30 : decode cX9_next 30 = .ok (.if_icmp .ne 16, 3) := by decide +kernel
theorem dX9_next_33 : decode cX9_next 33 = .ok (.aload_n 0, 1) := by decide +kernel
theorem dX9_next_34 : decode cX9_next 34 = .ok (.dup, 1) := by decide +kernel
theorem dX9_next_35 : decode cX9_next 35 = .ok (.getfield 178, 3) := by decide +kernel
theorem dX9_next_38 : decode cX9_next 38 = .ok (.iconst 1, 1) := by decide +kernel
theorem dX9_next_39 : decode cX9_next 39 = .ok (.iadd, 1) := by decide +kernel
theorem dX9_next_40 : decode cX9_next 40 = .ok (.putfield 178, 3) := by decide +kernel
theorem dX9_next_43 : decode cX9_next 43 = .ok (.goto (-35), 3) := by decide +kernel
theorem dX9_next_46 : decode cX9_next 46 = .ok (.aload_n 0, 1) := by decide +kernel
theorem dX9_next_47 : decode cX9_next 47 = .ok (.aload_n 0, 1) := by decide +kernel
theorem dX9_next_48 : decode cX9_next 48 = .ok (.getfield 178, 3) := by decide +kernel
theorem dX9_next_51 : decode cX9_next 51 = .ok (.aload_n 0, 1) := by decide +kernel
theorem dX9_next_52 : decode cX9_next 52 = .ok (.getfield 169, 3) := by decide +kernel
theorem dX9_next_55 : decode cX9_next 55 = .ok (.if_icmp .ge 12, 3) := by decide +kernel
theorem dX9_next_58 : decode cX9_next 58 = .ok (.aload_n 0, 1) := by decide +kernel
theorem dX9_next_59 : decode cX9_next 59 = .ok (.getfield 178, 3) := by decide +kernel
theorem dX9_next_62 : decode cX9_next 62 = .ok (.iconst 1, 1) := by decide +kernel
theorem dX9_next_63 : decode cX9_next 63 = .ok (.iadd, 1) := by decide +kernel
theorem dX9_next_64 : decode cX9_next 64 = .ok (.goto 7, 3) := by decide +kernel
theorem dX9_next_67 : decode cX9_next 67 = .ok (.aload_n 0, 1) := by decide +kernel
theorem dX9_next_68 : decode cX9_next 68 = .ok (.getfield 178, 3) := by decide +kernel
theorem dX9_next_71 : decode cX9_next 71 = .ok (.putfield 175, 3) := by decide +kernel
theorem dX9_next_74 : decode cX9_next 74 = .ok (.aload_n 0, 1) := by decide +kernel
theorem dX9_next_75 : decode cX9_next 75 = .ok (.aload_n 0, 1) := by decide +kernel
theorem dX9_next_76 : decode cX9_next 76 = .ok (.getfield 178, 3) := by decide +kernel
theorem dX9_next_79 : decode cX9_next 79 = .ok (.invokevirtual 181, 3) := by decide +kernel
theorem dX9_next_82 : decode cX9_next 82 = .ok (.ifCond .eq 14, 3) := by decide +kernel
theorem dX9_next_85 : decode cX9_next 85 = .ok (.aload_n 0, 1) := by decide +kernel
theorem dX9_next_86 : decode cX9_next 86 = .ok (.aload_n 0, 1) := by decide +kernel
theorem dX9_next_87 : decode cX9_next 87 = .ok (.getfield 175, 3) := by decide +kernel
theorem dX9_next_90 : decode cX9_next 90 = .ok (.invokevirtual 181, 3) := by decide +kernel
theorem dX9_next_93 : decode cX9_next 93 = .ok (.ifCond .ne 25, 3) := by decide +kernel
theorem dX9_next_96 : decode cX9_next 96 = .ok (.aload_n 0, 1) := by decide +kernel
theorem dX9_next_97 : decode cX9_next 97 = .ok (.aload_n 0, 1) := by decide +kernel
theorem dX9_next_98 : decode cX9_next 98 = .ok (.getfield 178, 3) := by decide +kernel
theorem dX9_next_101 : decode cX9_next 101 = .ok (.invokevirtual 184, 3) := by decide +kernel
theorem dX9_next_104 : decode cX9_next 104 = .ok (.ifCond .eq 27, 3) := by decide +kernel
theorem dX9_next_107 : decode cX9_next 107 = .ok (.aload_n 0, 1) := by decide +kernel
theorem dX9_next_108 : decode cX9_next 108 = .ok (.aload_n 0, 1) := by decide +kernel
theorem dX9_next_109 : decode cX9_next 109 = .ok (.getfield 175, 3) := by decide +kernel
theorem dX9_next_112 : decode cX9_next 112 = .ok (.invokevirtual 184, 3) := by decide +kernel
theorem dX9_next_115 : decode cX9_next 115 = .ok (.ifCond .eq 16, 3) := by decide +kernel
theorem dX9_next_118 : decode cX9_next 118 = .ok (.aload_n 0, 1) := by decide +kernel
theorem dX9_next_119 : decode cX9_next 119 = .ok (.dup, 1) := by decide +kernel
theorem dX9_next_120 : decode cX9_next 120 = .ok (.getfield 175, 3) := by decide +kernel
theorem dX9_next_123 : decode cX9_next 123 = .ok (.iconst 1, 1) := by decide +kernel
theorem dX9_next_124 : decode cX9_next 124 = .ok (.iadd, 1) := by decide +kernel
theorem dX9_next_125 : decode cX9_next 125 = .ok (.putfield 175, 3) := by decide +kernel
theorem dX9_next_128 : decode cX9_next 128 = .ok (.goto (-54), 3) := by decide +kernel
theorem dX9_next_131 : decode cX9_next 131 = .ok (.return_, 1) := by decide +kernel
theorem dX9_need_0 : decode cX9_need 0 = .ok (.aload_n 0, 1) := by decide +kernel
theorem dX9_need_1 : decode cX9_need 1 = .ok (.aload_n 0, 1) := by decide +kernel
theorem dX9_need_2 : decode cX9_need 2 = .ok (.getfield 187, 3) := by decide +kernel
theorem dX9_need_5 : decode cX9_need 5 = .ok (.ifCond .ne 7, 3) := by decide +kernel
theorem dX9_need_8 : decode cX9_need 8 = .ok (.iload_n 1, 1) := by decide +kernel
theorem dX9_need_9 : decode cX9_need 9 = .ok (.ifCond .ne 7, 3) := by decide +kernel
theorem dX9_need_12 : decode cX9_need 12 = .ok (.iconst 1, 1) := by decide +kernel
theorem dX9_need_13 : decode cX9_need 13 = .ok (.goto 4, 3) := by decide +kernel
theorem dX9_need_16 : decode cX9_need 16 = .ok (.iconst 0, 1) := by decide +kernel
theorem dX9_need_17 : decode cX9_need 17 = .ok (.putfield 187, 3) := by decide +kernel
theorem dX9_need_20 : decode cX9_need 20 = .ok (.aload_n 0, 1) := by decide +kernel
theorem dX9_need_21 : decode cX9_need 21 = .ok (.getfield 187, 3) := by decide +kernel
theorem dX9_need_24 : decode cX9_need 24 = .ok (.ifCond .ne 7, 3) := by decide +kernel
theorem dX9_need_27 : decode cX9_need 27 = .ok (.aload_n 0, 1) := by decide +kernel
theorem dX9_need_28 : decode cX9_need 28 = .ok (.invokevirtual 191, 3) := by decide +kernel
theorem dX9_need_31 : decode cX9_need 31 = .ok (.return_, 1) := by decide +kernel
theorem dX9_isWord_0 : decode cX9_isWord 0 = .ok (.aload_n 0, 1) := by decide +kernel
theorem dX9_isWord_1 : decode cX9_isWord 1 = .ok (.getfield 187, 3) := by decide +kernel
theorem dX9_isWord_4 : decode cX9_isWord 4 = .ok (.ifCond .ne 23, 3) := by decide +kernel
theorem dX9_isWord_7 : decode cX9_isWord 7 = .ok (.aload_n 0, 1) := by decide +kernel
theorem dX9_isWord_8 : decode cX9_isWord 8 = .ok (.getfield 175, 3) := by decide +kernel
theorem dX9_isWord_11 : decode cX9_isWord 11 = .ok (.aload_n 0, 1) := by decide +kernel
theorem dX9_isWord_12 : decode cX9_isWord 12 = .ok (.getfield 178, 3) := by decide +kernel
theorem dX9_isWord_15 : decode cX9_isWord 15 = .ok (.isub, 1) := by decide +kernel
theorem dX9_isWord_16 : decode cX9_isWord 16 = .ok (.aload_n 1, 1) := by decide +kernel
theorem dX9_isWord_17 : decode cX9_isWord 17 = .ok (.invokevirtual 194, 3) := by decide +kernel
theorem dX9_isWord_20 : decode cX9_isWord 20 = .ok (.if_icmp .ne 7, 3) := by decide +kernel
theorem dX9_isWord_23 : decode cX9_isWord 23 = .ok (.iconst 1, 1) := by decide +kernel
theorem dX9_isWord_24 : decode cX9_isWord 24 = .ok (.goto 4, 3) := by decide +kernel
theorem dX9_isWord_27 : decode cX9_isWord 27 = .ok (.iconst 0, 1) := by decide +kernel
theorem dX9_isWord_28 : decode cX9_isWord 28 = .ok (.istore_n 2, 1) := by decide +kernel
theorem dX9_isWord_29 : decode cX9_isWord 29 = .ok (.iconst 0, 1) := by decide +kernel
theorem dX9_isWord_30 : decode cX9_isWord 30 = .ok (.istore_n 3, 1) := by decide +kernel
theorem dX9_isWord_31 : decode cX9_isWord 31 = .ok (.iload_n 2, 1) := by decide +kernel
theorem dX9_isWord_32 : decode cX9_isWord 32 = .ok (.ifCond .eq 42, 3) := by decide +kernel
theorem dX9_isWord_35 : decode cX9_isWord 35 = .ok (.iload_n 3, 1) := by decide +kernel
theorem dX9_isWord_36 : decode cX9_isWord 36 = .ok (.aload_n 1, 1) := by decide +kernel
theorem dX9_isWord_37 : decode cX9_isWord 37 = .ok (.invokevirtual 194, 3) := by decide +kernel
theorem dX9_isWord_40 : decode cX9_isWord 40 = .ok (.if_icmp .ge 34, 3) := by decide +kernel
theorem dX9_isWord_43 : decode cX9_isWord 43 = .ok (.aload_n 0, 1) := by decide +kernel
theorem dX9_isWord_44 : decode cX9_isWord 44 = .ok (.getfield 56, 3) := by decide +kernel
theorem dX9_isWord_47 : decode cX9_isWord 47 = .ok (.aload_n 0, 1) := by decide +kernel
theorem dX9_isWord_48 : decode cX9_isWord 48 = .ok (.getfield 178, 3) := by decide +kernel
theorem dX9_isWord_51 : decode cX9_isWord 51 = .ok (.iload_n 3, 1) := by decide +kernel
theorem dX9_isWord_52 : decode cX9_isWord 52 = .ok (.iadd, 1) := by decide +kernel
theorem dX9_isWord_53 : decode cX9_isWord 53 = .ok (.iaload, 1) := by decide +kernel
theorem dX9_isWord_54 : decode cX9_isWord 54 = .ok (.aload_n 1, 1) := by decide +kernel
theorem dX9_isWord_55 : decode cX9_isWord 55 = .ok (.iload_n 3, 1) := by decide +kernel
theorem dX9_isWord_56 : decode cX9_isWord 56 = .ok (.invokevirtual 199, 3) := by decide +kernel
theorem dX9_isWord_59 : decode cX9_isWord 59 = .ok (.if_icmp .ne 7, 3) := by decide +kernel
theorem dX9_isWord_62 : decode cX9_isWord 62 = .ok (.iconst 1, 1) := by decide +kernel
theorem dX9_isWord_63 : decode cX9_isWord 63 = .ok (.goto 4, 3) := by decide +kernel
theorem dX9_isWord_66 : decode cX9_isWord 66 = .ok (.iconst 0, 1) := by decide +kernel
theorem dX9_isWord_67 : decode cX9_isWord 67 = .ok (.istore_n 2, 1) := by decide +kernel
theorem dX9_isWord_68 : decode cX9_isWord 68 = .ok (.iinc 3 1, 3) := by decide +kernel
theorem dX9_isWord_71 : decode cX9_isWord 71 = .ok (.goto (-40), 3) := by decide +kernel
theorem dX9_isWord_74 : decode cX9_isWord 74 = .ok (.iload_n 2, 1) := by decide +kernel
theorem dX9_isWord_75 : decode cX9_isWord 75 = .ok (.ireturn, 1) := by decide +kernel
theorem dX9_number_0 : decode cX9_number 0 = .ok (.aload_n 0, 1) := by decide +kernel
theorem dX9_number_1 : decode cX9_number 1 = .ok (.getfield 187, 3) := by decide +kernel
theorem dX9_number_4 : decode cX9_number 4 = .ok (.ifCond .ne 31, 3) := by decide +kernel
theorem dX9_number_7 : decode cX9_number 7 = .ok (.aload_n 0, 1) := by decide +kernel
theorem dX9_number_8 : decode cX9_number 8 = .ok (.aload_n 0, 1) := by decide +kernel
theorem dX9_number_9 : decode cX9_number 9 = .ok (.getfield 178, 3) := by decide +kernel
theorem dX9_number_12 : decode cX9_number 12 = .ok (.invokevirtual 184, 3) := by decide +kernel
theorem dX9_number_15 : decode cX9_number 15 = .ok (.ifCond .eq 20, 3) := by decide +kernel
theorem dX9_number_18 : decode cX9_number 18 = .ok (.aload_n 0, 1) := by decide +kernel
theorem dX9_number_19 : decode cX9_number 19 = .ok (.getfield 175, 3) := by decide +kernel
theorem dX9_number_22 : decode cX9_number 22 = .ok (.aload_n 0, 1) := by decide +kernel
theorem dX9_number_23 : decode cX9_number 23 = .ok (.getfield 178, 3) := by decide +kernel
theorem dX9_number_26 : decode cX9_number 26 = .ok (.isub, 1) := by decide +kernel
theorem dX9_number_27 : decode cX9_number 27 = .ok (.iconst 3, 1) := by decide +kernel
theorem dX9_number_28 : decode cX9_number 28 = .ok (.if_icmp .gt 7, 3) := by decide +kernel
theorem dX9_number_31 : decode cX9_number 31 = .ok (.iconst 1, 1) := by decide +kernel
theorem dX9_number_32 : decode cX9_number 32 = .ok (.goto 4, 3) := by decide +kernel
theorem dX9_number_35 : decode cX9_number 35 = .ok (.iconst 0, 1) := by decide +kernel
theorem dX9_number_36 : decode cX9_number 36 = .ok (.istore_n 2, 1) := by decide +kernel
theorem dX9_number_37 : decode cX9_number 37 = .ok (.iconst 0, 1) := by decide +kernel
theorem dX9_number_38 : decode cX9_number 38 = .ok (.istore_n 3, 1) := by decide +kernel
theorem dX9_number_39 : decode cX9_number 39 = .ok (.aload_n 0, 1) := by decide +kernel
theorem dX9_number_40 : decode cX9_number 40 = .ok (.getfield 178, 3) := by decide +kernel
theorem dX9_number_43 : decode cX9_number 43 = .ok (.istore 4, 2) := by decide +kernel
theorem dX9_number_45 : decode cX9_number 45 = .ok (.iload_n 2, 1) := by decide +kernel
theorem dX9_number_46 : decode cX9_number 46 = .ok (.ifCond .eq 34, 3) := by decide +kernel
theorem dX9_number_49 : decode cX9_number 49 = .ok (.iload 4, 2) := by decide +kernel
theorem dX9_number_51 : decode cX9_number 51 = .ok (.aload_n 0, 1) := by decide +kernel
theorem dX9_number_52 : decode cX9_number 52 = .ok (.getfield 175, 3) := by decide +kernel
theorem dX9_number_55 : decode cX9_number 55 = .ok (.if_icmp .ge 25, 3) := by decide +kernel
theorem dX9_number_58 : decode cX9_number 58 = .ok (.bipush 10, 2) := by decide +kernel
theorem dX9_number_60 : decode cX9_number 60 = .ok (.iload_n 3, 1) := by decide +kernel
theorem dX9_number_61 : decode cX9_number 61 = .ok (.imul, 1) := by decide +kernel
theorem dX9_number_62 : decode cX9_number 62 = .ok (.aload_n 0, 1) := by decide +kernel
theorem dX9_number_63 : decode cX9_number 63 = .ok (.getfield 56, 3) := by decide +kernel
theorem dX9_number_66 : decode cX9_number 66 = .ok (.iload 4, 2) := by decide +kernel
theorem dX9_number_68 : decode cX9_number 68 = .ok (.iaload, 1) := by decide +kernel
theorem dX9_number_69 : decode cX9_number 69 = .ok (.iadd, 1) := by decide +kernel
theorem dX9_number_70 : decode cX9_number 70 = .ok (.bipush 48, 2) := by decide +kernel
theorem dX9_number_72 : decode cX9_number 72 = .ok (.isub, 1) := by decide +kernel
theorem dX9_number_73 : decode cX9_number 73 = .ok (.istore_n 3, 1) := by decide +kernel
theorem dX9_number_74 : decode cX9_number 74 = .ok (.iinc 4 1, 3) := by decide +kernel
theorem dX9_number_77 : decode cX9_number 77 = .ok (.goto (-32), 3) := by decide +kernel
theorem dX9_number_80 : decode cX9_number 80 = .ok (.aload_n 0, 1) := by decide +kernel
theorem dX9_number_81 : decode cX9_number 81 = .ok (.iload_n 2, 1) := by decide +kernel
theorem dX9_number_82 : decode cX9_number 82 = .ok (.ifCond .eq 12, 3) := by decide +kernel
theorem dX9_number_85 : decode cX9_number 85 = .ok (.iload_n 3, 1) := by decide +kernel
theorem dX9_number_86 : decode cX9_number 86 = .ok (.iload_n 1, 1) := by decide +kernel
theorem dX9_number_87 : decode cX9_number 87 = .ok (.if_icmp .gt 7, 3) := by decide +kernel
theorem dX9_number_90 : decode cX9_number 90 = .ok (.iconst 1, 1) := by decide +kernel
theorem dX9_number_91 : decode cX9_number 91 = .ok (.goto 4, 3) := by decide +kernel
theorem dX9_number_94 : decode cX9_number 94 = .ok (.iconst 0, 1) := by decide +kernel
theorem dX9_number_95 : decode cX9_number 95 = .ok (.invokevirtual 203, 3) := by decide +kernel
theorem dX9_number_98 : decode cX9_number 98 = .ok (.iload_n 3, 1) := by decide +kernel
theorem dX9_number_99 : decode cX9_number 99 = .ok (.ireturn, 1) := by decide +kernel
theorem dX9_put_0 : decode cX9_put 0 = .ok (.aload_n 0, 1) := by decide +kernel
theorem dX9_put_1 : decode cX9_put 1 = .ok (.getfield 187, 3) := by decide +kernel
theorem dX9_put_4 : decode cX9_put 4 = .ok (.ifCond .ne 23, 3) := by decide +kernel
theorem dX9_put_7 : decode cX9_put 7 = .ok (.aload_n 0, 1) := by decide +kernel
theorem dX9_put_8 : decode cX9_put 8 = .ok (.getfield 59, 3) := by decide +kernel
theorem dX9_put_11 : decode cX9_put 11 = .ok (.aload_n 0, 1) := by decide +kernel
theorem dX9_put_12 : decode cX9_put 12 = .ok (.getfield 207, 3) := by decide +kernel
theorem dX9_put_15 : decode cX9_put 15 = .ok (.iload_n 1, 1) := by decide +kernel
theorem dX9_put_16 : decode cX9_put 16 = .ok (.iastore, 1) := by decide +kernel
theorem dX9_put_17 : decode cX9_put 17 = .ok (.aload_n 0, 1) := by decide +kernel
theorem dX9_put_18 : decode cX9_put 18 = .ok (.dup, 1) := by decide +kernel
theorem dX9_put_19 : decode cX9_put 19 = .ok (.getfield 207, 3) := by decide +kernel
theorem dX9_put_22 : decode cX9_put 22 = .ok (.iconst 1, 1) := by decide +kernel
theorem dX9_put_23 : decode cX9_put 23 = .ok (.iadd, 1) := by decide +kernel
theorem dX9_put_24 : decode cX9_put 24 = .ok (.putfield 207, 3) := by decide +kernel
theorem dX9_put_27 : decode cX9_put 27 = .ok (.return_, 1) := by decide +kernel
theorem dX9_value_0 : decode cX9_value 0 = .ok (.aload_n 0, 1) := by decide +kernel
theorem dX9_value_1 : decode cX9_value 1 = .ok (.ldc 210, 2) := by decide +kernel
theorem dX9_value_3 : decode cX9_value 3 = .ok (.invokevirtual 212, 3) := by decide +kernel
theorem dX9_value_6 : decode cX9_value 6 = .ok (.ifCond .eq 9, 3) := by decide +kernel
theorem dX9_value_9 : decode cX9_value 9 = .ok (.sipush 2000, 3) := by decide +kernel
theorem dX9_value_12 : decode cX9_value 12 = .ok (.goto 34, 3) := by decide +kernel
theorem dX9_value_15 : decode cX9_value 15 = .ok (.aload_n 0, 1) := by decide +kernel
theorem dX9_value_16 : decode cX9_value 16 = .ok (.ldc 216, 2) := by decide +kernel
theorem dX9_value_18 : decode cX9_value 18 = .ok (.invokevirtual 212, 3) := by decide +kernel
theorem dX9_value_21 : decode cX9_value 21 = .ok (.ifCond .eq 9, 3) := by decide +kernel
theorem dX9_value_24 : decode cX9_value 24 = .ok (.sipush 2001, 3) := by decide +kernel
theorem dX9_value_27 : decode cX9_value 27 = .ok (.goto 19, 3) := by decide +kernel
theorem dX9_value_30 : decode cX9_value 30 = .ok (.aload_n 0, 1) := by decide +kernel
theorem dX9_value_31 : decode cX9_value 31 = .ok (.ldc 217, 2) := by decide +kernel
theorem dX9_value_33 : decode cX9_value 33 = .ok (.invokevirtual 212, 3) := by decide +kernel
theorem dX9_value_36 : decode cX9_value 36 = .ok (.ifCond .eq 9, 3) := by decide +kernel
theorem dX9_value_39 : decode cX9_value 39 = .ok (.sipush 2002, 3) := by decide +kernel
theorem dX9_value_42 : decode cX9_value 42 = .ok (.goto 4, 3) := by decide +kernel
theorem dX9_value_45 : decode cX9_value 45 = .ok (.iconst 0, 1) := by decide +kernel
theorem dX9_value_46 : decode cX9_value 46 = .ok (.istore_n 1, 1) := by decide +kernel
theorem dX9_value_47 : decode cX9_value 47 = .ok (.iload_n 1, 1) := by decide +kernel
theorem dX9_value_48 : decode cX9_value 48 = .ok (.ifCond .le 15, 3) := by decide +kernel
theorem dX9_value_51 : decode cX9_value 51 = .ok (.aload_n 0, 1) := by decide +kernel
theorem dX9_value_52 : decode cX9_value 52 = .ok (.invokevirtual 191, 3) := by decide +kernel
theorem dX9_value_55 : decode cX9_value 55 = .ok (.aload_n 0, 1) := by decide +kernel
theorem dX9_value_56 : decode cX9_value 56 = .ok (.iload_n 1, 1) := by decide +kernel
theorem dX9_value_57 : decode cX9_value 57 = .ok (.invokevirtual 218, 3) := by decide +kernel
theorem dX9_value_60 : decode cX9_value 60 = .ok (.goto 14, 3) := by decide +kernel
theorem dX9_value_63 : decode cX9_value 63 = .ok (.aload_n 0, 1) := by decide +kernel
theorem dX9_value_64 : decode cX9_value 64 = .ok (.aload_n 0, 1) := by decide +kernel
theorem dX9_value_65 : decode cX9_value 65 = .ok (.sipush 999, 3) := by decide +kernel
theorem dX9_value_68 : decode cX9_value 68 = .ok (.invokevirtual 221, 3) := by decide +kernel
theorem dX9_value_71 : decode cX9_value 71 = .ok (.invokevirtual 218, 3) := by decide +kernel
theorem dX9_value_74 : decode cX9_value 74 = .ok (.return_, 1) := by decide +kernel
theorem dX9_one_0 : decode cX9_one 0 = .ok (.iconst 0, 1) := by decide +kernel
theorem dX9_one_1 : decode cX9_one 1 = .ok (.istore_n 1, 1) := by decide +kernel
theorem dX9_one_2 : decode cX9_one 2 = .ok (.aload_n 0, 1) := by decide +kernel
theorem dX9_one_3 : decode cX9_one 3 = .ok (.ldc 224, 2) := by decide +kernel
theorem dX9_one_5 : decode cX9_one 5 = .ok (.invokevirtual 212, 3) := by decide +kernel
theorem dX9_one_8 : decode cX9_one 8 = .ok (.ifCond .eq 13, 3) := by decide +kernel
theorem dX9_one_11 : decode cX9_one 11 = .ok (.aload_n 0, 1) := by decide +kernel
theorem dX9_one_12 : decode cX9_one 12 = .ok (.invokevirtual 191, 3) := by decide +kernel
theorem dX9_one_15 : decode cX9_one 15 = .ok (.iinc 1 1, 3) := by decide +kernel
theorem dX9_one_18 : decode cX9_one 18 = .ok (.goto (-16), 3) := by decide +kernel
theorem dX9_one_21 : decode cX9_one 21 = .ok (.aload_n 0, 1) := by decide +kernel
theorem dX9_one_22 : decode cX9_one 22 = .ok (.ldc 226, 2) := by decide +kernel
theorem dX9_one_24 : decode cX9_one 24 = .ok (.invokevirtual 212, 3) := by decide +kernel
theorem dX9_one_27 : decode cX9_one 27 = .ok (.ifCond .eq 57, 3) := by decide +kernel
theorem dX9_one_30 : decode cX9_one 30 = .ok (.aload_n 0, 1) := by decide +kernel
theorem dX9_one_31 : decode cX9_one 31 = .ok (.aload_n 0, 1) := by decide +kernel
theorem dX9_one_32 : decode cX9_one 32 = .ok (.getfield 228, 3) := by decide +kernel
theorem dX9_one_35 : decode cX9_one 35 = .ok (.iconst 3, 1) := by decide +kernel
theorem dX9_one_36 : decode cX9_one 36 = .ok (.if_icmp .ge 7, 3) := by decide +kernel
theorem dX9_one_39 : decode cX9_one 39 = .ok (.iconst 1, 1) := by decide +kernel
theorem dX9_one_40 : decode cX9_one 40 = .ok (.goto 4, 3) := by decide +kernel
theorem dX9_one_43 : decode cX9_one 43 = .ok (.iconst 0, 1) := by decide +kernel
theorem dX9_one_44 : decode cX9_one 44 = .ok (.invokevirtual 203, 3) := by decide +kernel
theorem dX9_one_47 : decode cX9_one 47 = .ok (.aload_n 0, 1) := by decide +kernel
theorem dX9_one_48 : decode cX9_one 48 = .ok (.dup, 1) := by decide +kernel
theorem dX9_one_49 : decode cX9_one 49 = .ok (.getfield 228, 3) := by decide +kernel
theorem dX9_one_52 : decode cX9_one 52 = .ok (.iconst 1, 1) := by decide +kernel
theorem dX9_one_53 : decode cX9_one 53 = .ok (.iadd, 1) := by decide +kernel
theorem dX9_one_54 : decode cX9_one 54 = .ok (.putfield 228, 3) := by decide +kernel
theorem dX9_one_57 : decode cX9_one 57 = .ok (.aload_n 0, 1) := by decide +kernel
theorem dX9_one_58 : decode cX9_one 58 = .ok (.invokevirtual 231, 3) := by decide +kernel
theorem dX9_one_61 : decode cX9_one 61 = .ok (.aload_n 0, 1) := by decide +kernel
theorem dX9_one_62 : decode cX9_one 62 = .ok (.aload_n 0, 1) := by decide +kernel
theorem dX9_one_63 : decode cX9_one 63 = .ok (.ldc 234, 2) := by decide +kernel
theorem dX9_one_65 : decode cX9_one 65 = .ok (.invokevirtual 212, 3) := by decide +kernel
theorem dX9_one_68 : decode cX9_one 68 = .ok (.invokevirtual 203, 3) := by decide +kernel
theorem dX9_one_71 : decode cX9_one 71 = .ok (.aload_n 0, 1) := by decide +kernel
theorem dX9_one_72 : decode cX9_one 72 = .ok (.dup, 1) := by decide +kernel
theorem dX9_one_73 : decode cX9_one 73 = .ok (.getfield 228, 3) := by decide +kernel
theorem dX9_one_76 : decode cX9_one 76 = .ok (.iconst 1, 1) := by decide +kernel
theorem dX9_one_77 : decode cX9_one 77 = .ok (.isub, 1) := by decide +kernel
theorem dX9_one_78 : decode cX9_one 78 = .ok (.putfield 228, 3) := by decide +kernel
theorem dX9_one_81 : decode cX9_one 81 = .ok (.goto 83, 3) := by decide +kernel
theorem dX9_one_84 : decode cX9_one 84 = .ok (.aload_n 0, 1) := by decide +kernel
theorem dX9_one_85 : decode cX9_one 85 = .ok (.invokevirtual 236, 3) := by decide +kernel
theorem dX9_one_88 : decode cX9_one 88 = .ok (.aload_n 0, 1) := by decide +kernel
theorem dX9_one_89 : decode cX9_one 89 = .ok (.ldc 239, 2) := by decide +kernel
theorem dX9_one_91 : decode cX9_one 91 = .ok (.invokevirtual 212, 3) := by decide +kernel
theorem dX9_one_94 : decode cX9_one 94 = .ok (.ifCond .eq 9, 3) := by decide +kernel
theorem dX9_one_97 : decode cX9_one 97 = .ok (.sipush 2003, 3) := by decide +kernel
theorem dX9_one_100 : decode cX9_one 100 = .ok (.goto 34, 3) := by decide +kernel
theorem dX9_one_103 : decode cX9_one 103 = .ok (.aload_n 0, 1) := by decide +kernel
theorem dX9_one_104 : decode cX9_one 104 = .ok (.ldc 241, 2) := by decide +kernel
theorem dX9_one_106 : decode cX9_one 106 = .ok (.invokevirtual 212, 3) := by decide +kernel
theorem dX9_one_109 : decode cX9_one 109 = .ok (.ifCond .eq 9, 3) := by decide +kernel
theorem dX9_one_112 : decode cX9_one 112 = .ok (.sipush 2004, 3) := by decide +kernel
theorem dX9_one_115 : decode cX9_one 115 = .ok (.goto 19, 3) := by decide +kernel
theorem dX9_one_118 : decode cX9_one 118 = .ok (.aload_n 0, 1) := by decide +kernel
theorem dX9_one_119 : decode cX9_one 119 = .ok (.ldc 243, 2) := by decide +kernel
theorem dX9_one_121 : decode cX9_one 121 = .ok (.invokevirtual 212, 3) := by decide +kernel
theorem dX9_one_124 : decode cX9_one 124 = .ok (.ifCond .eq 9, 3) := by decide +kernel
theorem dX9_one_127 : decode cX9_one 127 = .ok (.sipush 2005, 3) := by decide +kernel
theorem dX9_one_130 : decode cX9_one 130 = .ok (.goto 4, 3) := by decide +kernel
theorem dX9_one_133 : decode cX9_one 133 = .ok (.iconst 0, 1) := by decide +kernel
theorem dX9_one_134 : decode cX9_one 134 = .ok (.istore_n 2, 1) := by decide +kernel
theorem dX9_one_135 : decode cX9_one 135 = .ok (.aload_n 0, 1) := by decide +kernel
theorem dX9_one_136 : decode cX9_one 136 = .ok (.iload_n 2, 1) := by decide +kernel
theorem dX9_one_137 : decode cX9_one 137 = .ok (.ifCond .le 7, 3) := by decide +kernel
theorem dX9_one_140 : decode cX9_one 140 = .ok (.iconst 1, 1) := by decide +kernel
theorem dX9_one_141 : decode cX9_one 141 = .ok (.goto 4, 3) := by decide +kernel
theorem dX9_one_144 : decode cX9_one 144 = .ok (.iconst 0, 1) := by decide +kernel
theorem dX9_one_145 : decode cX9_one 145 = .ok (.invokevirtual 203, 3) := by decide +kernel
theorem dX9_one_148 : decode cX9_one 148 = .ok (.aload_n 0, 1) := by decide +kernel
theorem dX9_one_149 : decode cX9_one 149 = .ok (.getfield 187, 3) := by decide +kernel
theorem dX9_one_152 : decode cX9_one 152 = .ok (.ifCond .ne 7, 3) := by decide +kernel
theorem dX9_one_155 : decode cX9_one 155 = .ok (.aload_n 0, 1) := by decide +kernel
theorem dX9_one_156 : decode cX9_one 156 = .ok (.invokevirtual 236, 3) := by decide +kernel
theorem dX9_one_159 : decode cX9_one 159 = .ok (.aload_n 0, 1) := by decide +kernel
theorem dX9_one_160 : decode cX9_one 160 = .ok (.iload_n 2, 1) := by decide +kernel
theorem dX9_one_161 : decode cX9_one 161 = .ok (.invokevirtual 218, 3) := by decide +kernel
theorem dX9_one_164 : decode cX9_one 164 = .ok (.iload_n 1, 1) := by decide +kernel
theorem dX9_one_165 : decode cX9_one 165 = .ok (.iconst 2, 1) := by decide +kernel
theorem dX9_one_166 : decode cX9_one 166 = .ok (.irem, 1) := by decide +kernel
theorem dX9_one_167 : decode cX9_one 167 = .ok (.iconst 1, 1) := by decide +kernel
theorem dX9_one_168 : decode cX9_one 168 = .ok (.if_icmp .ne 10, 3) := by decide +kernel
theorem dX9_one_171 : decode cX9_one 171 = .ok (.aload_n 0, 1) := by decide +kernel
theorem dX9_one_172 : decode cX9_one 172 = .ok (.sipush 2006, 3) := by decide +kernel
theorem dX9_one_175 : decode cX9_one 175 = .ok (.invokevirtual 218, 3) := by decide +kernel
theorem dX9_one_178 : decode cX9_one 178 = .ok (.return_, 1) := by decide +kernel
theorem dX9_all_0 : decode cX9_all 0 = .ok (.aload_n 0, 1) := by decide +kernel
theorem dX9_all_1 : decode cX9_all 1 = .ok (.invokevirtual 245, 3) := by decide +kernel
theorem dX9_all_4 : decode cX9_all 4 = .ok (.aload_n 0, 1) := by decide +kernel
theorem dX9_all_5 : decode cX9_all 5 = .ok (.ldc 248, 2) := by decide +kernel
theorem dX9_all_7 : decode cX9_all 7 = .ok (.invokevirtual 212, 3) := by decide +kernel
theorem dX9_all_10 : decode cX9_all 10 = .ok (.ifCond .eq 21, 3) := by decide +kernel
theorem dX9_all_13 : decode cX9_all 13 = .ok (.aload_n 0, 1) := by decide +kernel
theorem dX9_all_14 : decode cX9_all 14 = .ok (.invokevirtual 191, 3) := by decide +kernel
theorem dX9_all_17 : decode cX9_all 17 = .ok (.aload_n 0, 1) := by decide +kernel
theorem dX9_all_18 : decode cX9_all 18 = .ok (.invokevirtual 245, 3) := by decide +kernel
theorem dX9_all_21 : decode cX9_all 21 = .ok (.aload_n 0, 1) := by decide +kernel
theorem dX9_all_22 : decode cX9_all 22 = .ok (.sipush 2007, 3) := by decide +kernel
theorem dX9_all_25 : decode cX9_all 25 = .ok (.invokevirtual 218, 3) := by decide +kernel
theorem dX9_all_28 : decode cX9_all 28 = .ok (.goto (-24), 3) := by decide +kernel
theorem dX9_all_31 : decode cX9_all 31 = .ok (.return_, 1) := by decide +kernel
theorem dX9_cond_0 : decode cX9_cond 0 = .ok (.aload_n 0, 1) := by decide +kernel
theorem dX9_cond_1 : decode cX9_cond 1 = .ok (.invokevirtual 250, 3) := by decide +kernel
theorem dX9_cond_4 : decode cX9_cond 4 = .ok (.aload_n 0, 1) := by decide +kernel
theorem dX9_cond_5 : decode cX9_cond 5 = .ok (.ldc 253, 2) := by decide +kernel
theorem dX9_cond_7 : decode cX9_cond 7 = .ok (.invokevirtual 212, 3) := by decide +kernel
theorem dX9_cond_10 : decode cX9_cond 10 = .ok (.ifCond .eq 21, 3) := by decide +kernel
theorem dX9_cond_13 : decode cX9_cond 13 = .ok (.aload_n 0, 1) := by decide +kernel
theorem dX9_cond_14 : decode cX9_cond 14 = .ok (.invokevirtual 191, 3) := by decide +kernel
theorem dX9_cond_17 : decode cX9_cond 17 = .ok (.aload_n 0, 1) := by decide +kernel
theorem dX9_cond_18 : decode cX9_cond 18 = .ok (.invokevirtual 250, 3) := by decide +kernel
theorem dX9_cond_21 : decode cX9_cond 21 = .ok (.aload_n 0, 1) := by decide +kernel
theorem dX9_cond_22 : decode cX9_cond 22 = .ok (.sipush 2008, 3) := by decide +kernel
theorem dX9_cond_25 : decode cX9_cond 25 = .ok (.invokevirtual 218, 3) := by decide +kernel
theorem dX9_cond_28 : decode cX9_cond 28 = .ok (.goto (-24), 3) := by decide +kernel
theorem dX9_cond_31 : decode cX9_cond 31 = .ok (.return_, 1) := by decide +kernel
theorem dX9_line_0 : decode cX9_line 0 = .ok (.aload_n 0, 1) := by decide +kernel
theorem dX9_line_1 : decode cX9_line 1 = .ok (.aload_n 0, 1) := by decide +kernel
theorem dX9_line_2 : decode cX9_line 2 = .ok (.ldc 255, 2) := by decide +kernel
theorem dX9_line_4 : decode cX9_line 4 = .ok (.invokevirtual 212, 3) := by decide +kernel
theorem dX9_line_7 : decode cX9_line 7 = .ok (.ifCond .eq 13, 3) := by decide +kernel
theorem dX9_line_10 : decode cX9_line 10 = .ok (.iload_n 1, 1) := by decide +kernel
theorem dX9_line_11 : decode cX9_line 11 = .ok (.bipush 8, 2) := by decide +kernel
theorem dX9_line_13 : decode cX9_line 13 = .ok (.if_icmp .ge 7, 3) := by decide +kernel
theorem dX9_line_16 : decode cX9_line 16 = .ok (.iconst 1, 1) := by decide +kernel
theorem dX9_line_17 : decode cX9_line 17 = .ok (.goto 4, 3) := by decide +kernel
theorem dX9_line_20 : decode cX9_line 20 = .ok (.iconst 0, 1) := by decide +kernel
theorem dX9_line_21 : decode cX9_line 21 = .ok (.invokevirtual 203, 3) := by decide +kernel
theorem dX9_line_24 : decode cX9_line 24 = .ok (.aload_n 0, 1) := by decide +kernel
theorem dX9_line_25 : decode cX9_line 25 = .ok (.iconst 5, 1) := by decide +kernel
theorem dX9_line_26 : decode cX9_line 26 = .ok (.invokevirtual 221, 3) := by decide +kernel
theorem dX9_line_29 : decode cX9_line 29 = .ok (.istore_n 2, 1) := by decide +kernel
theorem dX9_line_30 : decode cX9_line 30 = .ok (.aload_n 0, 1) := by decide +kernel
theorem dX9_line_31 : decode cX9_line 31 = .ok (.bipush 99, 2) := by decide +kernel
theorem dX9_line_33 : decode cX9_line 33 = .ok (.invokevirtual 221, 3) := by decide +kernel
theorem dX9_line_36 : decode cX9_line 36 = .ok (.istore_n 3, 1) := by decide +kernel
theorem dX9_line_37 : decode cX9_line 37 = .ok (.aload_n 0, 1) := by decide +kernel
theorem dX9_line_38 : decode cX9_line 38 = .ok (.getfield 207, 3) := by decide +kernel
theorem dX9_line_41 : decode cX9_line 41 = .ok (.istore 4, 2) := by decide +kernel
theorem dX9_line_43 : decode cX9_line 43 = .ok (.aload_n 0, 1) := by decide +kernel
theorem dX9_line_44 : decode cX9_line 44 = .ok (.ldc_w 257, 3) := by decide +kernel
theorem dX9_line_47 : decode cX9_line 47 = .ok (.invokevirtual 212, 3) := by decide +kernel
theorem dX9_line_50 : decode cX9_line 50 = .ok (.ifCond .eq 11, 3) := by decide +kernel
theorem dX9_line_53 : decode cX9_line 53 = .ok (.aload_n 0, 1) := by decide +kernel
theorem dX9_line_54 : decode cX9_line 54 = .ok (.invokevirtual 191, 3) := by decide +kernel
theorem dX9_line_57 : decode cX9_line 57 = .ok (.aload_n 0, 1) := by decide +kernel
theorem dX9_line_58 : decode cX9_line 58 = .ok (.invokevirtual 231, 3) := by decide +kernel
theorem dX9_line_61 : decode cX9_line 61 = .ok (.aload_n 0, 1) := by decide +kernel
theorem dX9_line_62 : decode cX9_line 62 = .ok (.aload_n 0, 1) := by decide +kernel
theorem dX9_line_63 : decode cX9_line 63 = .ok (.ldc_w 259, 3) := by decide +kernel
theorem dX9_line_66 : decode cX9_line 66 = .ok (.invokevirtual 212, 3) := by decide +kernel
theorem dX9_line_69 : decode cX9_line 69 = .ok (.invokevirtual 203, 3) := by decide +kernel
theorem dX9_line_72 : decode cX9_line 72 = .ok (.aload_n 0, 1) := by decide +kernel
theorem dX9_line_73 : decode cX9_line 73 = .ok (.getfield 187, 3) := by decide +kernel
theorem dX9_line_76 : decode cX9_line 76 = .ok (.ifCond .ne 49, 3) := by decide +kernel
theorem dX9_line_79 : decode cX9_line 79 = .ok (.aload_n 0, 1) := by decide +kernel
theorem dX9_line_80 : decode cX9_line 80 = .ok (.getfield 62, 3) := by decide +kernel
theorem dX9_line_83 : decode cX9_line 83 = .ok (.iconst 4, 1) := by decide +kernel
theorem dX9_line_84 : decode cX9_line 84 = .ok (.iload_n 1, 1) := by decide +kernel
theorem dX9_line_85 : decode cX9_line 85 = .ok (.imul, 1) := by decide +kernel
theorem dX9_line_86 : decode cX9_line 86 = .ok (.iload_n 2, 1) := by decide +kernel
theorem dX9_line_87 : decode cX9_line 87 = .ok (.iastore, 1) := by decide +kernel
theorem dX9_line_88 : decode cX9_line 88 = .ok (.aload_n 0, 1) := by decide +kernel
theorem dX9_line_89 : decode cX9_line 89 = .ok (.getfield 62, 3) := by decide +kernel
theorem dX9_line_92 : decode cX9_line 92 = .ok (.iconst 4, 1) := by decide +kernel
theorem dX9_line_93 : decode cX9_line 93 = .ok (.iload_n 1, 1) := by decide +kernel
theorem dX9_line_94 : decode cX9_line 94 = .ok (.imul, 1) := by decide +kernel
theorem dX9_line_95 : decode cX9_line 95 = .ok (.iconst 1, 1) := by decide +kernel
theorem dX9_line_96 : decode cX9_line 96 = .ok (.iadd, 1) := by decide +kernel
theorem dX9_line_97 : decode cX9_line 97 = .ok (.iload_n 3, 1) := by decide +kernel
theorem dX9_line_98 : decode cX9_line 98 = .ok (.iastore, 1) := by decide +kernel
theorem dX9_line_99 : decode cX9_line 99 = .ok (.aload_n 0, 1) := by decide +kernel
theorem dX9_line_100 : decode cX9_line 100 = .ok (.getfield 62, 3) := by decide +kernel
theorem dX9_line_103 : decode cX9_line 103 = .ok (.iconst 4, 1) := by decide +kernel
theorem dX9_line_104 : decode cX9_line 104 = .ok (.iload_n 1, 1) := by decide +kernel
theorem dX9_line_105 : decode cX9_line 105 = .ok (.imul, 1) := by decide +kernel
theorem dX9_line_106 : decode cX9_line 106 = .ok (.iconst 2, 1) := by decide +kernel
theorem dX9_line_107 : decode cX9_line 107 = .ok (.iadd, 1) := by decide +kernel
theorem dX9_line_108 : decode cX9_line 108 = .ok (.iload 4, 2) := by decide +kernel
theorem dX9_line_110 : decode cX9_line 110 = .ok (.iastore, 1) := by decide +kernel
theorem dX9_line_111 : decode cX9_line 111 = .ok (.aload_n 0, 1) := by decide +kernel
theorem dX9_line_112 : decode cX9_line 112 = .ok (.getfield 62, 3) := by decide +kernel
theorem dX9_line_115 : decode cX9_line 115 = .ok (.iconst 4, 1) := by decide +kernel
theorem dX9_line_116 : decode cX9_line 116 = .ok (.iload_n 1, 1) := by decide +kernel
theorem dX9_line_117 : decode cX9_line 117 = .ok (.imul, 1) := by decide +kernel
theorem dX9_line_118 : decode cX9_line 118 = .ok (.iconst 3, 1) := by decide +kernel
theorem dX9_line_119 : decode cX9_line 119 = .ok (.iadd, 1) := by decide +kernel
theorem dX9_line_120 : decode cX9_line 120 = .ok (.aload_n 0, 1) := by decide +kernel
theorem dX9_line_121 : decode cX9_line 121 = .ok (.getfield 207, 3) := by decide +kernel
theorem dX9_line_124 : decode cX9_line 124 = .ok (.iastore, 1) := by decide +kernel
theorem dX9_line_125 : decode cX9_line 125 = .ok (.return_, 1) := by decide +kernel
theorem dX9_read_0 : decode cX9_read 0 = .ok (.aload_n 0, 1) := by decide +kernel
theorem dX9_read_1 : decode cX9_read 1 = .ok (.iconst 0, 1) := by decide +kernel
theorem dX9_read_2 : decode cX9_read 2 = .ok (.putfield 175, 3) := by decide +kernel
theorem dX9_read_5 : decode cX9_read 5 = .ok (.aload_n 0, 1) := by decide +kernel
theorem dX9_read_6 : decode cX9_read 6 = .ok (.iconst 0, 1) := by decide +kernel
theorem dX9_read_7 : decode cX9_read 7 = .ok (.putfield 187, 3) := by decide +kernel
theorem dX9_read_10 : decode cX9_read 10 = .ok (.aload_n 0, 1) := by decide +kernel
theorem dX9_read_11 : decode cX9_read 11 = .ok (.iconst 0, 1) := by decide +kernel
theorem dX9_read_12 : decode cX9_read 12 = .ok (.putfield 228, 3) := by decide +kernel
theorem dX9_read_15 : decode cX9_read 15 = .ok (.aload_n 0, 1) := by decide +kernel
theorem dX9_read_16 : decode cX9_read 16 = .ok (.iconst 0, 1) := by decide +kernel
theorem dX9_read_17 : decode cX9_read 17 = .ok (.putfield 207, 3) := by decide +kernel
theorem dX9_read_20 : decode cX9_read 20 = .ok (.iconst 0, 1) := by decide +kernel
theorem dX9_read_21 : decode cX9_read 21 = .ok (.istore_n 1, 1) := by decide +kernel
theorem dX9_read_22 : decode cX9_read 22 = .ok (.aload_n 0, 1) := by decide +kernel
theorem dX9_read_23 : decode cX9_read 23 = .ok (.invokevirtual 191, 3) := by decide +kernel
theorem dX9_read_26 : decode cX9_read 26 = .ok (.aload_n 0, 1) := by decide +kernel
theorem dX9_read_27 : decode cX9_read 27 = .ok (.getfield 187, 3) := by decide +kernel
theorem dX9_read_30 : decode cX9_read 30 = .ok (.ifCond .ne 25, 3) := by decide +kernel
theorem dX9_read_33 : decode cX9_read 33 = .ok (.aload_n 0, 1) := by decide +kernel
theorem dX9_read_34 : decode cX9_read 34 = .ok (.getfield 178, 3) := by decide +kernel
theorem dX9_read_37 : decode cX9_read 37 = .ok (.aload_n 0, 1) := by decide +kernel
theorem dX9_read_38 : decode cX9_read 38 = .ok (.getfield 169, 3) := by decide +kernel
theorem dX9_read_41 : decode cX9_read 41 = .ok (.if_icmp .ge 14, 3) := by decide +kernel
theorem dX9_read_44 : decode cX9_read 44 = .ok (.aload_n 0, 1) := by decide +kernel
theorem dX9_read_45 : decode cX9_read 45 = .ok (.iload_n 1, 1) := by decide +kernel
theorem dX9_read_46 : decode cX9_read 46 = .ok (.invokevirtual 261, 3) := by decide +kernel
theorem dX9_read_49 : decode cX9_read 49 = .ok (.iinc 1 1, 3) := by decide +kernel
theorem dX9_read_52 : decode cX9_read 52 = .ok (.goto (-26), 3) := by decide +kernel
theorem dX9_read_55 : decode cX9_read 55 = .ok (.aload_n 0, 1) := by decide +kernel
theorem dX9_read_56 : decode cX9_read 56 = .ok (.getfield 178, 3) := by decide +kernel
theorem dX9_read_59 : decode cX9_read 59 = .ok (.istore_n 2, 1) := by decide +kernel
theorem dX9_read_60 : decode cX9_read 60 = .ok (.aload_n 0, 1) := by decide +kernel
theorem dX9_read_61 : decode cX9_read 61 = .ok (.iconst 0, 1) := by decide +kernel
theorem dX9_read_62 : decode cX9_read 62 = .ok (.putfield 169, 3) := by decide +kernel
theorem dX9_read_65 : decode cX9_read 65 = .ok (.aload_n 0, 1) := by decide +kernel
theorem dX9_read_66 : decode cX9_read 66 = .ok (.getfield 187, 3) := by decide +kernel
theorem dX9_read_69 : decode cX9_read 69 = .ok (.ifCond .eq 8, 3) := by decide +kernel
theorem dX9_read_72 : decode cX9_read 72 = .ok (.bipush (-100), 2) := by decide +kernel
theorem dX9_read_74 : decode cX9_read 74 = .ok (.iload_n 2, 1) := by decide +kernel
theorem dX9_read_75 : decode cX9_read 75 = .ok (.isub, 1) := by decide +kernel
theorem dX9_read_76 : decode cX9_read 76 = .ok (.ireturn, 1) := by decide +kernel
theorem dX9_read_77 : decode cX9_read 77 = .ok (.iconst 0, 1) := by decide +kernel
theorem dX9_read_78 : decode cX9_read 78 = .ok (.istore_n 3, 1) := by decide +kernel
theorem dX9_read_79 : decode cX9_read 79 = .ok (.iload_n 3, 1) := by decide +kernel
theorem dX9_read_80 : decode cX9_read 80 = .ok (.iconst 4, 1) := by decide +kernel
theorem dX9_read_81 : decode cX9_read 81 = .ok (.iload_n 1, 1) := by decide +kernel
theorem dX9_read_82 : decode cX9_read 82 = .ok (.imul, 1) := by decide +kernel
theorem dX9_read_83 : decode cX9_read 83 = .ok (.if_icmp .ge 24, 3) := by decide +kernel
theorem dX9_read_86 : decode cX9_read 86 = .ok (.aload_n 0, 1) := by decide +kernel
theorem dX9_read_87 : decode cX9_read 87 = .ok (.getfield 9, 3) := by decide +kernel
theorem dX9_read_90 : decode cX9_read 90 = .ok (.bipush 124, 2) := by decide +kernel
theorem dX9_read_92 : decode cX9_read 92 = .ok (.iload_n 3, 1) := by decide +kernel
theorem dX9_read_93 : decode cX9_read 93 = .ok (.iadd, 1) := by decide +kernel
theorem dX9_read_94 : decode cX9_read 94 = .ok (.aload_n 0, 1) := by decide +kernel
theorem dX9_read_95 : decode cX9_read 95 = .ok (.getfield 62, 3) := by decide +kernel
theorem dX9_read_98 : decode cX9_read 98 = .ok (.iload_n 3, 1) := by decide +kernel
theorem dX9_read_99 : decode cX9_read 99 = .ok (.iaload, 1) := by decide +kernel
theorem dX9_read_100 : decode cX9_read 100 = .ok (.iastore, 1) := by decide +kernel
theorem dX9_read_101 : decode cX9_read 101 = .ok (.iinc 3 1, 3) := by decide +kernel
theorem dX9_read_104 : decode cX9_read 104 = .ok (.goto (-25), 3) := by decide +kernel
theorem dX9_read_107 : decode cX9_read 107 = .ok (.iconst 0, 1) := by decide +kernel
theorem dX9_read_108 : decode cX9_read 108 = .ok (.istore_n 3, 1) := by decide +kernel
theorem dX9_read_109 : decode cX9_read 109 = .ok (.iload_n 3, 1) := by decide +kernel
theorem dX9_read_110 : decode cX9_read 110 = .ok (.aload_n 0, 1) := by decide +kernel
theorem dX9_read_111 : decode cX9_read 111 = .ok (.getfield 207, 3) := by decide +kernel
theorem dX9_read_114 : decode cX9_read 114 = .ok (.if_icmp .ge 25, 3) := by decide +kernel
theorem dX9_read_117 : decode cX9_read 117 = .ok (.aload_n 0, 1) := by decide +kernel
theorem dX9_read_118 : decode cX9_read 118 = .ok (.getfield 9, 3) := by decide +kernel
theorem dX9_read_121 : decode cX9_read 121 = .ok (.sipush 156, 3) := by decide +kernel
theorem dX9_read_124 : decode cX9_read 124 = .ok (.iload_n 3, 1) := by decide +kernel
theorem dX9_read_125 : decode cX9_read 125 = .ok (.iadd, 1) := by decide +kernel
theorem dX9_read_126 : decode cX9_read 126 = .ok (.aload_n 0, 1) := by decide +kernel
theorem dX9_read_127 : decode cX9_read 127 = .ok (.getfield 59, 3) := by decide +kernel
theorem dX9_read_130 : decode cX9_read 130 = .ok (.iload_n 3, 1) := by decide +kernel
theorem dX9_read_131 : decode cX9_read 131 = .ok (.iaload, 1) := by decide +kernel
theorem dX9_read_132 : decode cX9_read 132 = .ok (.iastore, 1) := by decide +kernel
theorem dX9_read_133 : decode cX9_read 133 = .ok (.iinc 3 1, 3) := by decide +kernel
theorem dX9_read_136 : decode cX9_read 136 = .ok (.goto (-27), 3) := by decide +kernel
theorem dX9_read_139 : decode cX9_read 139 = .ok (.aload_n 0, 1) := by decide +kernel
theorem dX9_read_140 : decode cX9_read 140 = .ok (.getfield 9, 3) := by decide +kernel
theorem dX9_read_143 : decode cX9_read 143 = .ok (.iconst 2, 1) := by decide +kernel
theorem dX9_read_144 : decode cX9_read 144 = .ok (.iload_n 1, 1) := by decide +kernel
theorem dX9_read_145 : decode cX9_read 145 = .ok (.iastore, 1) := by decide +kernel
theorem dX9_read_146 : decode cX9_read 146 = .ok (.aload_n 0, 1) := by decide +kernel
theorem dX9_read_147 : decode cX9_read 147 = .ok (.getfield 9, 3) := by decide +kernel
theorem dX9_read_150 : decode cX9_read 150 = .ok (.iconst 3, 1) := by decide +kernel
theorem dX9_read_151 : decode cX9_read 151 = .ok (.aload_n 0, 1) := by decide +kernel
theorem dX9_read_152 : decode cX9_read 152 = .ok (.getfield 207, 3) := by decide +kernel
theorem dX9_read_155 : decode cX9_read 155 = .ok (.iastore, 1) := by decide +kernel
theorem dX9_read_156 : decode cX9_read 156 = .ok (.iload_n 1, 1) := by decide +kernel
theorem dX9_read_157 : decode cX9_read 157 = .ok (.ireturn, 1) := by decide +kernel
theorem dX9_holds_0 : decode cX9_holds 0 = .ok (.iconst 0, 1) := by decide +kernel
theorem dX9_holds_1 : decode cX9_holds 1 = .ok (.istore 5, 2) := by decide +kernel
theorem dX9_holds_3 : decode cX9_holds 3 = .ok (.aload_n 0, 1) := by decide +kernel
theorem dX9_holds_4 : decode cX9_holds 4 = .ok (.getfield 9, 3) := by decide +kernel
theorem dX9_holds_7 : decode cX9_holds 7 = .ok (.bipush 124, 2) := by decide +kernel
theorem dX9_holds_9 : decode cX9_holds 9 = .ok (.iconst 4, 1) := by decide +kernel
theorem dX9_holds_10 : decode cX9_holds 10 = .ok (.iload_n 1, 1) := by decide +kernel
theorem dX9_holds_11 : decode cX9_holds 11 = .ok (.imul, 1) := by decide +kernel
theorem dX9_holds_12 : decode cX9_holds 12 = .ok (.iadd, 1) := by decide +kernel
theorem dX9_holds_13 : decode cX9_holds 13 = .ok (.iconst 2, 1) := by decide +kernel
theorem dX9_holds_14 : decode cX9_holds 14 = .ok (.iadd, 1) := by decide +kernel
theorem dX9_holds_15 : decode cX9_holds 15 = .ok (.iaload, 1) := by decide +kernel
theorem dX9_holds_16 : decode cX9_holds 16 = .ok (.istore 6, 2) := by decide +kernel
theorem dX9_holds_18 : decode cX9_holds 18 = .ok (.iload 6, 2) := by decide +kernel
theorem dX9_holds_20 : decode cX9_holds 20 = .ok (.aload_n 0, 1) := by decide +kernel
theorem dX9_holds_21 : decode cX9_holds 21 = .ok (.getfield 9, 3) := by decide +kernel
theorem dX9_holds_24 : decode cX9_holds 24 = .ok (.bipush 124, 2) := by decide +kernel
theorem dX9_holds_26 : decode cX9_holds 26 = .ok (.iconst 4, 1) := by decide +kernel
theorem dX9_holds_27 : decode cX9_holds 27 = .ok (.iload_n 1, 1) := by decide +kernel
theorem dX9_holds_28 : decode cX9_holds 28 = .ok (.imul, 1) := by decide +kernel
theorem dX9_holds_29 : decode cX9_holds 29 = .ok (.iadd, 1) := by decide +kernel
theorem dX9_holds_30 : decode cX9_holds 30 = .ok (.iconst 3, 1) := by decide +kernel
theorem dX9_holds_31 : decode cX9_holds 31 = .ok (.iadd, 1) := by decide +kernel
theorem dX9_holds_32 : decode cX9_holds 32 = .ok (.iaload, 1) := by decide +kernel
theorem dX9_holds_33 : decode cX9_holds 33 = .ok (.if_icmp .ge 269, 3) := by decide +kernel
theorem dX9_holds_36 : decode cX9_holds 36 = .ok (.aload_n 0, 1) := by decide +kernel
theorem dX9_holds_37 : decode cX9_holds 37 = .ok (.getfield 9, 3) := by decide +kernel
theorem dX9_holds_40 : decode cX9_holds 40 = .ok (.sipush 156, 3) := by decide +kernel
theorem dX9_holds_43 : decode cX9_holds 43 = .ok (.iload 6, 2) := by decide +kernel
theorem dX9_holds_45 : decode cX9_holds 45 = .ok (.iadd, 1) := by decide +kernel
theorem dX9_holds_46 : decode cX9_holds 46 = .ok (.iaload, 1) := by decide +kernel
theorem dX9_holds_47 : decode cX9_holds 47 = .ok (.istore 7, 2) := by decide +kernel
theorem dX9_holds_49 : decode cX9_holds 49 = .ok (.iload 7, 2) := by decide +kernel
theorem dX9_holds_51 : decode cX9_holds 51 = .ok (.sipush 2002, 3) := by decide +kernel
theorem dX9_holds_54 : decode cX9_holds 54 = .ok (.if_icmp .gt 60, 3) := by decide +kernel
theorem dX9_holds_57 : decode cX9_holds 57 = .ok (.aload_n 0, 1) := by decide +kernel
theorem dX9_holds_58 : decode cX9_holds 58 = .ok (.getfield 65, 3) := by decide +kernel
theorem dX9_holds_61 : decode cX9_holds 61 = .ok (.iload 5, 2) := by decide +kernel
theorem dX9_holds_63 : decode cX9_holds 63 = .ok (.iload 7, 2) := by decide +kernel
theorem dX9_holds_65 : decode cX9_holds 65 = .ok (.sipush 2000, 3) := by decide +kernel
theorem dX9_holds_68 : decode cX9_holds 68 = .ok (.if_icmp .ne 7, 3) := by decide +kernel
theorem dX9_holds_71 : decode cX9_holds 71 = .ok (.iload_n 2, 1) := by decide +kernel
theorem dX9_holds_72 : decode cX9_holds 72 = .ok (.goto 35, 3) := by decide +kernel
theorem dX9_holds_75 : decode cX9_holds 75 = .ok (.iload 7, 2) := by decide +kernel
theorem dX9_holds_77 : decode cX9_holds 77 = .ok (.sipush 2001, 3) := by decide +kernel
theorem dX9_holds_80 : decode cX9_holds 80 = .ok (.if_icmp .ne 8, 3) := by decide +kernel
theorem dX9_holds_83 : decode cX9_holds 83 = .ok (.iload 4, 2) := by decide +kernel
theorem dX9_holds_85 : decode cX9_holds 85 = .ok (.goto 22, 3) := by decide +kernel
theorem dX9_holds_88 : decode cX9_holds 88 = .ok (.iload 7, 2) := by decide +kernel
theorem dX9_holds_90 : decode cX9_holds 90 = .ok (.sipush 2002, 3) := by decide +kernel
theorem dX9_holds_93 : decode cX9_holds 93 = .ok (.if_icmp .ne 12, 3) := by decide +kernel
theorem dX9_holds_96 : decode cX9_holds 96 = .ok (.aload_n 0, 1) := by decide +kernel
theorem dX9_holds_97 : decode cX9_holds 97 = .ok (.iload_n 3, 1) := by decide +kernel
theorem dX9_holds_98 : decode cX9_holds 98 = .ok (.iconst 0, 1) := by decide +kernel
theorem dX9_holds_99 : decode cX9_holds 99 = .ok (.invokevirtual 116, 3) := by decide +kernel
theorem dX9_holds_102 : decode cX9_holds 102 = .ok (.goto 5, 3) := by decide +kernel
theorem dX9_holds_105 : decode cX9_holds 105 = .ok (.iload 7, 2) := by decide +kernel
theorem dX9_holds_107 : decode cX9_holds 107 = .ok (.iastore, 1) := by decide +kernel
theorem dX9_holds_108 : decode cX9_holds 108 = .ok (.iinc 5 1, 3) := by decide +kernel
theorem dX9_holds_111 : decode cX9_holds 111 = .ok (.goto 185, 3) := by decide +kernel
theorem dX9_holds_114 : decode cX9_holds 114 = .ok (.iload 7, 2) := by decide +kernel
theorem dX9_holds_116 : decode cX9_holds 116 = .ok (.sipush 2006, 3) := by decide +kernel
theorem dX9_holds_119 : decode cX9_holds 119 = .ok (.if_icmp .ne 26, 3) := by decide +kernel
theorem dX9_holds_122 : decode cX9_holds 122 = .ok (.aload_n 0, 1) := by decide +kernel
theorem dX9_holds_123 : decode cX9_holds 123 = .ok (.getfield 65, 3) := by decide +kernel
theorem dX9_holds_126 : decode cX9_holds 126 = .ok (.iload 5, 2) := by decide +kernel
theorem dX9_holds_128 : decode cX9_holds 128 = .ok (.iconst 1, 1) := by decide +kernel
theorem dX9_holds_129 : decode cX9_holds 129 = .ok (.isub, 1) := by decide +kernel
theorem dX9_holds_130 : decode cX9_holds 130 = .ok (.iconst 1, 1) := by decide +kernel
theorem dX9_holds_131 : decode cX9_holds 131 = .ok (.aload_n 0, 1) := by decide +kernel
theorem dX9_holds_132 : decode cX9_holds 132 = .ok (.getfield 65, 3) := by decide +kernel
theorem dX9_holds_135 : decode cX9_holds 135 = .ok (.iload 5, 2) := by decide +kernel
theorem dX9_holds_137 : decode cX9_holds 137 = .ok (.iconst 1, 1) := by decide +kernel
theorem dX9_holds_138 : decode cX9_holds 138 = .ok (.isub, 1) := by decide +kernel
theorem dX9_holds_139 : decode cX9_holds 139 = .ok (.iaload, 1) := by decide +kernel
theorem dX9_holds_140 : decode cX9_holds 140 = .ok (.isub, 1) := by decide +kernel
theorem dX9_holds_141 : decode cX9_holds 141 = .ok (.iastore, 1) := by decide +kernel
theorem dX9_holds_142 : decode cX9_holds 142 = .ok (.goto 154, 3) := by decide +kernel
theorem dX9_holds_145 : decode cX9_holds 145 = .ok (.iinc 5 (-1), 3) := by decide +kernel
theorem dX9_holds_148 : decode cX9_holds 148 = .ok (.aload_n 0, 1) := by decide +kernel
theorem dX9_holds_149 : decode cX9_holds 149 = .ok (.getfield 65, 3) := by decide +kernel
theorem dX9_holds_152 : decode cX9_holds 152 = .ok (.iload 5, 2) := by decide +kernel
theorem dX9_holds_154 : decode cX9_holds 154 = .ok (.iconst 1, 1) := by decide +kernel
theorem dX9_holds_155 : decode cX9_holds 155 = .ok (.isub, 1) := by decide +kernel
theorem dX9_holds_156 : decode cX9_holds 156 = .ok (.iaload, 1) := by decide +kernel
theorem dX9_holds_157 : decode cX9_holds 157 = .ok (.istore 8, 2) := by decide +kernel
theorem dX9_holds_159 : decode cX9_holds 159 = .ok (.aload_n 0, 1) := by decide +kernel
theorem dX9_holds_160 : decode cX9_holds 160 = .ok (.getfield 65, 3) := by decide +kernel
theorem dX9_holds_163 : decode cX9_holds 163 = .ok (.iload 5, 2) := by decide +kernel
theorem dX9_holds_165 : decode cX9_holds 165 = .ok (.iaload, 1) := by decide +kernel
theorem dX9_holds_166 : decode cX9_holds 166 = .ok (.istore 9, 2) := by decide +kernel
theorem dX9_holds_168 : decode cX9_holds 168 = .ok (.iload 7, 2) := by decide +kernel
theorem dX9_holds_170 : decode cX9_holds 170 = .ok (.sipush 2003, 3) := by decide +kernel
theorem dX9_holds_173 : decode cX9_holds 173 = .ok (.if_icmp .ne 18, 3) := by decide +kernel
theorem dX9_holds_176 : decode cX9_holds 176 = .ok (.iload 8, 2) := by decide +kernel
theorem dX9_holds_178 : decode cX9_holds 178 = .ok (.iload 9, 2) := by decide +kernel
theorem dX9_holds_180 : decode cX9_holds 180 = .ok (.if_icmp .ge 7, 3) := by decide +kernel
theorem dX9_holds_183 : decode cX9_holds 183 = .ok (.iconst 1, 1) := by decide +kernel
theorem dX9_holds_184 : decode cX9_holds 184 = .ok (.goto 91, 3) := by decide +kernel
theorem dX9_holds_187 : decode cX9_holds 187 = .ok (.iconst 0, 1) := by decide +kernel
theorem dX9_holds_188 : decode cX9_holds 188 = .ok (.goto 87, 3) := by decide +kernel
theorem dX9_holds_191 : decode cX9_holds 191 = .ok (.iload 7, 2) := by decide +kernel
theorem dX9_holds_193 : decode cX9_holds 193 = .ok (.sipush 2004, 3) := by decide +kernel
theorem dX9_holds_196 : decode cX9_holds 196 = .ok (.if_icmp .ne 18, 3) := by decide +kernel
theorem dX9_holds_199 : decode cX9_holds 199 = .ok (.iload 8, 2) := by decide +kernel
theorem dX9_holds_201 : decode cX9_holds 201 = .ok (.iload 9, 2) := by decide +kernel
theorem dX9_holds_203 : decode cX9_holds 203 = .ok (.if_icmp .ne 7, 3) := by decide +kernel
theorem dX9_holds_206 : decode cX9_holds 206 = .ok (.iconst 1, 1) := by decide +kernel
theorem dX9_holds_207 : decode cX9_holds 207 = .ok (.goto 68, 3) := by decide +kernel
theorem dX9_holds_210 : decode cX9_holds 210 = .ok (.iconst 0, 1) := by decide +kernel
theorem dX9_holds_211 : decode cX9_holds 211 = .ok (.goto 64, 3) := by decide +kernel
theorem dX9_holds_214 : decode cX9_holds 214 = .ok (.iload 7, 2) := by decide +kernel
theorem dX9_holds_216 : decode cX9_holds 216 = .ok (.sipush 2005, 3) := by decide +kernel
theorem dX9_holds_219 : decode cX9_holds 219 = .ok (.if_icmp .ne 18, 3) := by decide +kernel
theorem dX9_holds_222 : decode cX9_holds 222 = .ok (.iload 8, 2) := by decide +kernel
theorem dX9_holds_224 : decode cX9_holds 224 = .ok (.iload 9, 2) := by decide +kernel
theorem dX9_holds_226 : decode cX9_holds 226 = .ok (.if_icmp .le 7, 3) := by decide +kernel
theorem dX9_holds_229 : decode cX9_holds 229 = .ok (.iconst 1, 1) := by decide +kernel
theorem dX9_holds_230 : decode cX9_holds 230 = .ok (.goto 45, 3) := by decide +kernel
theorem dX9_holds_233 : decode cX9_holds 233 = .ok (.iconst 0, 1) := by decide +kernel
theorem dX9_holds_234 : decode cX9_holds 234 = .ok (.goto 41, 3) := by decide +kernel
theorem dX9_holds_237 : decode cX9_holds 237 = .ok (.iload 7, 2) := by decide +kernel
theorem dX9_holds_239 : decode cX9_holds 239 = .ok (.sipush 2007, 3) := by decide +kernel
theorem dX9_holds_242 : decode cX9_holds 242 = .ok (.if_icmp .ne 20, 3) := by decide +kernel
theorem dX9_holds_245 : decode cX9_holds 245 = .ok (.iload 8, 2) := by decide +kernel
theorem dX9_holds_247 : decode cX9_holds 247 = .ok (.iload 9, 2) := by decide +kernel
theorem dX9_holds_249 : decode cX9_holds 249 = .ok (.iadd, 1) := by decide +kernel
theorem dX9_holds_250 : decode cX9_holds 250 = .ok (.iconst 2, 1) := by decide +kernel
theorem dX9_holds_251 : decode cX9_holds 251 = .ok (.if_icmp .ne 7, 3) := by decide +kernel
theorem dX9_holds_254 : decode cX9_holds 254 = .ok (.iconst 1, 1) := by decide +kernel
theorem dX9_holds_255 : decode cX9_holds 255 = .ok (.goto 20, 3) := by decide +kernel
theorem dX9_holds_258 : decode cX9_holds 258 = .ok (.iconst 0, 1) := by decide +kernel
theorem dX9_holds_259 : decode cX9_holds 259 = .ok (.goto 16, 3) := by decide +kernel
theorem dX9_holds_262 : decode cX9_holds 262 = .ok (.iload 8, 2) := by decide +kernel
theorem dX9_holds_264 : decode cX9_holds 264 = .ok (.iload 9, 2) := by decide +kernel
theorem dX9_holds_266 : decode cX9_holds 266 = .ok (.iadd, 1) := by decide +kernel
theorem dX9_holds_267 : decode cX9_holds 267 = .ok (.ifCond .le 7, 3) := by decide +kernel
theorem dX9_holds_270 : decode cX9_holds 270 = .ok (.iconst 1, 1) := by decide +kernel
theorem dX9_holds_271 : decode cX9_holds 271 = .ok (.goto 4, 3) := by decide +kernel
theorem dX9_holds_274 : decode cX9_holds 274 = .ok (.iconst 0, 1) := by decide +kernel
theorem dX9_holds_275 : decode cX9_holds 275 = .ok (.istore 10, 2) := by decide +kernel
theorem dX9_holds_277 : decode cX9_holds 277 = .ok (.aload_n 0, 1) := by decide +kernel
theorem dX9_holds_278 : decode cX9_holds 278 = .ok (.getfield 65, 3) := by decide +kernel
theorem dX9_holds_281 : decode cX9_holds 281 = .ok (.iload 5, 2) := by decide +kernel
theorem dX9_holds_283 : decode cX9_holds 283 = .ok (.iconst 1, 1) := by decide +kernel
theorem dX9_holds_284 : decode cX9_holds 284 = .ok (.isub, 1) := by decide +kernel
theorem dX9_holds_285 : decode cX9_holds 285 = .ok (.iload 10, 2) := by decide +kernel
theorem dX9_holds_287 : decode cX9_holds 287 = .ok (.ifCond .eq 7, 3) := by decide +kernel
theorem dX9_holds_290 : decode cX9_holds 290 = .ok (.iconst 1, 1) := by decide +kernel
theorem dX9_holds_291 : decode cX9_holds 291 = .ok (.goto 4, 3) := by decide +kernel
theorem dX9_holds_294 : decode cX9_holds 294 = .ok (.iconst 0, 1) := by decide +kernel
theorem dX9_holds_295 : decode cX9_holds 295 = .ok (.iastore, 1) := by decide +kernel
theorem dX9_holds_296 : decode cX9_holds 296 = .ok (.iinc 6 1, 3) := by decide +kernel
theorem dX9_holds_299 : decode cX9_holds 299 = .ok (.goto (-281), 3) := by decide +kernel
theorem dX9_holds_302 : decode cX9_holds 302 = .ok (.iload 5, 2) := by decide +kernel
theorem dX9_holds_304 : decode cX9_holds 304 = .ok (.ifCond .eq 13, 3) := by decide +kernel
theorem dX9_holds_307 : decode cX9_holds 307 = .ok (.aload_n 0, 1) := by decide +kernel
theorem dX9_holds_308 : decode cX9_holds 308 = .ok (.getfield 65, 3) := by decide +kernel
theorem dX9_holds_311 : decode cX9_holds 311 = .ok (.iconst 0, 1) := by decide +kernel
theorem dX9_holds_312 : decode cX9_holds 312 = .ok (.iaload, 1) := by decide +kernel
theorem dX9_holds_313 : decode cX9_holds 313 = .ok (.iconst 1, 1) := by decide +kernel
theorem dX9_holds_314 : decode cX9_holds 314 = .ok (.if_icmp .ne 7, 3) := by decide +kernel
theorem dX9_holds_317 : decode cX9_holds 317 = .ok (.iconst 1, 1) := by decide +kernel
theorem dX9_holds_318 : decode cX9_holds 318 = .ok (.goto 4, 3) := by decide +kernel
theorem dX9_holds_321 : decode cX9_holds 321 = .ok (.iconst 0, 1) := by decide +kernel
theorem dX9_holds_322 : decode cX9_holds 322 = .ok (.ireturn, 1) := by decide +kernel
theorem dX9_letsOf_0 : decode cX9_letsOf 0 = .ok (.iconst 0, 1) := by decide +kernel
theorem dX9_letsOf_1 : decode cX9_letsOf 1 = .ok (.istore 4, 2) := by decide +kernel
theorem dX9_letsOf_3 : decode cX9_letsOf 3 = .ok (.iconst 0, 1) := by decide +kernel
theorem dX9_letsOf_4 : decode cX9_letsOf 4 = .ok (.istore 5, 2) := by decide +kernel
theorem dX9_letsOf_6 : decode cX9_letsOf 6 = .ok (.iload 5, 2) := by decide +kernel
theorem dX9_letsOf_8 : decode cX9_letsOf 8 = .ok (.aload_n 0, 1) := by decide +kernel
theorem dX9_letsOf_9 : decode cX9_letsOf 9 = .ok (.getfield 9, 3) := by decide +kernel
theorem dX9_letsOf_12 : decode cX9_letsOf 12 = .ok (.iconst 2, 1) := by decide +kernel
theorem dX9_letsOf_13 : decode cX9_letsOf 13 = .ok (.iaload, 1) := by decide +kernel
theorem dX9_letsOf_14 : decode cX9_letsOf 14 = .ok (.if_icmp .ge 70, 3) := by decide +kernel
theorem dX9_letsOf_17 : decode cX9_letsOf 17 = .ok (.aload_n 0, 1) := by decide +kernel
theorem dX9_letsOf_18 : decode cX9_letsOf 18 = .ok (.getfield 9, 3) := by decide +kernel
theorem dX9_letsOf_21 : decode cX9_letsOf 21 = .ok (.bipush 124, 2) := by decide +kernel
theorem dX9_letsOf_23 : decode cX9_letsOf 23 = .ok (.iconst 4, 1) := by decide +kernel
theorem dX9_letsOf_24 : decode cX9_letsOf 24 = .ok (.iload 5, 2) := by decide +kernel
theorem dX9_letsOf_26 : decode cX9_letsOf 26 = .ok (.imul, 1) := by decide +kernel
theorem dX9_letsOf_27 : decode cX9_letsOf 27 = .ok (.iadd, 1) := by decide +kernel
theorem dX9_letsOf_28 : decode cX9_letsOf 28 = .ok (.iaload, 1) := by decide +kernel
theorem dX9_letsOf_29 : decode cX9_letsOf 29 = .ok (.iload_n 2, 1) := by decide +kernel
theorem dX9_letsOf_30 : decode cX9_letsOf 30 = .ok (.if_icmp .ne 19, 3) := by decide +kernel
theorem dX9_letsOf_33 : decode cX9_letsOf 33 = .ok (.aload_n 0, 1) := by decide +kernel
theorem dX9_letsOf_34 : decode cX9_letsOf 34 = .ok (.iload 5, 2) := by decide +kernel
theorem dX9_letsOf_36 : decode cX9_letsOf 36 = .ok (.iload_n 1, 1) := by decide +kernel
theorem dX9_letsOf_37 : decode cX9_letsOf 37 = .ok (.iload_n 2, 1) := by decide +kernel
theorem dX9_letsOf_38 : decode cX9_letsOf 38 = .ok (.iload_n 3, 1) := by decide +kernel
theorem dX9_letsOf_39 : decode cX9_letsOf 39 = .ok (.invokevirtual 264, 3) := by decide +kernel
theorem dX9_letsOf_42 : decode cX9_letsOf 42 = .ok (.ifCond .eq 7, 3) := by decide +kernel
theorem dX9_letsOf_45 : decode cX9_letsOf 45 = .ok (.iconst 1, 1) := by decide +kernel
theorem dX9_letsOf_46 : decode cX9_letsOf 46 = .ok (.goto 4, 3) := by decide +kernel
theorem dX9_letsOf_49 : decode cX9_letsOf 49 = .ok (.iconst 0, 1) := by decide +kernel
theorem dX9_letsOf_50 : decode cX9_letsOf 50 = .ok (.istore 6, 2) := by decide +kernel
theorem dX9_letsOf_52 : decode cX9_letsOf 52 = .ok (.iload 6, 2) := by decide +kernel
theorem dX9_letsOf_54 : decode cX9_letsOf 54 = .ok (.ifCond .eq 20, 3) := by decide +kernel
theorem dX9_letsOf_57 : decode cX9_letsOf 57 = .ok (.aload_n 0, 1) := by decide +kernel
theorem dX9_letsOf_58 : decode cX9_letsOf 58 = .ok (.getfield 9, 3) := by decide +kernel
theorem dX9_letsOf_61 : decode cX9_letsOf 61 = .ok (.bipush 124, 2) := by decide +kernel
theorem dX9_letsOf_63 : decode cX9_letsOf 63 = .ok (.iconst 4, 1) := by decide +kernel
theorem dX9_letsOf_64 : decode cX9_letsOf 64 = .ok (.iload 5, 2) := by decide +kernel
theorem dX9_letsOf_66 : decode cX9_letsOf 66 = .ok (.imul, 1) := by decide +kernel
theorem dX9_letsOf_67 : decode cX9_letsOf 67 = .ok (.iadd, 1) := by decide +kernel
theorem dX9_letsOf_68 : decode cX9_letsOf 68 = .ok (.iconst 1, 1) := by decide +kernel
theorem dX9_letsOf_69 : decode cX9_letsOf 69 = .ok (.iadd, 1) := by decide +kernel
theorem dX9_letsOf_70 : decode cX9_letsOf 70 = .ok (.iaload, 1) := by decide +kernel
theorem dX9_letsOf_71 : decode cX9_letsOf 71 = .ok (.goto 5, 3) := by decide +kernel
theorem dX9_letsOf_74 : decode cX9_letsOf 74 = .ok (.iload 4, 2) := by decide +kernel
theorem dX9_letsOf_76 : decode cX9_letsOf 76 = .ok (.istore 4, 2) := by decide +kernel
theorem dX9_letsOf_78 : decode cX9_letsOf 78 = .ok (.iinc 5 1, 3) := by decide +kernel
theorem dX9_letsOf_81 : decode cX9_letsOf 81 = .ok (.goto (-75), 3) := by decide +kernel
theorem dX9_letsOf_84 : decode cX9_letsOf 84 = .ok (.iload 4, 2) := by decide +kernel
theorem dX9_letsOf_86 : decode cX9_letsOf 86 = .ok (.ireturn, 1) := by decide +kernel
theorem dX9_goBy_0 : decode cX9_goBy 0 = .ok (.iconst 0, 1) := by decide +kernel
theorem dX9_goBy_1 : decode cX9_goBy 1 = .ok (.istore_n 3, 1) := by decide +kernel
theorem dX9_goBy_2 : decode cX9_goBy 2 = .ok (.iconst 0, 1) := by decide +kernel
theorem dX9_goBy_3 : decode cX9_goBy 3 = .ok (.istore 4, 2) := by decide +kernel
theorem dX9_goBy_5 : decode cX9_goBy 5 = .ok (.iconst 0, 1) := by decide +kernel
theorem dX9_goBy_6 : decode cX9_goBy 6 = .ok (.istore 5, 2) := by decide +kernel
theorem dX9_goBy_8 : decode cX9_goBy 8 = .ok (.iload 5, 2) := by decide +kernel
theorem dX9_goBy_10 : decode cX9_goBy 10 = .ok (.aload_n 0, 1) := by decide +kernel
theorem dX9_goBy_11 : decode cX9_goBy 11 = .ok (.getfield 9, 3) := by decide +kernel
theorem dX9_goBy_14 : decode cX9_goBy 14 = .ok (.iconst 0, 1) := by decide +kernel
theorem dX9_goBy_15 : decode cX9_goBy 15 = .ok (.iaload, 1) := by decide +kernel
theorem dX9_goBy_16 : decode cX9_goBy 16 = .ok (.if_icmp .ge 170, 3) := by decide +kernel
theorem dX9_goBy_19 : decode cX9_goBy 19 = .ok (.aload_n 0, 1) := by decide +kernel
theorem dX9_goBy_20 : decode cX9_goBy 20 = .ok (.getfield 68, 3) := by decide +kernel
theorem dX9_goBy_23 : decode cX9_goBy 23 = .ok (.iload 5, 2) := by decide +kernel
theorem dX9_goBy_25 : decode cX9_goBy 25 = .ok (.iload 4, 2) := by decide +kernel
theorem dX9_goBy_27 : decode cX9_goBy 27 = .ok (.aload_n 0, 1) := by decide +kernel
theorem dX9_goBy_28 : decode cX9_goBy 28 = .ok (.iload 5, 2) := by decide +kernel
theorem dX9_goBy_30 : decode cX9_goBy 30 = .ok (.iconst 0, 1) := by decide +kernel
theorem dX9_goBy_31 : decode cX9_goBy 31 = .ok (.invokevirtual 116, 3) := by decide +kernel
theorem dX9_goBy_34 : decode cX9_goBy 34 = .ok (.iload_n 1, 1) := by decide +kernel
theorem dX9_goBy_35 : decode cX9_goBy 35 = .ok (.imul, 1) := by decide +kernel
theorem dX9_goBy_36 : decode cX9_goBy 36 = .ok (.bipush 10, 2) := by decide +kernel
theorem dX9_goBy_38 : decode cX9_goBy 38 = .ok (.idiv, 1) := by decide +kernel
theorem dX9_goBy_39 : decode cX9_goBy 39 = .ok (.iadd, 1) := by decide +kernel
theorem dX9_goBy_40 : decode cX9_goBy 40 = .ok (.iastore, 1) := by decide +kernel
theorem dX9_goBy_41 : decode cX9_goBy 41 = .ok (.iload_n 2, 1) := by decide +kernel
theorem dX9_goBy_42 : decode cX9_goBy 42 = .ok (.ifCond .lt 7, 3) := by decide +kernel
theorem dX9_goBy_45 : decode cX9_goBy 45 = .ok (.iload_n 2, 1) := by decide +kernel
theorem dX9_goBy_46 : decode cX9_goBy 46 = .ok (.goto 17, 3) := by decide +kernel
theorem dX9_goBy_49 : decode cX9_goBy 49 = .ok (.aload_n 0, 1) := by decide +kernel
theorem dX9_goBy_50 : decode cX9_goBy 50 = .ok (.iload_n 1, 1) := by decide +kernel
theorem dX9_goBy_51 : decode cX9_goBy 51 = .ok (.iload 5, 2) := by decide +kernel
theorem dX9_goBy_53 : decode cX9_goBy 53 = .ok (.aload_n 0, 1) := by decide +kernel
theorem dX9_goBy_54 : decode cX9_goBy 54 = .ok (.getfield 68, 3) := by decide +kernel
theorem dX9_goBy_57 : decode cX9_goBy 57 = .ok (.iload 5, 2) := by decide +kernel
theorem dX9_goBy_59 : decode cX9_goBy 59 = .ok (.iaload, 1) := by decide +kernel
theorem dX9_goBy_60 : decode cX9_goBy 60 = .ok (.invokevirtual 268, 3) := by decide +kernel
theorem dX9_goBy_63 : decode cX9_goBy 63 = .ok (.istore 6, 2) := by decide +kernel
theorem dX9_goBy_65 : decode cX9_goBy 65 = .ok (.aload_n 0, 1) := by decide +kernel
theorem dX9_goBy_66 : decode cX9_goBy 66 = .ok (.getfield 71, 3) := by decide +kernel
theorem dX9_goBy_69 : decode cX9_goBy 69 = .ok (.iload 5, 2) := by decide +kernel
theorem dX9_goBy_71 : decode cX9_goBy 71 = .ok (.iload 6, 2) := by decide +kernel
theorem dX9_goBy_73 : decode cX9_goBy 73 = .ok (.aload_n 0, 1) := by decide +kernel
theorem dX9_goBy_74 : decode cX9_goBy 74 = .ok (.getfield 68, 3) := by decide +kernel
theorem dX9_goBy_77 : decode cX9_goBy 77 = .ok (.iload 5, 2) := by decide +kernel
theorem dX9_goBy_79 : decode cX9_goBy 79 = .ok (.iaload, 1) := by decide +kernel
theorem dX9_goBy_80 : decode cX9_goBy 80 = .ok (.if_icmp .ge 8, 3) := by decide +kernel
theorem dX9_goBy_83 : decode cX9_goBy 83 = .ok (.iload 6, 2) := by decide +kernel
theorem dX9_goBy_85 : decode cX9_goBy 85 = .ok (.goto 10, 3) := by decide +kernel
theorem dX9_goBy_88 : decode cX9_goBy 88 = .ok (.aload_n 0, 1) := by decide +kernel
theorem dX9_goBy_89 : decode cX9_goBy 89 = .ok (.getfield 68, 3) := by decide +kernel
theorem dX9_goBy_92 : decode cX9_goBy 92 = .ok (.iload 5, 2) := by decide +kernel
theorem dX9_goBy_94 : decode cX9_goBy 94 = .ok (.iaload, 1) := by decide +kernel
theorem dX9_goBy_95 : decode cX9_goBy 95 = .ok (.iastore, 1) := by decide +kernel
theorem dX9_goBy_96 : decode cX9_goBy 96 = .ok (.aload_n 0, 1) := by decide +kernel
theorem dX9_goBy_97 : decode cX9_goBy 97 = .ok (.getfield 74, 3) := by decide +kernel
theorem dX9_goBy_100 : decode cX9_goBy 100 = .ok (.iload 5, 2) := by decide +kernel
theorem dX9_goBy_102 : decode cX9_goBy 102 = .ok (.aload_n 0, 1) := by decide +kernel
theorem dX9_goBy_103 : decode cX9_goBy 103 = .ok (.iload 5, 2) := by decide +kernel
theorem dX9_goBy_105 : decode cX9_goBy 105 = .ok (.aload_n 0, 1) := by decide +kernel
theorem dX9_goBy_106 : decode cX9_goBy 106 = .ok (.getfield 68, 3) := by decide +kernel
theorem dX9_goBy_109 : decode cX9_goBy 109 = .ok (.iload 5, 2) := by decide +kernel
theorem dX9_goBy_111 : decode cX9_goBy 111 = .ok (.iaload, 1) := by decide +kernel
theorem dX9_goBy_112 : decode cX9_goBy 112 = .ok (.aload_n 0, 1) := by decide +kernel
theorem dX9_goBy_113 : decode cX9_goBy 113 = .ok (.getfield 71, 3) := by decide +kernel
theorem dX9_goBy_116 : decode cX9_goBy 116 = .ok (.iload 5, 2) := by decide +kernel
theorem dX9_goBy_118 : decode cX9_goBy 118 = .ok (.iaload, 1) := by decide +kernel
theorem dX9_goBy_119 : decode cX9_goBy 119 = .ok (.isub, 1) := by decide +kernel
theorem dX9_goBy_120 : decode cX9_goBy 120 = .ok (.invokevirtual 151, 3) := by decide +kernel
theorem dX9_goBy_123 : decode cX9_goBy 123 = .ok (.iastore, 1) := by decide +kernel
theorem dX9_goBy_124 : decode cX9_goBy 124 = .ok (.aload_n 0, 1) := by decide +kernel
theorem dX9_goBy_125 : decode cX9_goBy 125 = .ok (.getfield 68, 3) := by decide +kernel
theorem dX9_goBy_128 : decode cX9_goBy 128 = .ok (.iload 5, 2) := by decide +kernel
theorem dX9_goBy_130 : decode cX9_goBy 130 = .ok (.iaload, 1) := by decide +kernel
theorem dX9_goBy_131 : decode cX9_goBy 131 = .ok (.aload_n 0, 1) := by decide +kernel
theorem dX9_goBy_132 : decode cX9_goBy 132 = .ok (.getfield 74, 3) := by decide +kernel
theorem dX9_goBy_135 : decode cX9_goBy 135 = .ok (.iload 5, 2) := by decide +kernel
theorem dX9_goBy_137 : decode cX9_goBy 137 = .ok (.iaload, 1) := by decide +kernel
theorem dX9_goBy_138 : decode cX9_goBy 138 = .ok (.isub, 1) := by decide +kernel
theorem dX9_goBy_139 : decode cX9_goBy 139 = .ok (.istore 4, 2) := by decide +kernel
theorem dX9_goBy_141 : decode cX9_goBy 141 = .ok (.aload_n 0, 1) := by decide +kernel
theorem dX9_goBy_142 : decode cX9_goBy 142 = .ok (.getfield 77, 3) := by decide +kernel
theorem dX9_goBy_145 : decode cX9_goBy 145 = .ok (.iload 5, 2) := by decide +kernel
theorem dX9_goBy_147 : decode cX9_goBy 147 = .ok (.aload_n 0, 1) := by decide +kernel
theorem dX9_goBy_148 : decode cX9_goBy 148 = .ok (.iload 5, 2) := by decide +kernel
theorem dX9_goBy_150 : decode cX9_goBy 150 = .ok (.aload_n 0, 1) := by decide +kernel
theorem dX9_goBy_151 : decode cX9_goBy 151 = .ok (.getfield 74, 3) := by decide +kernel
theorem dX9_goBy_154 : decode cX9_goBy 154 = .ok (.iload 5, 2) := by decide +kernel
theorem dX9_goBy_156 : decode cX9_goBy 156 = .ok (.iaload, 1) := by decide +kernel
theorem dX9_goBy_157 : decode cX9_goBy 157 = .ok (.invokevirtual 123, 3) := by decide +kernel
theorem dX9_goBy_160 : decode cX9_goBy 160 = .ok (.aload_n 0, 1) := by decide +kernel
theorem dX9_goBy_161 : decode cX9_goBy 161 = .ok (.iload 5, 2) := by decide +kernel
theorem dX9_goBy_163 : decode cX9_goBy 163 = .ok (.iload 4, 2) := by decide +kernel
theorem dX9_goBy_165 : decode cX9_goBy 165 = .ok (.invokevirtual 126, 3) := by decide +kernel
theorem dX9_goBy_168 : decode cX9_goBy 168 = .ok (.isub, 1) := by decide +kernel
theorem dX9_goBy_169 : decode cX9_goBy 169 = .ok (.iastore, 1) := by decide +kernel
theorem dX9_goBy_170 : decode cX9_goBy 170 = .ok (.iload_n 3, 1) := by decide +kernel
theorem dX9_goBy_171 : decode cX9_goBy 171 = .ok (.aload_n 0, 1) := by decide +kernel
theorem dX9_goBy_172 : decode cX9_goBy 172 = .ok (.getfield 77, 3) := by decide +kernel
theorem dX9_goBy_175 : decode cX9_goBy 175 = .ok (.iload 5, 2) := by decide +kernel
theorem dX9_goBy_177 : decode cX9_goBy 177 = .ok (.iaload, 1) := by decide +kernel
theorem dX9_goBy_178 : decode cX9_goBy 178 = .ok (.iadd, 1) := by decide +kernel
theorem dX9_goBy_179 : decode cX9_goBy 179 = .ok (.istore_n 3, 1) := by decide +kernel
theorem dX9_goBy_180 : decode cX9_goBy 180 = .ok (.iinc 5 1, 3) := by decide +kernel
theorem dX9_goBy_183 : decode cX9_goBy 183 = .ok (.goto (-175), 3) := by decide +kernel
theorem dX9_goBy_186 : decode cX9_goBy 186 = .ok (.iload_n 3, 1) := by decide +kernel
theorem dX9_goBy_187 : decode cX9_goBy 187 = .ok (.ireturn, 1) := by decide +kernel
theorem dX9_treaty_0 : decode cX9_treaty 0 = .ok (.iload_n 1, 1) := by decide +kernel
theorem dX9_treaty_1 : decode cX9_treaty 1 = .ok (.iconst 0, 1) := by decide +kernel
theorem dX9_treaty_2 : decode cX9_treaty 2 = .ok (.bipush 20, 2) := by decide +kernel
theorem dX9_treaty_4 : decode cX9_treaty 4 = .ok (.invokestatic 104, 3) := by decide +kernel
theorem dX9_treaty_7 : decode cX9_treaty 7 = .ok (.ifCond .eq 20, 3) := by decide +kernel
theorem dX9_treaty_10 : decode cX9_treaty 10 = .ok (.aload_n 0, 1) := by decide +kernel
theorem dX9_treaty_11 : decode cX9_treaty 11 = .ok (.iload_n 2, 1) := by decide +kernel
theorem dX9_treaty_12 : decode cX9_treaty 12 = .ok (.invokevirtual 112, 3) := by decide +kernel
theorem dX9_treaty_15 : decode cX9_treaty 15 = .ok (.ifCond .eq 12, 3) := by decide +kernel
theorem dX9_treaty_18 : decode cX9_treaty 18 = .ok (.iload_n 3, 1) := by decide +kernel
theorem dX9_treaty_19 : decode cX9_treaty 19 = .ok (.iconst 0, 1) := by decide +kernel
theorem dX9_treaty_20 : decode cX9_treaty 20 = .ok (.iconst 3, 1) := by decide +kernel
theorem dX9_treaty_21 : decode cX9_treaty 21 = .ok (.invokestatic 104, 3) := by decide +kernel
theorem dX9_treaty_24 : decode cX9_treaty 24 = .ok (.ifCond .ne 6, 3) := by decide +kernel
theorem dX9_treaty_27 : decode cX9_treaty 27 = .ok (.ldc 140, 2) := by decide +kernel
theorem dX9_treaty_29 : decode cX9_treaty 29 = .ok (.ireturn, 1) := by decide +kernel
theorem dX9_treaty_30 : decode cX9_treaty 30 = .ok (.aload_n 0, 1) := by decide +kernel
theorem dX9_treaty_31 : decode cX9_treaty 31 = .ok (.iload_n 1, 1) := by decide +kernel
theorem dX9_treaty_32 : decode cX9_treaty 32 = .ok (.iconst (-1), 1) := by decide +kernel
theorem dX9_treaty_33 : decode cX9_treaty 33 = .ok (.invokevirtual 272, 3) := by decide +kernel
theorem dX9_treaty_36 : decode cX9_treaty 36 = .ok (.istore 4, 2) := by decide +kernel
theorem dX9_treaty_38 : decode cX9_treaty 38 = .ok (.iload_n 3, 1) := by decide +kernel
theorem dX9_treaty_39 : decode cX9_treaty 39 = .ok (.ifCond .ne 12, 3) := by decide +kernel
theorem dX9_treaty_42 : decode cX9_treaty 42 = .ok (.aload_n 0, 1) := by decide +kernel
theorem dX9_treaty_43 : decode cX9_treaty 43 = .ok (.getfield 68, 3) := by decide +kernel
theorem dX9_treaty_46 : decode cX9_treaty 46 = .ok (.iload_n 2, 1) := by decide +kernel
theorem dX9_treaty_47 : decode cX9_treaty 47 = .ok (.iaload, 1) := by decide +kernel
theorem dX9_treaty_48 : decode cX9_treaty 48 = .ok (.goto 37, 3) := by decide +kernel
theorem dX9_treaty_51 : decode cX9_treaty 51 = .ok (.iload_n 3, 1) := by decide +kernel
theorem dX9_treaty_52 : decode cX9_treaty 52 = .ok (.iconst 1, 1) := by decide +kernel
theorem dX9_treaty_53 : decode cX9_treaty 53 = .ok (.if_icmp .ne 12, 3) := by decide +kernel
theorem dX9_treaty_56 : decode cX9_treaty 56 = .ok (.aload_n 0, 1) := by decide +kernel
theorem dX9_treaty_57 : decode cX9_treaty 57 = .ok (.getfield 71, 3) := by decide +kernel
theorem dX9_treaty_60 : decode cX9_treaty 60 = .ok (.iload_n 2, 1) := by decide +kernel
theorem dX9_treaty_61 : decode cX9_treaty 61 = .ok (.iaload, 1) := by decide +kernel
theorem dX9_treaty_62 : decode cX9_treaty 62 = .ok (.goto 23, 3) := by decide +kernel
theorem dX9_treaty_65 : decode cX9_treaty 65 = .ok (.iload_n 3, 1) := by decide +kernel
theorem dX9_treaty_66 : decode cX9_treaty 66 = .ok (.iconst 2, 1) := by decide +kernel
theorem dX9_treaty_67 : decode cX9_treaty 67 = .ok (.if_icmp .ne 12, 3) := by decide +kernel
theorem dX9_treaty_70 : decode cX9_treaty 70 = .ok (.aload_n 0, 1) := by decide +kernel
theorem dX9_treaty_71 : decode cX9_treaty 71 = .ok (.getfield 74, 3) := by decide +kernel
theorem dX9_treaty_74 : decode cX9_treaty 74 = .ok (.iload_n 2, 1) := by decide +kernel
theorem dX9_treaty_75 : decode cX9_treaty 75 = .ok (.iaload, 1) := by decide +kernel
theorem dX9_treaty_76 : decode cX9_treaty 76 = .ok (.goto 9, 3) := by decide +kernel
theorem dX9_treaty_79 : decode cX9_treaty 79 = .ok (.aload_n 0, 1) := by decide +kernel
theorem dX9_treaty_80 : decode cX9_treaty 80 = .ok (.getfield 77, 3) := by decide +kernel
theorem dX9_treaty_83 : decode cX9_treaty 83 = .ok (.iload_n 2, 1) := by decide +kernel
theorem dX9_treaty_84 : decode cX9_treaty 84 = .ok (.iaload, 1) := by decide +kernel
theorem dX9_treaty_85 : decode cX9_treaty 85 = .ok (.ireturn, 1) := by decide +kernel
theorem dX9_bestYears_0 : decode cX9_bestYears 0 = .ok (.iconst 0, 1) := by decide +kernel
theorem dX9_bestYears_1 : decode cX9_bestYears 1 = .ok (.istore_n 1, 1) := by decide +kernel
theorem dX9_bestYears_2 : decode cX9_bestYears 2 = .ok (.iconst 0, 1) := by decide +kernel
theorem dX9_bestYears_3 : decode cX9_bestYears 3 = .ok (.istore_n 2, 1) := by decide +kernel
theorem dX9_bestYears_4 : decode cX9_bestYears 4 = .ok (.iload_n 2, 1) := by decide +kernel
theorem dX9_bestYears_5 : decode cX9_bestYears 5 = .ok (.aload_n 0, 1) := by decide +kernel
theorem dX9_bestYears_6 : decode cX9_bestYears 6 = .ok (.getfield 9, 3) := by decide +kernel
theorem dX9_bestYears_9 : decode cX9_bestYears 9 = .ok (.iconst 1, 1) := by decide +kernel
theorem dX9_bestYears_10 : decode cX9_bestYears 10 = .ok (.iaload, 1) := by decide +kernel
theorem dX9_bestYears_11 : decode cX9_bestYears 11 = .ok (.if_icmp .ge 25, 3) := by decide +kernel
theorem dX9_bestYears_14 : decode cX9_bestYears 14 = .ok (.iload_n 1, 1) := by decide +kernel
theorem dX9_bestYears_15 : decode cX9_bestYears 15 = .ok (.aload_n 0, 1) := by decide +kernel
theorem dX9_bestYears_16 : decode cX9_bestYears 16 = .ok (.aload_n 0, 1) := by decide +kernel
theorem dX9_bestYears_17 : decode cX9_bestYears 17 = .ok (.getfield 9, 3) := by decide +kernel
theorem dX9_bestYears_20 : decode cX9_bestYears 20 = .ok (.bipush 118, 2) := by decide +kernel
theorem dX9_bestYears_22 : decode cX9_bestYears 22 = .ok (.iload_n 2, 1) := by decide +kernel
theorem dX9_bestYears_23 : decode cX9_bestYears 23 = .ok (.iadd, 1) := by decide +kernel
theorem dX9_bestYears_24 : decode cX9_bestYears 24 = .ok (.iaload, 1) := by decide +kernel
theorem dX9_bestYears_25 : decode cX9_bestYears 25 = .ok (.invokevirtual 136, 3) := by decide +kernel
theorem dX9_bestYears_28 : decode cX9_bestYears 28 = .ok (.iadd, 1) := by decide +kernel
theorem dX9_bestYears_29 : decode cX9_bestYears 29 = .ok (.istore_n 1, 1) := by decide +kernel
theorem dX9_bestYears_30 : decode cX9_bestYears 30 = .ok (.iinc 2 1, 3) := by decide +kernel
theorem dX9_bestYears_33 : decode cX9_bestYears 33 = .ok (.goto (-29), 3) := by decide +kernel
theorem dX9_bestYears_36 : decode cX9_bestYears 36 = .ok (.iload_n 1, 1) := by decide +kernel
theorem dX9_bestYears_37 : decode cX9_bestYears 37 = .ok (.ireturn, 1) := by decide +kernel
theorem dX9_goYears_0 : decode cX9_goYears 0 = .ok (.iconst 0, 1) := by decide +kernel
theorem dX9_goYears_1 : decode cX9_goYears 1 = .ok (.istore_n 2, 1) := by decide +kernel
theorem dX9_goYears_2 : decode cX9_goYears 2 = .ok (.iconst 0, 1) := by decide +kernel
theorem dX9_goYears_3 : decode cX9_goYears 3 = .ok (.istore_n 3, 1) := by decide +kernel
theorem dX9_goYears_4 : decode cX9_goYears 4 = .ok (.iload_n 3, 1) := by decide +kernel
theorem dX9_goYears_5 : decode cX9_goYears 5 = .ok (.aload_n 0, 1) := by decide +kernel
theorem dX9_goYears_6 : decode cX9_goYears 6 = .ok (.getfield 9, 3) := by decide +kernel
theorem dX9_goYears_9 : decode cX9_goYears 9 = .ok (.iconst 1, 1) := by decide +kernel
theorem dX9_goYears_10 : decode cX9_goYears 10 = .ok (.iaload, 1) := by decide +kernel
theorem dX9_goYears_11 : decode cX9_goYears 11 = .ok (.if_icmp .ge 26, 3) := by decide +kernel
theorem dX9_goYears_14 : decode cX9_goYears 14 = .ok (.iload_n 2, 1) := by decide +kernel
theorem dX9_goYears_15 : decode cX9_goYears 15 = .ok (.aload_n 0, 1) := by decide +kernel
theorem dX9_goYears_16 : decode cX9_goYears 16 = .ok (.aload_n 0, 1) := by decide +kernel
theorem dX9_goYears_17 : decode cX9_goYears 17 = .ok (.getfield 9, 3) := by decide +kernel
theorem dX9_goYears_20 : decode cX9_goYears 20 = .ok (.bipush 118, 2) := by decide +kernel
theorem dX9_goYears_22 : decode cX9_goYears 22 = .ok (.iload_n 3, 1) := by decide +kernel
theorem dX9_goYears_23 : decode cX9_goYears 23 = .ok (.iadd, 1) := by decide +kernel
theorem dX9_goYears_24 : decode cX9_goYears 24 = .ok (.iaload, 1) := by decide +kernel
theorem dX9_goYears_25 : decode cX9_goYears 25 = .ok (.iload_n 1, 1) := by decide +kernel
theorem dX9_goYears_26 : decode cX9_goYears 26 = .ok (.invokevirtual 272, 3) := by decide +kernel
theorem dX9_goYears_29 : decode cX9_goYears 29 = .ok (.iadd, 1) := by decide +kernel
theorem dX9_goYears_30 : decode cX9_goYears 30 = .ok (.istore_n 2, 1) := by decide +kernel
theorem dX9_goYears_31 : decode cX9_goYears 31 = .ok (.iinc 3 1, 3) := by decide +kernel
theorem dX9_goYears_34 : decode cX9_goYears 34 = .ok (.goto (-30), 3) := by decide +kernel
theorem dX9_goYears_37 : decode cX9_goYears 37 = .ok (.iload_n 2, 1) := by decide +kernel
theorem dX9_goYears_38 : decode cX9_goYears 38 = .ok (.ireturn, 1) := by decide +kernel
theorem dX9_lost_0 : decode cX9_lost 0 = .ok (.aload_n 0, 1) := by decide +kernel
theorem dX9_lost_1 : decode cX9_lost 1 = .ok (.invokevirtual 275, 3) := by decide +kernel
theorem dX9_lost_4 : decode cX9_lost 4 = .ok (.aload_n 0, 1) := by decide +kernel
theorem dX9_lost_5 : decode cX9_lost 5 = .ok (.iconst (-1), 1) := by decide +kernel
theorem dX9_lost_6 : decode cX9_lost 6 = .ok (.invokevirtual 278, 3) := by decide +kernel
theorem dX9_lost_9 : decode cX9_lost 9 = .ok (.isub, 1) := by decide +kernel
theorem dX9_lost_10 : decode cX9_lost 10 = .ok (.ireturn, 1) := by decide +kernel
theorem dX9_plain_0 : decode cX9_plain 0 = .ok (.iload_n 1, 1) := by decide +kernel
theorem dX9_plain_1 : decode cX9_plain 1 = .ok (.iconst 0, 1) := by decide +kernel
theorem dX9_plain_2 : decode cX9_plain 2 = .ok (.iconst 1, 1) := by decide +kernel
theorem dX9_plain_3 : decode cX9_plain 3 = .ok (.invokestatic 104, 3) := by decide +kernel
theorem dX9_plain_6 : decode cX9_plain 6 = .ok (.ifCond .ne 5, 3) := by decide +kernel
theorem dX9_plain_9 : decode cX9_plain 9 = .ok (.iconst (-1), 1) := by decide +kernel
theorem dX9_plain_10 : decode cX9_plain 10 = .ok (.ireturn, 1) := by decide +kernel
theorem dX9_plain_11 : decode cX9_plain 11 = .ok (.aload_n 0, 1) := by decide +kernel
theorem dX9_plain_12 : decode cX9_plain 12 = .ok (.invokevirtual 275, 3) := by decide +kernel
theorem dX9_plain_15 : decode cX9_plain 15 = .ok (.istore_n 2, 1) := by decide +kernel
theorem dX9_plain_16 : decode cX9_plain 16 = .ok (.iconst 0, 1) := by decide +kernel
theorem dX9_plain_17 : decode cX9_plain 17 = .ok (.istore_n 3, 1) := by decide +kernel
theorem dX9_plain_18 : decode cX9_plain 18 = .ok (.iload_n 2, 1) := by decide +kernel
theorem dX9_plain_19 : decode cX9_plain 19 = .ok (.aload_n 0, 1) := by decide +kernel
theorem dX9_plain_20 : decode cX9_plain 20 = .ok (.iconst 0, 1) := by decide +kernel
theorem dX9_plain_21 : decode cX9_plain 21 = .ok (.invokevirtual 278, 3) := by decide +kernel
theorem dX9_plain_24 : decode cX9_plain 24 = .ok (.isub, 1) := by decide +kernel
theorem dX9_plain_25 : decode cX9_plain 25 = .ok (.istore 4, 2) := by decide +kernel
theorem dX9_plain_27 : decode cX9_plain 27 = .ok (.iconst 1, 1) := by decide +kernel
theorem dX9_plain_28 : decode cX9_plain 28 = .ok (.istore 5, 2) := by decide +kernel
theorem dX9_plain_30 : decode cX9_plain 30 = .ok (.iload 5, 2) := by decide +kernel
theorem dX9_plain_32 : decode cX9_plain 32 = .ok (.bipush 24, 2) := by decide +kernel
theorem dX9_plain_34 : decode cX9_plain 34 = .ok (.if_icmp .gt 49, 3) := by decide +kernel
theorem dX9_plain_37 : decode cX9_plain 37 = .ok (.iload_n 2, 1) := by decide +kernel
theorem dX9_plain_38 : decode cX9_plain 38 = .ok (.aload_n 0, 1) := by decide +kernel
theorem dX9_plain_39 : decode cX9_plain 39 = .ok (.iload 5, 2) := by decide +kernel
theorem dX9_plain_41 : decode cX9_plain 41 = .ok (.invokevirtual 278, 3) := by decide +kernel
theorem dX9_plain_44 : decode cX9_plain 44 = .ok (.isub, 1) := by decide +kernel
theorem dX9_plain_45 : decode cX9_plain 45 = .ok (.istore 6, 2) := by decide +kernel
theorem dX9_plain_47 : decode cX9_plain 47 = .ok (.iload 6, 2) := by decide +kernel
theorem dX9_plain_49 : decode cX9_plain 49 = .ok (.iload 4, 2) := by decide +kernel
theorem dX9_plain_51 : decode cX9_plain 51 = .ok (.if_icmp .ge 8, 3) := by decide +kernel
theorem dX9_plain_54 : decode cX9_plain 54 = .ok (.iload 5, 2) := by decide +kernel
theorem dX9_plain_56 : decode cX9_plain 56 = .ok (.goto 4, 3) := by decide +kernel
theorem dX9_plain_59 : decode cX9_plain 59 = .ok (.iload_n 3, 1) := by decide +kernel
theorem dX9_plain_60 : decode cX9_plain 60 = .ok (.istore_n 3, 1) := by decide +kernel
theorem dX9_plain_61 : decode cX9_plain 61 = .ok (.iload 6, 2) := by decide +kernel
theorem dX9_plain_63 : decode cX9_plain 63 = .ok (.iload 4, 2) := by decide +kernel
theorem dX9_plain_65 : decode cX9_plain 65 = .ok (.if_icmp .ge 8, 3) := by decide +kernel
theorem dX9_plain_68 : decode cX9_plain 68 = .ok (.iload 6, 2) := by decide +kernel
theorem dX9_plain_70 : decode cX9_plain 70 = .ok (.goto 5, 3) := by decide +kernel
theorem dX9_plain_73 : decode cX9_plain 73 = .ok (.iload 4, 2) := by decide +kernel
theorem dX9_plain_75 : decode cX9_plain 75 = .ok (.istore 4, 2) := by decide +kernel
theorem dX9_plain_77 : decode cX9_plain 77 = .ok (.iinc 5 1, 3) := by decide +kernel
theorem dX9_plain_80 : decode cX9_plain 80 = .ok (.goto (-50), 3) := by decide +kernel
theorem dX9_plain_83 : decode cX9_plain 83 = .ok (.iload_n 1, 1) := by decide +kernel
theorem dX9_plain_84 : decode cX9_plain 84 = .ok (.ifCond .ne 8, 3) := by decide +kernel
theorem dX9_plain_87 : decode cX9_plain 87 = .ok (.iload 4, 2) := by decide +kernel
theorem dX9_plain_89 : decode cX9_plain 89 = .ok (.goto 4, 3) := by decide +kernel
theorem dX9_plain_92 : decode cX9_plain 92 = .ok (.iload_n 3, 1) := by decide +kernel
theorem dX9_plain_93 : decode cX9_plain 93 = .ok (.ireturn, 1) := by decide +kernel
theorem dX9_breaks_0 : decode cX9_breaks 0 = .ok (.iload_n 1, 1) := by decide +kernel
theorem dX9_breaks_1 : decode cX9_breaks 1 = .ok (.iconst 0, 1) := by decide +kernel
theorem dX9_breaks_2 : decode cX9_breaks 2 = .ok (.bipush 20, 2) := by decide +kernel
theorem dX9_breaks_4 : decode cX9_breaks 4 = .ok (.invokestatic 104, 3) := by decide +kernel
theorem dX9_breaks_7 : decode cX9_breaks 7 = .ok (.ifCond .ne 5, 3) := by decide +kernel
theorem dX9_breaks_10 : decode cX9_breaks 10 = .ok (.iconst (-1), 1) := by decide +kernel
theorem dX9_breaks_11 : decode cX9_breaks 11 = .ok (.ireturn, 1) := by decide +kernel
theorem dX9_breaks_12 : decode cX9_breaks 12 = .ok (.aload_n 0, 1) := by decide +kernel
theorem dX9_breaks_13 : decode cX9_breaks 13 = .ok (.iload_n 1, 1) := by decide +kernel
theorem dX9_breaks_14 : decode cX9_breaks 14 = .ok (.iconst (-1), 1) := by decide +kernel
theorem dX9_breaks_15 : decode cX9_breaks 15 = .ok (.invokevirtual 272, 3) := by decide +kernel
theorem dX9_breaks_18 : decode cX9_breaks 18 = .ok (.istore_n 2, 1) := by decide +kernel
theorem dX9_breaks_19 : decode cX9_breaks 19 = .ok (.iconst 0, 1) := by decide +kernel
theorem dX9_breaks_20 : decode cX9_breaks 20 = .ok (.istore_n 3, 1) := by decide +kernel
theorem dX9_breaks_21 : decode cX9_breaks 21 = .ok (.iload_n 3, 1) := by decide +kernel
theorem dX9_breaks_22 : decode cX9_breaks 22 = .ok (.aload_n 0, 1) := by decide +kernel
theorem dX9_breaks_23 : decode cX9_breaks 23 = .ok (.getfield 9, 3) := by decide +kernel
theorem dX9_breaks_26 : decode cX9_breaks 26 = .ok (.iconst 0, 1) := by decide +kernel
theorem dX9_breaks_27 : decode cX9_breaks 27 = .ok (.iaload, 1) := by decide +kernel
theorem dX9_breaks_28 : decode cX9_breaks 28 = .ok (.if_icmp .ge 55, 3) := by decide +kernel
theorem dX9_breaks_31 : decode cX9_breaks 31 = .ok (.aload_n 0, 1) := by decide +kernel
theorem dX9_breaks_32 : decode cX9_breaks 32 = .ok (.iload_n 3, 1) := by decide +kernel
theorem dX9_breaks_33 : decode cX9_breaks 33 = .ok (.aload_n 0, 1) := by decide +kernel
theorem dX9_breaks_34 : decode cX9_breaks 34 = .ok (.getfield 68, 3) := by decide +kernel
theorem dX9_breaks_37 : decode cX9_breaks 37 = .ok (.iload_n 3, 1) := by decide +kernel
theorem dX9_breaks_38 : decode cX9_breaks 38 = .ok (.iaload, 1) := by decide +kernel
theorem dX9_breaks_39 : decode cX9_breaks 39 = .ok (.invokevirtual 151, 3) := by decide +kernel
theorem dX9_breaks_42 : decode cX9_breaks 42 = .ok (.istore 4, 2) := by decide +kernel
theorem dX9_breaks_44 : decode cX9_breaks 44 = .ok (.aload_n 0, 1) := by decide +kernel
theorem dX9_breaks_45 : decode cX9_breaks 45 = .ok (.iload_n 3, 1) := by decide +kernel
theorem dX9_breaks_46 : decode cX9_breaks 46 = .ok (.iload 4, 2) := by decide +kernel
theorem dX9_breaks_48 : decode cX9_breaks 48 = .ok (.invokevirtual 123, 3) := by decide +kernel
theorem dX9_breaks_51 : decode cX9_breaks 51 = .ok (.aload_n 0, 1) := by decide +kernel
theorem dX9_breaks_52 : decode cX9_breaks 52 = .ok (.iload_n 3, 1) := by decide +kernel
theorem dX9_breaks_53 : decode cX9_breaks 53 = .ok (.aload_n 0, 1) := by decide +kernel
theorem dX9_breaks_54 : decode cX9_breaks 54 = .ok (.getfield 68, 3) := by decide +kernel
theorem dX9_breaks_57 : decode cX9_breaks 57 = .ok (.iload_n 3, 1) := by decide +kernel
theorem dX9_breaks_58 : decode cX9_breaks 58 = .ok (.iaload, 1) := by decide +kernel
theorem dX9_breaks_59 : decode cX9_breaks 59 = .ok (.iload 4, 2) := by decide +kernel
theorem dX9_breaks_61 : decode cX9_breaks 61 = .ok (.isub, 1) := by decide +kernel
theorem dX9_breaks_62 : decode cX9_breaks 62 = .ok (.invokevirtual 126, 3) := by decide +kernel
theorem dX9_breaks_65 : decode cX9_breaks 65 = .ok (.isub, 1) := by decide +kernel
theorem dX9_breaks_66 : decode cX9_breaks 66 = .ok (.aload_n 0, 1) := by decide +kernel
theorem dX9_breaks_67 : decode cX9_breaks 67 = .ok (.getfield 77, 3) := by decide +kernel
theorem dX9_breaks_70 : decode cX9_breaks 70 = .ok (.iload_n 3, 1) := by decide +kernel
theorem dX9_breaks_71 : decode cX9_breaks 71 = .ok (.iaload, 1) := by decide +kernel
theorem dX9_breaks_72 : decode cX9_breaks 72 = .ok (.if_icmp .le 5, 3) := by decide +kernel
theorem dX9_breaks_75 : decode cX9_breaks 75 = .ok (.iload_n 3, 1) := by decide +kernel
theorem dX9_breaks_76 : decode cX9_breaks 76 = .ok (.ireturn, 1) := by decide +kernel
theorem dX9_breaks_77 : decode cX9_breaks 77 = .ok (.iinc 3 1, 3) := by decide +kernel
theorem dX9_breaks_80 : decode cX9_breaks 80 = .ok (.goto (-59), 3) := by decide +kernel
theorem dX9_breaks_83 : decode cX9_breaks 83 = .ok (.bipush (-9), 2) := by decide +kernel
theorem dX9_breaks_85 : decode cX9_breaks 85 = .ok (.ireturn, 1) := by decide +kernel
theorem dX9_prove_0 : decode cX9_prove 0 = .ok (.aload_n 0, 1) := by decide +kernel
theorem dX9_prove_1 : decode cX9_prove 1 = .ok (.invokevirtual 141, 3) := by decide +kernel
theorem dX9_prove_4 : decode cX9_prove 4 = .ok (.istore_n 1, 1) := by decide +kernel
theorem dX9_prove_5 : decode cX9_prove 5 = .ok (.aload_n 0, 1) := by decide +kernel
theorem dX9_prove_6 : decode cX9_prove 6 = .ok (.aload_n 0, 1) := by decide +kernel
theorem dX9_prove_7 : decode cX9_prove 7 = .ok (.getfield 9, 3) := by decide +kernel
theorem dX9_prove_10 : decode cX9_prove 10 = .ok (.iconst 0, 1) := by decide +kernel
theorem dX9_prove_11 : decode cX9_prove 11 = .ok (.iaload, 1) := by decide +kernel
theorem dX9_prove_12 : decode cX9_prove 12 = .ok (.putfield 281, 3) := by decide +kernel
theorem dX9_prove_15 : decode cX9_prove 15 = .ok (.iconst 0, 1) := by decide +kernel
theorem dX9_prove_16 : decode cX9_prove 16 = .ok (.istore_n 2, 1) := by decide +kernel
theorem dX9_prove_17 : decode cX9_prove 17 = .ok (.iload_n 2, 1) := by decide +kernel
theorem dX9_prove_18 : decode cX9_prove 18 = .ok (.aload_n 0, 1) := by decide +kernel
theorem dX9_prove_19 : decode cX9_prove 19 = .ok (.getfield 281, 3) := by decide +kernel
theorem dX9_prove_22 : decode cX9_prove 22 = .ok (.if_icmp .ge 50, 3) := by decide +kernel
theorem dX9_prove_25 : decode cX9_prove 25 = .ok (.aload_n 0, 1) := by decide +kernel
theorem dX9_prove_26 : decode cX9_prove 26 = .ok (.getfield 80, 3) := by decide +kernel
theorem dX9_prove_29 : decode cX9_prove 29 = .ok (.iconst 3, 1) := by decide +kernel
theorem dX9_prove_30 : decode cX9_prove 30 = .ok (.iload_n 2, 1) := by decide +kernel
theorem dX9_prove_31 : decode cX9_prove 31 = .ok (.imul, 1) := by decide +kernel
theorem dX9_prove_32 : decode cX9_prove 32 = .ok (.iload_n 2, 1) := by decide +kernel
theorem dX9_prove_33 : decode cX9_prove 33 = .ok (.iastore, 1) := by decide +kernel
theorem dX9_prove_34 : decode cX9_prove 34 = .ok (.aload_n 0, 1) := by decide +kernel
theorem dX9_prove_35 : decode cX9_prove 35 = .ok (.getfield 80, 3) := by decide +kernel
theorem dX9_prove_38 : decode cX9_prove 38 = .ok (.iconst 3, 1) := by decide +kernel
theorem dX9_prove_39 : decode cX9_prove 39 = .ok (.iload_n 2, 1) := by decide +kernel
theorem dX9_prove_40 : decode cX9_prove 40 = .ok (.imul, 1) := by decide +kernel
theorem dX9_prove_41 : decode cX9_prove 41 = .ok (.iconst 1, 1) := by decide +kernel
theorem dX9_prove_42 : decode cX9_prove 42 = .ok (.iadd, 1) := by decide +kernel
theorem dX9_prove_43 : decode cX9_prove 43 = .ok (.aload_n 0, 1) := by decide +kernel
theorem dX9_prove_44 : decode cX9_prove 44 = .ok (.getfield 25, 3) := by decide +kernel
theorem dX9_prove_47 : decode cX9_prove 47 = .ok (.iload_n 2, 1) := by decide +kernel
theorem dX9_prove_48 : decode cX9_prove 48 = .ok (.iaload, 1) := by decide +kernel
theorem dX9_prove_49 : decode cX9_prove 49 = .ok (.iastore, 1) := by decide +kernel
theorem dX9_prove_50 : decode cX9_prove 50 = .ok (.aload_n 0, 1) := by decide +kernel
theorem dX9_prove_51 : decode cX9_prove 51 = .ok (.getfield 80, 3) := by decide +kernel
theorem dX9_prove_54 : decode cX9_prove 54 = .ok (.iconst 3, 1) := by decide +kernel
theorem dX9_prove_55 : decode cX9_prove 55 = .ok (.iload_n 2, 1) := by decide +kernel
theorem dX9_prove_56 : decode cX9_prove 56 = .ok (.imul, 1) := by decide +kernel
theorem dX9_prove_57 : decode cX9_prove 57 = .ok (.iconst 2, 1) := by decide +kernel
theorem dX9_prove_58 : decode cX9_prove 58 = .ok (.iadd, 1) := by decide +kernel
theorem dX9_prove_59 : decode cX9_prove 59 = .ok (.aload_n 0, 1) := by decide +kernel
theorem dX9_prove_60 : decode cX9_prove 60 = .ok (.getfield 28, 3) := by decide +kernel
theorem dX9_prove_63 : decode cX9_prove 63 = .ok (.iload_n 2, 1) := by decide +kernel
theorem dX9_prove_64 : decode cX9_prove 64 = .ok (.iaload, 1) := by decide +kernel
theorem dX9_prove_65 : decode cX9_prove 65 = .ok (.iastore, 1) := by decide +kernel
theorem dX9_prove_66 : decode cX9_prove 66 = .ok (.iinc 2 1, 3) := by decide +kernel
theorem dX9_prove_69 : decode cX9_prove 69 = .ok (.goto (-52), 3) := by decide +kernel
theorem dX9_prove_72 : decode cX9_prove 72 = .ok (.aload_n 0, 1) := by decide +kernel
theorem dX9_prove_73 : decode cX9_prove 73 = .ok (.getfield 281, 3) := by decide +kernel
theorem dX9_prove_76 : decode cX9_prove 76 = .ok (.ireturn, 1) := by decide +kernel
theorem dX9_isRow_0 : decode cX9_isRow 0 = .ok (.iload_n 1, 1) := by decide +kernel
theorem dX9_isRow_1 : decode cX9_isRow 1 = .ok (.iconst 0, 1) := by decide +kernel
theorem dX9_isRow_2 : decode cX9_isRow 2 = .ok (.aload_n 0, 1) := by decide +kernel
theorem dX9_isRow_3 : decode cX9_isRow 3 = .ok (.getfield 281, 3) := by decide +kernel
theorem dX9_isRow_6 : decode cX9_isRow 6 = .ok (.iconst 1, 1) := by decide +kernel
theorem dX9_isRow_7 : decode cX9_isRow 7 = .ok (.isub, 1) := by decide +kernel
theorem dX9_isRow_8 : decode cX9_isRow 8 = .ok (.invokestatic 104, 3) := by decide +kernel
theorem dX9_isRow_11 : decode cX9_isRow 11 = .ok (.ifCond .eq 16, 3) := by decide +kernel
theorem dX9_isRow_14 : decode cX9_isRow 14 = .ok (.iload_n 2, 1) := by decide +kernel
theorem dX9_isRow_15 : decode cX9_isRow 15 = .ok (.iconst 0, 1) := by decide +kernel
theorem dX9_isRow_16 : decode cX9_isRow 16 = .ok (.iconst 2, 1) := by decide +kernel
theorem dX9_isRow_17 : decode cX9_isRow 17 = .ok (.invokestatic 104, 3) := by decide +kernel
theorem dX9_isRow_20 : decode cX9_isRow 20 = .ok (.ifCond .eq 7, 3) := by decide +kernel
theorem dX9_isRow_23 : decode cX9_isRow 23 = .ok (.iconst 1, 1) := by decide +kernel
theorem dX9_isRow_24 : decode cX9_isRow 24 = .ok (.goto 4, 3) := by decide +kernel
theorem dX9_isRow_27 : decode cX9_isRow 27 = .ok (.iconst 0, 1) := by decide +kernel
theorem dX9_isRow_28 : decode cX9_isRow 28 = .ok (.ireturn, 1) := by decide +kernel
theorem dX9_row_0 : decode cX9_row 0 = .ok (.aload_n 0, 1) := by decide +kernel
theorem dX9_row_1 : decode cX9_row 1 = .ok (.iload_n 1, 1) := by decide +kernel
theorem dX9_row_2 : decode cX9_row 2 = .ok (.iload_n 2, 1) := by decide +kernel
theorem dX9_row_3 : decode cX9_row 3 = .ok (.invokevirtual 284, 3) := by decide +kernel
theorem dX9_row_6 : decode cX9_row 6 = .ok (.ifCond .eq 16, 3) := by decide +kernel
theorem dX9_row_9 : decode cX9_row 9 = .ok (.aload_n 0, 1) := by decide +kernel
theorem dX9_row_10 : decode cX9_row 10 = .ok (.getfield 80, 3) := by decide +kernel
theorem dX9_row_13 : decode cX9_row 13 = .ok (.iconst 3, 1) := by decide +kernel
theorem dX9_row_14 : decode cX9_row 14 = .ok (.iload_n 1, 1) := by decide +kernel
theorem dX9_row_15 : decode cX9_row 15 = .ok (.imul, 1) := by decide +kernel
theorem dX9_row_16 : decode cX9_row 16 = .ok (.iload_n 2, 1) := by decide +kernel
theorem dX9_row_17 : decode cX9_row 17 = .ok (.iadd, 1) := by decide +kernel
theorem dX9_row_18 : decode cX9_row 18 = .ok (.iaload, 1) := by decide +kernel
theorem dX9_row_19 : decode cX9_row 19 = .ok (.goto 5, 3) := by decide +kernel
theorem dX9_row_22 : decode cX9_row 22 = .ok (.bipush (-9), 2) := by decide +kernel
theorem dX9_row_24 : decode cX9_row 24 = .ok (.ireturn, 1) := by decide +kernel
theorem dX9_alterRow_0 : decode cX9_alterRow 0 = .ok (.aload_n 0, 1) := by decide +kernel
theorem dX9_alterRow_1 : decode cX9_alterRow 1 = .ok (.iload_n 1, 1) := by decide +kernel
theorem dX9_alterRow_2 : decode cX9_alterRow 2 = .ok (.iload_n 2, 1) := by decide +kernel
theorem dX9_alterRow_3 : decode cX9_alterRow 3 = .ok (.invokevirtual 284, 3) := by decide +kernel
theorem dX9_alterRow_6 : decode cX9_alterRow 6 = .ok (.ifCond .ne 6, 3) := by decide +kernel
theorem dX9_alterRow_9 : decode cX9_alterRow 9 = .ok (.bipush (-9), 2) := by decide +kernel
theorem dX9_alterRow_11 : decode cX9_alterRow 11 = .ok (.ireturn, 1) := by decide +kernel
theorem dX9_alterRow_12 : decode cX9_alterRow 12 = .ok (.aload_n 0, 1) := by decide +kernel
theorem dX9_alterRow_13 : decode cX9_alterRow 13 = .ok (.getfield 80, 3) := by decide +kernel
theorem dX9_alterRow_16 : decode cX9_alterRow 16 = .ok (.iconst 3, 1) := by decide +kernel
theorem dX9_alterRow_17 : decode cX9_alterRow 17 = .ok (.iload_n 1, 1) := by decide +kernel
theorem dX9_alterRow_18 : decode cX9_alterRow 18 = .ok (.imul, 1) := by decide +kernel
theorem dX9_alterRow_19 : decode cX9_alterRow 19 = .ok (.iload_n 2, 1) := by decide +kernel
theorem dX9_alterRow_20 : decode cX9_alterRow 20 = .ok (.iadd, 1) := by decide +kernel
theorem dX9_alterRow_21 : decode cX9_alterRow 21 = .ok (.iaload, 1) := by decide +kernel
theorem dX9_alterRow_22 : decode cX9_alterRow 22 = .ok (.istore 4, 2) := by decide +kernel
theorem dX9_alterRow_24 : decode cX9_alterRow 24 = .ok (.aload_n 0, 1) := by decide +kernel
theorem dX9_alterRow_25 : decode cX9_alterRow 25 = .ok (.getfield 80, 3) := by decide +kernel
theorem dX9_alterRow_28 : decode cX9_alterRow 28 = .ok (.iconst 3, 1) := by decide +kernel
theorem dX9_alterRow_29 : decode cX9_alterRow 29 = .ok (.iload_n 1, 1) := by decide +kernel
theorem dX9_alterRow_30 : decode cX9_alterRow 30 = .ok (.imul, 1) := by decide +kernel
theorem dX9_alterRow_31 : decode cX9_alterRow 31 = .ok (.iload_n 2, 1) := by decide +kernel
theorem dX9_alterRow_32 : decode cX9_alterRow 32 = .ok (.iadd, 1) := by decide +kernel
theorem dX9_alterRow_33 : decode cX9_alterRow 33 = .ok (.iload_n 3, 1) := by decide +kernel
theorem dX9_alterRow_34 : decode cX9_alterRow 34 = .ok (.iastore, 1) := by decide +kernel
theorem dX9_alterRow_35 : decode cX9_alterRow 35 = .ok (.iload 4, 2) := by decide +kernel
theorem dX9_alterRow_37 : decode cX9_alterRow 37 = .ok (.ireturn, 1) := by decide +kernel
theorem dX9_judge_0 : decode cX9_judge 0 = .ok (.iconst 0, 1) := by decide +kernel
theorem dX9_judge_1 : decode cX9_judge 1 = .ok (.istore_n 1, 1) := by decide +kernel
theorem dX9_judge_2 : decode cX9_judge 2 = .ok (.iconst 0, 1) := by decide +kernel
theorem dX9_judge_3 : decode cX9_judge 3 = .ok (.istore_n 2, 1) := by decide +kernel
theorem dX9_judge_4 : decode cX9_judge 4 = .ok (.iconst 0, 1) := by decide +kernel
theorem dX9_judge_5 : decode cX9_judge 5 = .ok (.istore_n 3, 1) := by decide +kernel
theorem dX9_judge_6 : decode cX9_judge 6 = .ok (.iload_n 3, 1) := by decide +kernel
theorem dX9_judge_7 : decode cX9_judge 7 = .ok (.aload_n 0, 1) := by decide +kernel
theorem dX9_judge_8 : decode cX9_judge 8 = .ok (.getfield 281, 3) := by decide +kernel
theorem dX9_judge_11 : decode cX9_judge 11 = .ok (.if_icmp .ge 122, 3) := by decide +kernel
theorem dX9_judge_14 : decode cX9_judge 14 = .ok (.aload_n 0, 1) := by decide +kernel
theorem dX9_judge_15 : decode cX9_judge 15 = .ok (.iload_n 3, 1) := by decide +kernel
theorem dX9_judge_16 : decode cX9_judge 16 = .ok (.invokevirtual 112, 3) := by decide +kernel
theorem dX9_judge_19 : decode cX9_judge 19 = .ok (.ifCond .eq 15, 3) := by decide +kernel
theorem dX9_judge_22 : decode cX9_judge 22 = .ok (.aload_n 0, 1) := by decide +kernel
theorem dX9_judge_23 : decode cX9_judge 23 = .ok (.getfield 80, 3) := by decide +kernel
theorem dX9_judge_26 : decode cX9_judge 26 = .ok (.iconst 3, 1) := by decide +kernel
theorem dX9_judge_27 : decode cX9_judge 27 = .ok (.iload_n 3, 1) := by decide +kernel
theorem dX9_judge_28 : decode cX9_judge 28 = .ok (.imul, 1) := by decide +kernel
theorem dX9_judge_29 : decode cX9_judge 29 = .ok (.iaload, 1) := by decide +kernel
theorem dX9_judge_30 : decode cX9_judge 30 = .ok (.iload_n 3, 1) := by decide +kernel
theorem dX9_judge_31 : decode cX9_judge 31 = .ok (.if_icmp .eq 7, 3) := by decide +kernel
theorem dX9_judge_34 : decode cX9_judge 34 = .ok (.iload_n 3, 1) := by decide +kernel
theorem dX9_judge_35 : decode cX9_judge 35 = .ok (.iconst 1, 1) := by decide +kernel
theorem dX9_judge_36 : decode cX9_judge 36 = .ok (.iadd, 1) := by decide +kernel
theorem dX9_judge_37 : decode cX9_judge 37 = .ok (.ireturn, 1) := by decide +kernel
theorem dX9_judge_38 : decode cX9_judge 38 = .ok (.iload_n 1, 1) := by decide +kernel
theorem dX9_judge_39 : decode cX9_judge 39 = .ok (.aload_n 0, 1) := by decide +kernel
theorem dX9_judge_40 : decode cX9_judge 40 = .ok (.iload_n 3, 1) := by decide +kernel
theorem dX9_judge_41 : decode cX9_judge 41 = .ok (.iconst 0, 1) := by decide +kernel
theorem dX9_judge_42 : decode cX9_judge 42 = .ok (.invokevirtual 116, 3) := by decide +kernel
theorem dX9_judge_45 : decode cX9_judge 45 = .ok (.iadd, 1) := by decide +kernel
theorem dX9_judge_46 : decode cX9_judge 46 = .ok (.istore 4, 2) := by decide +kernel
theorem dX9_judge_48 : decode cX9_judge 48 = .ok (.aload_n 0, 1) := by decide +kernel
theorem dX9_judge_49 : decode cX9_judge 49 = .ok (.getfield 80, 3) := by decide +kernel
theorem dX9_judge_52 : decode cX9_judge 52 = .ok (.iconst 3, 1) := by decide +kernel
theorem dX9_judge_53 : decode cX9_judge 53 = .ok (.iload_n 3, 1) := by decide +kernel
theorem dX9_judge_54 : decode cX9_judge 54 = .ok (.imul, 1) := by decide +kernel
theorem dX9_judge_55 : decode cX9_judge 55 = .ok (.iconst 1, 1) := by decide +kernel
theorem dX9_judge_56 : decode cX9_judge 56 = .ok (.iadd, 1) := by decide +kernel
theorem dX9_judge_57 : decode cX9_judge 57 = .ok (.iaload, 1) := by decide +kernel
theorem dX9_judge_58 : decode cX9_judge 58 = .ok (.istore 5, 2) := by decide +kernel
theorem dX9_judge_60 : decode cX9_judge 60 = .ok (.iload 5, 2) := by decide +kernel
theorem dX9_judge_62 : decode cX9_judge 62 = .ok (.iconst 0, 1) := by decide +kernel
theorem dX9_judge_63 : decode cX9_judge 63 = .ok (.bipush 12, 2) := by decide +kernel
theorem dX9_judge_65 : decode cX9_judge 65 = .ok (.invokestatic 104, 3) := by decide +kernel
theorem dX9_judge_68 : decode cX9_judge 68 = .ok (.ifCond .eq 28, 3) := by decide +kernel
theorem dX9_judge_71 : decode cX9_judge 71 = .ok (.iload 5, 2) := by decide +kernel
theorem dX9_judge_73 : decode cX9_judge 73 = .ok (.iload 4, 2) := by decide +kernel
theorem dX9_judge_75 : decode cX9_judge 75 = .ok (.if_icmp .gt 21, 3) := by decide +kernel
theorem dX9_judge_78 : decode cX9_judge 78 = .ok (.aload_n 0, 1) := by decide +kernel
theorem dX9_judge_79 : decode cX9_judge 79 = .ok (.getfield 80, 3) := by decide +kernel
theorem dX9_judge_82 : decode cX9_judge 82 = .ok (.iconst 3, 1) := by decide +kernel
theorem dX9_judge_83 : decode cX9_judge 83 = .ok (.iload_n 3, 1) := by decide +kernel
theorem dX9_judge_84 : decode cX9_judge 84 = .ok (.imul, 1) := by decide +kernel
theorem dX9_judge_85 : decode cX9_judge 85 = .ok (.iconst 2, 1) := by decide +kernel
theorem dX9_judge_86 : decode cX9_judge 86 = .ok (.iadd, 1) := by decide +kernel
theorem dX9_judge_87 : decode cX9_judge 87 = .ok (.iaload, 1) := by decide +kernel
theorem dX9_judge_88 : decode cX9_judge 88 = .ok (.iload 4, 2) := by decide +kernel
theorem dX9_judge_90 : decode cX9_judge 90 = .ok (.iload 5, 2) := by decide +kernel
theorem dX9_judge_92 : decode cX9_judge 92 = .ok (.isub, 1) := by decide +kernel
theorem dX9_judge_93 : decode cX9_judge 93 = .ok (.if_icmp .eq 7, 3) := by decide +kernel
theorem dX9_judge_96 : decode cX9_judge 96 = .ok (.iload_n 3, 1) := by decide +kernel
theorem dX9_judge_97 : decode cX9_judge 97 = .ok (.iconst 1, 1) := by decide +kernel
theorem dX9_judge_98 : decode cX9_judge 98 = .ok (.iadd, 1) := by decide +kernel
theorem dX9_judge_99 : decode cX9_judge 99 = .ok (.ireturn, 1) := by decide +kernel
theorem dX9_judge_100 : decode cX9_judge 100 = .ok (.iload_n 2, 1) := by decide +kernel
theorem dX9_judge_101 : decode cX9_judge 101 = .ok (.aload_n 0, 1) := by decide +kernel
theorem dX9_judge_102 : decode cX9_judge 102 = .ok (.iload_n 3, 1) := by decide +kernel
theorem dX9_judge_103 : decode cX9_judge 103 = .ok (.iload 5, 2) := by decide +kernel
theorem dX9_judge_105 : decode cX9_judge 105 = .ok (.invokevirtual 123, 3) := by decide +kernel
theorem dX9_judge_108 : decode cX9_judge 108 = .ok (.aload_n 0, 1) := by decide +kernel
theorem dX9_judge_109 : decode cX9_judge 109 = .ok (.iload_n 3, 1) := by decide +kernel
theorem dX9_judge_110 : decode cX9_judge 110 = .ok (.iload 4, 2) := by decide +kernel
theorem dX9_judge_112 : decode cX9_judge 112 = .ok (.iload 5, 2) := by decide +kernel
theorem dX9_judge_114 : decode cX9_judge 114 = .ok (.isub, 1) := by decide +kernel
theorem dX9_judge_115 : decode cX9_judge 115 = .ok (.invokevirtual 126, 3) := by decide +kernel
theorem dX9_judge_118 : decode cX9_judge 118 = .ok (.isub, 1) := by decide +kernel
theorem dX9_judge_119 : decode cX9_judge 119 = .ok (.iadd, 1) := by decide +kernel
theorem dX9_judge_120 : decode cX9_judge 120 = .ok (.istore_n 2, 1) := by decide +kernel
theorem dX9_judge_121 : decode cX9_judge 121 = .ok (.iload 4, 2) := by decide +kernel
theorem dX9_judge_123 : decode cX9_judge 123 = .ok (.iload 5, 2) := by decide +kernel
theorem dX9_judge_125 : decode cX9_judge 125 = .ok (.isub, 1) := by decide +kernel
theorem dX9_judge_126 : decode cX9_judge 126 = .ok (.istore_n 1, 1) := by decide +kernel
theorem dX9_judge_127 : decode cX9_judge 127 = .ok (.iinc 3 1, 3) := by decide +kernel
theorem dX9_judge_130 : decode cX9_judge 130 = .ok (.goto (-124), 3) := by decide +kernel
theorem dX9_judge_133 : decode cX9_judge 133 = .ok (.aload_n 0, 1) := by decide +kernel
theorem dX9_judge_134 : decode cX9_judge 134 = .ok (.getfield 281, 3) := by decide +kernel
theorem dX9_judge_137 : decode cX9_judge 137 = .ok (.aload_n 0, 1) := by decide +kernel
theorem dX9_judge_138 : decode cX9_judge 138 = .ok (.getfield 9, 3) := by decide +kernel
theorem dX9_judge_141 : decode cX9_judge 141 = .ok (.iconst 0, 1) := by decide +kernel
theorem dX9_judge_142 : decode cX9_judge 142 = .ok (.iaload, 1) := by decide +kernel
theorem dX9_judge_143 : decode cX9_judge 143 = .ok (.if_icmp .eq 6, 3) := by decide +kernel
theorem dX9_judge_146 : decode cX9_judge 146 = .ok (.bipush 21, 2) := by decide +kernel
theorem dX9_judge_148 : decode cX9_judge 148 = .ok (.ireturn, 1) := by decide +kernel
theorem dX9_judge_149 : decode cX9_judge 149 = .ok (.iload_n 2, 1) := by decide +kernel
theorem dX9_judge_150 : decode cX9_judge 150 = .ok (.aload_n 0, 1) := by decide +kernel
theorem dX9_judge_151 : decode cX9_judge 151 = .ok (.bipush 10, 2) := by decide +kernel
theorem dX9_judge_153 : decode cX9_judge 153 = .ok (.invokevirtual 136, 3) := by decide +kernel
theorem dX9_judge_156 : decode cX9_judge 156 = .ok (.if_icmp .ge 8, 3) := by decide +kernel
theorem dX9_judge_159 : decode cX9_judge 159 = .ok (.bipush 22, 2) := by decide +kernel
theorem dX9_judge_161 : decode cX9_judge 161 = .ok (.goto 4, 3) := by decide +kernel
theorem dX9_judge_164 : decode cX9_judge 164 = .ok (.iconst 0, 1) := by decide +kernel
theorem dX9_judge_165 : decode cX9_judge 165 = .ok (.ireturn, 1) := by decide +kernel
theorem dX9_isFour_0 : decode cX9_isFour 0 = .ok (.iload_n 0, 1) := by decide +kernel
theorem dX9_isFour_1 : decode cX9_isFour 1 = .ok (.iconst 0, 1) := by decide +kernel
theorem dX9_isFour_2 : decode cX9_isFour 2 = .ok (.iconst 3, 1) := by decide +kernel
theorem dX9_isFour_3 : decode cX9_isFour 3 = .ok (.invokestatic 104, 3) := by decide +kernel
theorem dX9_isFour_6 : decode cX9_isFour 6 = .ok (.ireturn, 1) := by decide +kernel
theorem dX9_sheet_0 : decode cX9_sheet 0 = .ok (.iload_n 1, 1) := by decide +kernel
theorem dX9_sheet_1 : decode cX9_sheet 1 = .ok (.invokestatic 287, 3) := by decide +kernel
theorem dX9_sheet_4 : decode cX9_sheet 4 = .ok (.ifCond .eq 22, 3) := by decide +kernel
theorem dX9_sheet_7 : decode cX9_sheet 7 = .ok (.iload_n 2, 1) := by decide +kernel
theorem dX9_sheet_8 : decode cX9_sheet 8 = .ok (.iconst (-1), 1) := by decide +kernel
theorem dX9_sheet_9 : decode cX9_sheet 9 = .ok (.iconst 3, 1) := by decide +kernel
theorem dX9_sheet_10 : decode cX9_sheet 10 = .ok (.invokestatic 104, 3) := by decide +kernel
theorem dX9_sheet_13 : decode cX9_sheet 13 = .ok (.ifCond .eq 13, 3) := by decide +kernel
theorem dX9_sheet_16 : decode cX9_sheet 16 = .ok (.iload_n 2, 1) := by decide +kernel
theorem dX9_sheet_17 : decode cX9_sheet 17 = .ok (.ifCond .lt 11, 3) := by decide +kernel
theorem dX9_sheet_20 : decode cX9_sheet 20 = .ok (.iload_n 3, 1) := by decide +kernel
theorem dX9_sheet_21 : decode cX9_sheet 21 = .ok (.bipush 40, 2) := by decide +kernel
theorem dX9_sheet_23 : decode cX9_sheet 23 = .ok (.if_icmp .le 5, 3) := by decide +kernel
theorem dX9_sheet_26 : decode cX9_sheet 26 = .ok (.iconst (-1), 1) := by decide +kernel
theorem dX9_sheet_27 : decode cX9_sheet 27 = .ok (.ireturn, 1) := by decide +kernel
theorem dX9_sheet_28 : decode cX9_sheet 28 = .ok (.iload_n 2, 1) := by decide +kernel
theorem dX9_sheet_29 : decode cX9_sheet 29 = .ok (.ifCond .lt 10, 3) := by decide +kernel
theorem dX9_sheet_32 : decode cX9_sheet 32 = .ok (.iload_n 3, 1) := by decide +kernel
theorem dX9_sheet_33 : decode cX9_sheet 33 = .ok (.ifCond .ge 6, 3) := by decide +kernel
theorem dX9_sheet_36 : decode cX9_sheet 36 = .ok (.bipush (-14), 2) := by decide +kernel
theorem dX9_sheet_38 : decode cX9_sheet 38 = .ok (.ireturn, 1) := by decide +kernel
theorem dX9_sheet_39 : decode cX9_sheet 39 = .ok (.aload_n 0, 1) := by decide +kernel
theorem dX9_sheet_40 : decode cX9_sheet 40 = .ok (.getfield 83, 3) := by decide +kernel
theorem dX9_sheet_43 : decode cX9_sheet 43 = .ok (.iload_n 1, 1) := by decide +kernel
theorem dX9_sheet_44 : decode cX9_sheet 44 = .ok (.iload_n 2, 1) := by decide +kernel
theorem dX9_sheet_45 : decode cX9_sheet 45 = .ok (.iastore, 1) := by decide +kernel
theorem dX9_sheet_46 : decode cX9_sheet 46 = .ok (.aload_n 0, 1) := by decide +kernel
theorem dX9_sheet_47 : decode cX9_sheet 47 = .ok (.getfield 86, 3) := by decide +kernel
theorem dX9_sheet_50 : decode cX9_sheet 50 = .ok (.iload_n 1, 1) := by decide +kernel
theorem dX9_sheet_51 : decode cX9_sheet 51 = .ok (.iload_n 2, 1) := by decide +kernel
theorem dX9_sheet_52 : decode cX9_sheet 52 = .ok (.ifCond .ge 7, 3) := by decide +kernel
theorem dX9_sheet_55 : decode cX9_sheet 55 = .ok (.iconst 0, 1) := by decide +kernel
theorem dX9_sheet_56 : decode cX9_sheet 56 = .ok (.goto 4, 3) := by decide +kernel
theorem dX9_sheet_59 : decode cX9_sheet 59 = .ok (.iload_n 3, 1) := by decide +kernel
theorem dX9_sheet_60 : decode cX9_sheet 60 = .ok (.iastore, 1) := by decide +kernel
theorem dX9_sheet_61 : decode cX9_sheet 61 = .ok (.iconst 0, 1) := by decide +kernel
theorem dX9_sheet_62 : decode cX9_sheet 62 = .ok (.istore 4, 2) := by decide +kernel
theorem dX9_sheet_64 : decode cX9_sheet 64 = .ok (.iload 4, 2) := by decide +kernel
theorem dX9_sheet_66 : decode cX9_sheet 66 = .ok (.bipush 40, 2) := by decide +kernel
theorem dX9_sheet_68 : decode cX9_sheet 68 = .ok (.if_icmp .ge 22, 3) := by decide +kernel
theorem dX9_sheet_71 : decode cX9_sheet 71 = .ok (.aload_n 0, 1) := by decide +kernel
theorem dX9_sheet_72 : decode cX9_sheet 72 = .ok (.getfield 89, 3) := by decide +kernel
theorem dX9_sheet_75 : decode cX9_sheet 75 = .ok (.bipush 40, 2) := by decide +kernel
theorem dX9_sheet_77 : decode cX9_sheet 77 = .ok (.iload_n 1, 1) := by decide +kernel
theorem dX9_sheet_78 : decode cX9_sheet 78 = .ok (.imul, 1) := by decide +kernel
theorem dX9_sheet_79 : decode cX9_sheet 79 = .ok (.iload 4, 2) := by decide +kernel
theorem dX9_sheet_81 : decode cX9_sheet 81 = .ok (.iadd, 1) := by decide +kernel
theorem dX9_sheet_82 : decode cX9_sheet 82 = .ok (.iconst 0, 1) := by decide +kernel
theorem dX9_sheet_83 : decode cX9_sheet 83 = .ok (.iastore, 1) := by decide +kernel
theorem dX9_sheet_84 : decode cX9_sheet 84 = .ok (.iinc 4 1, 3) := by decide +kernel
theorem dX9_sheet_87 : decode cX9_sheet 87 = .ok (.goto (-23), 3) := by decide +kernel
theorem dX9_sheet_90 : decode cX9_sheet 90 = .ok (.iconst 1, 1) := by decide +kernel
theorem dX9_sheet_91 : decode cX9_sheet 91 = .ok (.ireturn, 1) := by decide +kernel
theorem dX9_put__0 : decode cX9_put_ 0 = .ok (.iload_n 1, 1) := by decide +kernel
theorem dX9_put__1 : decode cX9_put_ 1 = .ok (.invokestatic 287, 3) := by decide +kernel
theorem dX9_put__4 : decode cX9_put_ 4 = .ok (.ifCond .ne 5, 3) := by decide +kernel
theorem dX9_put__7 : decode cX9_put_ 7 = .ok (.iconst (-1), 1) := by decide +kernel
theorem dX9_put__8 : decode cX9_put_ 8 = .ok (.ireturn, 1) := by decide +kernel
theorem dX9_put__9 : decode cX9_put_ 9 = .ok (.aload_n 0, 1) := by decide +kernel
theorem dX9_put__10 : decode cX9_put_ 10 = .ok (.getfield 83, 3) := by decide +kernel
theorem dX9_put__13 : decode cX9_put_ 13 = .ok (.iload_n 1, 1) := by decide +kernel
theorem dX9_put__14 : decode cX9_put_ 14 = .ok (.iaload, 1) := by decide +kernel
theorem dX9_put__15 : decode cX9_put_ 15 = .ok (.ifCond .ge 6, 3) := by decide +kernel
theorem dX9_put__18 : decode cX9_put_ 18 = .ok (.bipush (-11), 2) := by decide +kernel
theorem dX9_put__20 : decode cX9_put_ 20 = .ok (.ireturn, 1) := by decide +kernel
theorem dX9_put__21 : decode cX9_put_ 21 = .ok (.iload_n 2, 1) := by decide +kernel
theorem dX9_put__22 : decode cX9_put_ 22 = .ok (.iconst 0, 1) := by decide +kernel
theorem dX9_put__23 : decode cX9_put_ 23 = .ok (.aload_n 0, 1) := by decide +kernel
theorem dX9_put__24 : decode cX9_put_ 24 = .ok (.getfield 86, 3) := by decide +kernel
theorem dX9_put__27 : decode cX9_put_ 27 = .ok (.iload_n 1, 1) := by decide +kernel
theorem dX9_put__28 : decode cX9_put_ 28 = .ok (.iaload, 1) := by decide +kernel
theorem dX9_put__29 : decode cX9_put_ 29 = .ok (.iconst 1, 1) := by decide +kernel
theorem dX9_put__30 : decode cX9_put_ 30 = .ok (.isub, 1) := by decide +kernel
theorem dX9_put__31 : decode cX9_put_ 31 = .ok (.invokestatic 104, 3) := by decide +kernel
theorem dX9_put__34 : decode cX9_put_ 34 = .ok (.ifCond .ne 6, 3) := by decide +kernel
theorem dX9_put__37 : decode cX9_put_ 37 = .ok (.bipush (-12), 2) := by decide +kernel
theorem dX9_put__39 : decode cX9_put_ 39 = .ok (.ireturn, 1) := by decide +kernel
theorem dX9_put__40 : decode cX9_put_ 40 = .ok (.aload_n 0, 1) := by decide +kernel
theorem dX9_put__41 : decode cX9_put_ 41 = .ok (.getfield 89, 3) := by decide +kernel
theorem dX9_put__44 : decode cX9_put_ 44 = .ok (.bipush 40, 2) := by decide +kernel
theorem dX9_put__46 : decode cX9_put_ 46 = .ok (.iload_n 1, 1) := by decide +kernel
theorem dX9_put__47 : decode cX9_put_ 47 = .ok (.imul, 1) := by decide +kernel
theorem dX9_put__48 : decode cX9_put_ 48 = .ok (.iload_n 2, 1) := by decide +kernel
theorem dX9_put__49 : decode cX9_put_ 49 = .ok (.iadd, 1) := by decide +kernel
theorem dX9_put__50 : decode cX9_put_ 50 = .ok (.aload_n 0, 1) := by decide +kernel
theorem dX9_put__51 : decode cX9_put_ 51 = .ok (.getfield 83, 3) := by decide +kernel
theorem dX9_put__54 : decode cX9_put_ 54 = .ok (.iload_n 1, 1) := by decide +kernel
theorem dX9_put__55 : decode cX9_put_ 55 = .ok (.iaload, 1) := by decide +kernel
theorem dX9_put__56 : decode cX9_put_ 56 = .ok (.ifCond .ne 8, 3) := by decide +kernel
theorem dX9_put__59 : decode cX9_put_ 59 = .ok (.iload_n 3, 1) := by decide +kernel
theorem dX9_put__60 : decode cX9_put_ 60 = .ok (.i2b, 1) := by decide +kernel
theorem dX9_put__61 : decode cX9_put_ 61 = .ok (.goto 19, 3) := by decide +kernel
theorem dX9_put__64 : decode cX9_put_ 64 = .ok (.aload_n 0, 1) := by decide +kernel
theorem dX9_put__65 : decode cX9_put_ 65 = .ok (.getfield 83, 3) := by decide +kernel
theorem dX9_put__68 : decode cX9_put_ 68 = .ok (.iload_n 1, 1) := by decide +kernel
theorem dX9_put__69 : decode cX9_put_ 69 = .ok (.iaload, 1) := by decide +kernel
theorem dX9_put__70 : decode cX9_put_ 70 = .ok (.iconst 1, 1) := by decide +kernel
theorem dX9_put__71 : decode cX9_put_ 71 = .ok (.if_icmp .ne 8, 3) := by decide +kernel
theorem dX9_put__74 : decode cX9_put_ 74 = .ok (.iload_n 3, 1) := by decide +kernel
theorem dX9_put__75 : decode cX9_put_ 75 = .ok (.i2s, 1) := by decide +kernel
theorem dX9_put__76 : decode cX9_put_ 76 = .ok (.goto 4, 3) := by decide +kernel
theorem dX9_put__79 : decode cX9_put_ 79 = .ok (.iload_n 3, 1) := by decide +kernel
theorem dX9_put__80 : decode cX9_put_ 80 = .ok (.iastore, 1) := by decide +kernel
theorem dX9_put__81 : decode cX9_put_ 81 = .ok (.iconst 1, 1) := by decide +kernel
theorem dX9_put__82 : decode cX9_put_ 82 = .ok (.ireturn, 1) := by decide +kernel
theorem dX9_notOf_0 : decode cX9_notOf 0 = .ok (.aload_n 0, 1) := by decide +kernel
theorem dX9_notOf_1 : decode cX9_notOf 1 = .ok (.getfield 83, 3) := by decide +kernel
theorem dX9_notOf_4 : decode cX9_notOf 4 = .ok (.iload_n 1, 1) := by decide +kernel
theorem dX9_notOf_5 : decode cX9_notOf 5 = .ok (.iaload, 1) := by decide +kernel
theorem dX9_notOf_6 : decode cX9_notOf 6 = .ok (.ifCond .ge 8, 3) := by decide +kernel
theorem dX9_notOf_9 : decode cX9_notOf 9 = .ok (.bipush (-11), 2) := by decide +kernel
theorem dX9_notOf_11 : decode cX9_notOf 11 = .ok (.goto 19, 3) := by decide +kernel
theorem dX9_notOf_14 : decode cX9_notOf 14 = .ok (.aload_n 0, 1) := by decide +kernel
theorem dX9_notOf_15 : decode cX9_notOf 15 = .ok (.getfield 83, 3) := by decide +kernel
theorem dX9_notOf_18 : decode cX9_notOf 18 = .ok (.iload_n 1, 1) := by decide +kernel
theorem dX9_notOf_19 : decode cX9_notOf 19 = .ok (.iaload, 1) := by decide +kernel
theorem dX9_notOf_20 : decode cX9_notOf 20 = .ok (.iload_n 2, 1) := by decide +kernel
theorem dX9_notOf_21 : decode cX9_notOf 21 = .ok (.if_icmp .eq 8, 3) := by decide +kernel
theorem dX9_notOf_24 : decode cX9_notOf 24 = .ok (.bipush (-13), 2) := by decide +kernel
theorem dX9_notOf_26 : decode cX9_notOf 26 = .ok (.goto 4, 3) := by decide +kernel
theorem dX9_notOf_29 : decode cX9_notOf 29 = .ok (.iconst 0, 1) := by decide +kernel
theorem dX9_notOf_30 : decode cX9_notOf 30 = .ok (.ireturn, 1) := by decide +kernel
theorem dX9_item_0 : decode cX9_item 0 = .ok (.iload_n 1, 1) := by decide +kernel
theorem dX9_item_1 : decode cX9_item 1 = .ok (.invokestatic 287, 3) := by decide +kernel
theorem dX9_item_4 : decode cX9_item 4 = .ok (.ifCond .eq 10, 3) := by decide +kernel
theorem dX9_item_7 : decode cX9_item 7 = .ok (.iload_n 2, 1) := by decide +kernel
theorem dX9_item_8 : decode cX9_item 8 = .ok (.invokestatic 287, 3) := by decide +kernel
theorem dX9_item_11 : decode cX9_item 11 = .ok (.ifCond .ne 5, 3) := by decide +kernel
theorem dX9_item_14 : decode cX9_item 14 = .ok (.iconst (-1), 1) := by decide +kernel
theorem dX9_item_15 : decode cX9_item 15 = .ok (.ireturn, 1) := by decide +kernel
theorem dX9_item_16 : decode cX9_item 16 = .ok (.aload_n 0, 1) := by decide +kernel
theorem dX9_item_17 : decode cX9_item 17 = .ok (.iload_n 1, 1) := by decide +kernel
theorem dX9_item_18 : decode cX9_item 18 = .ok (.iload_n 2, 1) := by decide +kernel
theorem dX9_item_19 : decode cX9_item 19 = .ok (.invokevirtual 290, 3) := by decide +kernel
theorem dX9_item_22 : decode cX9_item 22 = .ok (.istore 4, 2) := by decide +kernel
theorem dX9_item_24 : decode cX9_item 24 = .ok (.iload 4, 2) := by decide +kernel
theorem dX9_item_26 : decode cX9_item 26 = .ok (.ifCond .eq 6, 3) := by decide +kernel
theorem dX9_item_29 : decode cX9_item 29 = .ok (.iload 4, 2) := by decide +kernel
theorem dX9_item_31 : decode cX9_item 31 = .ok (.ireturn, 1) := by decide +kernel
theorem dX9_item_32 : decode cX9_item 32 = .ok (.iload_n 3, 1) := by decide +kernel
theorem dX9_item_33 : decode cX9_item 33 = .ok (.iconst 0, 1) := by decide +kernel
theorem dX9_item_34 : decode cX9_item 34 = .ok (.aload_n 0, 1) := by decide +kernel
theorem dX9_item_35 : decode cX9_item 35 = .ok (.getfield 86, 3) := by decide +kernel
theorem dX9_item_38 : decode cX9_item 38 = .ok (.iload_n 1, 1) := by decide +kernel
theorem dX9_item_39 : decode cX9_item 39 = .ok (.iaload, 1) := by decide +kernel
theorem dX9_item_40 : decode cX9_item 40 = .ok (.iconst 1, 1) := by decide +kernel
theorem dX9_item_41 : decode cX9_item 41 = .ok (.isub, 1) := by decide +kernel
theorem dX9_item_42 : decode cX9_item 42 = .ok (.invokestatic 104, 3) := by decide +kernel
theorem dX9_item_45 : decode cX9_item 45 = .ok (.ifCond .eq 17, 3) := by decide +kernel
theorem dX9_item_48 : decode cX9_item 48 = .ok (.aload_n 0, 1) := by decide +kernel
theorem dX9_item_49 : decode cX9_item 49 = .ok (.getfield 89, 3) := by decide +kernel
theorem dX9_item_52 : decode cX9_item 52 = .ok (.bipush 40, 2) := by decide +kernel
theorem dX9_item_54 : decode cX9_item 54 = .ok (.iload_n 1, 1) := by decide +kernel
theorem dX9_item_55 : decode cX9_item 55 = .ok (.imul, 1) := by decide +kernel
theorem dX9_item_56 : decode cX9_item 56 = .ok (.iload_n 3, 1) := by decide +kernel
theorem dX9_item_57 : decode cX9_item 57 = .ok (.iadd, 1) := by decide +kernel
theorem dX9_item_58 : decode cX9_item 58 = .ok (.iaload, 1) := by decide +kernel
theorem dX9_item_59 : decode cX9_item 59 = .ok (.goto 5, 3) := by decide +kernel
theorem dX9_item_62 : decode cX9_item 62 = .ok (.bipush (-12), 2) := by decide +kernel
theorem dX9_item_64 : decode cX9_item 64 = .ok (.ireturn, 1) := by decide +kernel
theorem dX9_worths_0 : decode cX9_worths 0 = .ok (.aload_n 0, 1) := by decide +kernel
theorem dX9_worths_1 : decode cX9_worths 1 = .ok (.iload_n 1, 1) := by decide +kernel
theorem dX9_worths_2 : decode cX9_worths 2 = .ok (.invokevirtual 112, 3) := by decide +kernel
theorem dX9_worths_5 : decode cX9_worths 5 = .ok (.ifCond .eq 10, 3) := by decide +kernel
theorem dX9_worths_8 : decode cX9_worths 8 = .ok (.iload_n 2, 1) := by decide +kernel
theorem dX9_worths_9 : decode cX9_worths 9 = .ok (.invokestatic 287, 3) := by decide +kernel
theorem dX9_worths_12 : decode cX9_worths 12 = .ok (.ifCond .ne 5, 3) := by decide +kernel
theorem dX9_worths_15 : decode cX9_worths 15 = .ok (.iconst (-1), 1) := by decide +kernel
theorem dX9_worths_16 : decode cX9_worths 16 = .ok (.ireturn, 1) := by decide +kernel
theorem dX9_worths_17 : decode cX9_worths 17 = .ok (.aload_n 0, 1) := by decide +kernel
theorem dX9_worths_18 : decode cX9_worths 18 = .ok (.iload_n 2, 1) := by decide +kernel
theorem dX9_worths_19 : decode cX9_worths 19 = .ok (.iconst 0, 1) := by decide +kernel
theorem dX9_worths_20 : decode cX9_worths 20 = .ok (.invokevirtual 290, 3) := by decide +kernel
theorem dX9_worths_23 : decode cX9_worths 23 = .ok (.istore_n 3, 1) := by decide +kernel
theorem dX9_worths_24 : decode cX9_worths 24 = .ok (.iload_n 3, 1) := by decide +kernel
theorem dX9_worths_25 : decode cX9_worths 25 = .ok (.ifCond .eq 5, 3) := by decide +kernel
theorem dX9_worths_28 : decode cX9_worths 28 = .ok (.iload_n 3, 1) := by decide +kernel
theorem dX9_worths_29 : decode cX9_worths 29 = .ok (.ireturn, 1) := by decide +kernel
theorem dX9_worths_30 : decode cX9_worths 30 = .ok (.aload_n 0, 1) := by decide +kernel
theorem dX9_worths_31 : decode cX9_worths 31 = .ok (.getfield 86, 3) := by decide +kernel
theorem dX9_worths_34 : decode cX9_worths 34 = .ok (.iload_n 2, 1) := by decide +kernel
theorem dX9_worths_35 : decode cX9_worths 35 = .ok (.iaload, 1) := by decide +kernel
theorem dX9_worths_36 : decode cX9_worths 36 = .ok (.bipush 12, 2) := by decide +kernel
theorem dX9_worths_38 : decode cX9_worths 38 = .ok (.if_icmp .eq 6, 3) := by decide +kernel
theorem dX9_worths_41 : decode cX9_worths 41 = .ok (.bipush (-4), 2) := by decide +kernel
theorem dX9_worths_43 : decode cX9_worths 43 = .ok (.ireturn, 1) := by decide +kernel
theorem dX9_worths_44 : decode cX9_worths 44 = .ok (.bipush 99, 2) := by decide +kernel
theorem dX9_worths_46 : decode cX9_worths 46 = .ok (.istore 4, 2) := by decide +kernel
theorem dX9_worths_48 : decode cX9_worths 48 = .ok (.iconst 0, 1) := by decide +kernel
theorem dX9_worths_49 : decode cX9_worths 49 = .ok (.istore 5, 2) := by decide +kernel
theorem dX9_worths_51 : decode cX9_worths 51 = .ok (.iload 5, 2) := by decide +kernel
theorem dX9_worths_53 : decode cX9_worths 53 = .ok (.bipush 12, 2) := by decide +kernel
theorem dX9_worths_55 : decode cX9_worths 55 = .ok (.if_icmp .ge 47, 3) := by decide +kernel
theorem dX9_worths_58 : decode cX9_worths 58 = .ok (.aload_n 0, 1) := by decide +kernel
theorem dX9_worths_59 : decode cX9_worths 59 = .ok (.getfield 89, 3) := by decide +kernel
theorem dX9_worths_62 : decode cX9_worths 62 = .ok (.bipush 40, 2) := by decide +kernel
theorem dX9_worths_64 : decode cX9_worths 64 = .ok (.iload_n 2, 1) := by decide +kernel
theorem dX9_worths_65 : decode cX9_worths 65 = .ok (.imul, 1) := by decide +kernel
theorem dX9_worths_66 : decode cX9_worths 66 = .ok (.iload 5, 2) := by decide +kernel
theorem dX9_worths_68 : decode cX9_worths 68 = .ok (.iadd, 1) := by decide +kernel
theorem dX9_worths_69 : decode cX9_worths 69 = .ok (.iaload, 1) := by decide +kernel
theorem dX9_worths_70 : decode cX9_worths 70 = .ok (.iconst 0, 1) := by decide +kernel
theorem dX9_worths_71 : decode cX9_worths 71 = .ok (.iload 4, 2) := by decide +kernel
theorem dX9_worths_73 : decode cX9_worths 73 = .ok (.invokestatic 104, 3) := by decide +kernel
theorem dX9_worths_76 : decode cX9_worths 76 = .ok (.ifCond .ne 6, 3) := by decide +kernel
theorem dX9_worths_79 : decode cX9_worths 79 = .ok (.bipush (-4), 2) := by decide +kernel
theorem dX9_worths_81 : decode cX9_worths 81 = .ok (.ireturn, 1) := by decide +kernel
theorem dX9_worths_82 : decode cX9_worths 82 = .ok (.aload_n 0, 1) := by decide +kernel
theorem dX9_worths_83 : decode cX9_worths 83 = .ok (.getfield 89, 3) := by decide +kernel
theorem dX9_worths_86 : decode cX9_worths 86 = .ok (.bipush 40, 2) := by decide +kernel
theorem dX9_worths_88 : decode cX9_worths 88 = .ok (.iload_n 2, 1) := by decide +kernel
theorem dX9_worths_89 : decode cX9_worths 89 = .ok (.imul, 1) := by decide +kernel
theorem dX9_worths_90 : decode cX9_worths 90 = .ok (.iload 5, 2) := by decide +kernel
theorem dX9_worths_92 : decode cX9_worths 92 = .ok (.iadd, 1) := by decide +kernel
theorem dX9_worths_93 : decode cX9_worths 93 = .ok (.iaload, 1) := by decide +kernel
theorem dX9_worths_94 : decode cX9_worths 94 = .ok (.istore 4, 2) := by decide +kernel
theorem dX9_worths_96 : decode cX9_worths 96 = .ok (.iinc 5 1, 3) := by decide +kernel
theorem dX9_worths_99 : decode cX9_worths 99 = .ok (.goto (-48), 3) := by decide +kernel
theorem dX9_worths_102 : decode cX9_worths 102 = .ok (.iconst 0, 1) := by decide +kernel
theorem dX9_worths_103 : decode cX9_worths 103 = .ok (.istore 5, 2) := by decide +kernel
theorem dX9_worths_105 : decode cX9_worths 105 = .ok (.iload 5, 2) := by decide +kernel
theorem dX9_worths_107 : decode cX9_worths 107 = .ok (.bipush 12, 2) := by decide +kernel
theorem dX9_worths_109 : decode cX9_worths 109 = .ok (.if_icmp .ge 35, 3) := by decide +kernel
theorem dX9_worths_112 : decode cX9_worths 112 = .ok (.aload_n 0, 1) := by decide +kernel
theorem dX9_worths_113 : decode cX9_worths 113 = .ok (.getfield 9, 3) := by decide +kernel
theorem dX9_worths_116 : decode cX9_worths 116 = .ok (.iload_n 1, 1) := by decide +kernel
theorem dX9_worths_117 : decode cX9_worths 117 = .ok (.bipush 6, 2) := by decide +kernel
theorem dX9_worths_119 : decode cX9_worths 119 = .ok (.iload 5, 2) := by decide +kernel
theorem dX9_worths_121 : decode cX9_worths 121 = .ok (.iadd, 1) := by decide +kernel
theorem dX9_worths_122 : decode cX9_worths 122 = .ok (.invokestatic 108, 3) := by decide +kernel
theorem dX9_worths_125 : decode cX9_worths 125 = .ok (.aload_n 0, 1) := by decide +kernel
theorem dX9_worths_126 : decode cX9_worths 126 = .ok (.getfield 89, 3) := by decide +kernel
theorem dX9_worths_129 : decode cX9_worths 129 = .ok (.bipush 40, 2) := by decide +kernel
theorem dX9_worths_131 : decode cX9_worths 131 = .ok (.iload_n 2, 1) := by decide +kernel
theorem dX9_worths_132 : decode cX9_worths 132 = .ok (.imul, 1) := by decide +kernel
theorem dX9_worths_133 : decode cX9_worths 133 = .ok (.iload 5, 2) := by decide +kernel
theorem dX9_worths_135 : decode cX9_worths 135 = .ok (.iadd, 1) := by decide +kernel
theorem dX9_worths_136 : decode cX9_worths 136 = .ok (.iaload, 1) := by decide +kernel
theorem dX9_worths_137 : decode cX9_worths 137 = .ok (.iastore, 1) := by decide +kernel
theorem dX9_worths_138 : decode cX9_worths 138 = .ok (.iinc 5 1, 3) := by decide +kernel
theorem dX9_worths_141 : decode cX9_worths 141 = .ok (.goto (-36), 3) := by decide +kernel
theorem dX9_worths_144 : decode cX9_worths 144 = .ok (.iconst 1, 1) := by decide +kernel
theorem dX9_worths_145 : decode cX9_worths 145 = .ok (.ireturn, 1) := by decide +kernel
theorem dX9_lawful_0 : decode cX9_lawful 0 = .ok (.iload_n 1, 1) := by decide +kernel
theorem dX9_lawful_1 : decode cX9_lawful 1 = .ok (.invokestatic 287, 3) := by decide +kernel
theorem dX9_lawful_4 : decode cX9_lawful 4 = .ok (.ifCond .ne 5, 3) := by decide +kernel
theorem dX9_lawful_7 : decode cX9_lawful 7 = .ok (.iconst (-1), 1) := by decide +kernel
theorem dX9_lawful_8 : decode cX9_lawful 8 = .ok (.ireturn, 1) := by decide +kernel
theorem dX9_lawful_9 : decode cX9_lawful 9 = .ok (.aload_n 0, 1) := by decide +kernel
theorem dX9_lawful_10 : decode cX9_lawful 10 = .ok (.iload_n 1, 1) := by decide +kernel
theorem dX9_lawful_11 : decode cX9_lawful 11 = .ok (.iconst 2, 1) := by decide +kernel
theorem dX9_lawful_12 : decode cX9_lawful 12 = .ok (.invokevirtual 290, 3) := by decide +kernel
theorem dX9_lawful_15 : decode cX9_lawful 15 = .ok (.istore_n 2, 1) := by decide +kernel
theorem dX9_lawful_16 : decode cX9_lawful 16 = .ok (.iload_n 2, 1) := by decide +kernel
theorem dX9_lawful_17 : decode cX9_lawful 17 = .ok (.ifCond .eq 5, 3) := by decide +kernel
theorem dX9_lawful_20 : decode cX9_lawful 20 = .ok (.iload_n 2, 1) := by decide +kernel
theorem dX9_lawful_21 : decode cX9_lawful 21 = .ok (.ireturn, 1) := by decide +kernel
theorem dX9_lawful_22 : decode cX9_lawful 22 = .ok (.aload_n 0, 1) := by decide +kernel
theorem dX9_lawful_23 : decode cX9_lawful 23 = .ok (.getfield 86, 3) := by decide +kernel
theorem dX9_lawful_26 : decode cX9_lawful 26 = .ok (.iload_n 1, 1) := by decide +kernel
theorem dX9_lawful_27 : decode cX9_lawful 27 = .ok (.iaload, 1) := by decide +kernel
theorem dX9_lawful_28 : decode cX9_lawful 28 = .ok (.aload_n 0, 1) := by decide +kernel
theorem dX9_lawful_29 : decode cX9_lawful 29 = .ok (.getfield 9, 3) := by decide +kernel
theorem dX9_lawful_32 : decode cX9_lawful 32 = .ok (.iconst 0, 1) := by decide +kernel
theorem dX9_lawful_33 : decode cX9_lawful 33 = .ok (.iaload, 1) := by decide +kernel
theorem dX9_lawful_34 : decode cX9_lawful 34 = .ok (.if_icmp .eq 6, 3) := by decide +kernel
theorem dX9_lawful_37 : decode cX9_lawful 37 = .ok (.bipush (-4), 2) := by decide +kernel
theorem dX9_lawful_39 : decode cX9_lawful 39 = .ok (.ireturn, 1) := by decide +kernel
theorem dX9_lawful_40 : decode cX9_lawful 40 = .ok (.iconst 0, 1) := by decide +kernel
theorem dX9_lawful_41 : decode cX9_lawful 41 = .ok (.istore_n 3, 1) := by decide +kernel
theorem dX9_lawful_42 : decode cX9_lawful 42 = .ok (.iconst 0, 1) := by decide +kernel
theorem dX9_lawful_43 : decode cX9_lawful 43 = .ok (.istore 4, 2) := by decide +kernel
theorem dX9_lawful_45 : decode cX9_lawful 45 = .ok (.iload 4, 2) := by decide +kernel
theorem dX9_lawful_47 : decode cX9_lawful 47 = .ok (.aload_n 0, 1) := by decide +kernel
theorem dX9_lawful_48 : decode cX9_lawful 48 = .ok (.getfield 9, 3) := by decide +kernel
theorem dX9_lawful_51 : decode cX9_lawful 51 = .ok (.iconst 0, 1) := by decide +kernel
theorem dX9_lawful_52 : decode cX9_lawful 52 = .ok (.iaload, 1) := by decide +kernel
theorem dX9_lawful_53 : decode cX9_lawful 53 = .ok (.if_icmp .ge 51, 3) := by decide +kernel
theorem dX9_lawful_56 : decode cX9_lawful 56 = .ok (.aload_n 0, 1) := by decide +kernel
theorem dX9_lawful_57 : decode cX9_lawful 57 = .ok (.getfield 89, 3) := by decide +kernel
theorem dX9_lawful_60 : decode cX9_lawful 60 = .ok (.bipush 40, 2) := by decide +kernel
theorem dX9_lawful_62 : decode cX9_lawful 62 = .ok (.iload_n 1, 1) := by decide +kernel
theorem dX9_lawful_63 : decode cX9_lawful 63 = .ok (.imul, 1) := by decide +kernel
theorem dX9_lawful_64 : decode cX9_lawful 64 = .ok (.iload 4, 2) := by decide +kernel
theorem dX9_lawful_66 : decode cX9_lawful 66 = .ok (.iadd, 1) := by decide +kernel
theorem dX9_lawful_67 : decode cX9_lawful 67 = .ok (.iaload, 1) := by decide +kernel
theorem dX9_lawful_68 : decode cX9_lawful 68 = .ok (.sipush (-9999), 3) := by decide +kernel
theorem dX9_lawful_71 : decode cX9_lawful 71 = .ok (.sipush 9999, 3) := by decide +kernel
theorem dX9_lawful_74 : decode cX9_lawful 74 = .ok (.invokestatic 104, 3) := by decide +kernel
theorem dX9_lawful_77 : decode cX9_lawful 77 = .ok (.ifCond .ne 6, 3) := by decide +kernel
theorem dX9_lawful_80 : decode cX9_lawful 80 = .ok (.bipush (-4), 2) := by decide +kernel
theorem dX9_lawful_82 : decode cX9_lawful 82 = .ok (.ireturn, 1) := by decide +kernel
theorem dX9_lawful_83 : decode cX9_lawful 83 = .ok (.iload_n 3, 1) := by decide +kernel
theorem dX9_lawful_84 : decode cX9_lawful 84 = .ok (.aload_n 0, 1) := by decide +kernel
theorem dX9_lawful_85 : decode cX9_lawful 85 = .ok (.getfield 89, 3) := by decide +kernel
theorem dX9_lawful_88 : decode cX9_lawful 88 = .ok (.bipush 40, 2) := by decide +kernel
theorem dX9_lawful_90 : decode cX9_lawful 90 = .ok (.iload_n 1, 1) := by decide +kernel
theorem dX9_lawful_91 : decode cX9_lawful 91 = .ok (.imul, 1) := by decide +kernel
theorem dX9_lawful_92 : decode cX9_lawful 92 = .ok (.iload 4, 2) := by decide +kernel
theorem dX9_lawful_94 : decode cX9_lawful 94 = .ok (.iadd, 1) := by decide +kernel
theorem dX9_lawful_95 : decode cX9_lawful 95 = .ok (.iaload, 1) := by decide +kernel
theorem dX9_lawful_96 : decode cX9_lawful 96 = .ok (.iadd, 1) := by decide +kernel
theorem dX9_lawful_97 : decode cX9_lawful 97 = .ok (.istore_n 3, 1) := by decide +kernel
theorem dX9_lawful_98 : decode cX9_lawful 98 = .ok (.iinc 4 1, 3) := by decide +kernel
theorem dX9_lawful_101 : decode cX9_lawful 101 = .ok (.goto (-56), 3) := by decide +kernel
theorem dX9_lawful_104 : decode cX9_lawful 104 = .ok (.iload_n 3, 1) := by decide +kernel
theorem dX9_lawful_105 : decode cX9_lawful 105 = .ok (.ifCond .eq 7, 3) := by decide +kernel
theorem dX9_lawful_108 : decode cX9_lawful 108 = .ok (.sipush 300, 3) := by decide +kernel
theorem dX9_lawful_111 : decode cX9_lawful 111 = .ok (.ireturn, 1) := by decide +kernel
theorem dX9_lawful_112 : decode cX9_lawful 112 = .ok (.aload_n 0, 1) := by decide +kernel
theorem dX9_lawful_113 : decode cX9_lawful 113 = .ok (.invokevirtual 141, 3) := by decide +kernel
theorem dX9_lawful_116 : decode cX9_lawful 116 = .ok (.istore 4, 2) := by decide +kernel
theorem dX9_lawful_118 : decode cX9_lawful 118 = .ok (.iconst 0, 1) := by decide +kernel
theorem dX9_lawful_119 : decode cX9_lawful 119 = .ok (.istore 5, 2) := by decide +kernel
theorem dX9_lawful_121 : decode cX9_lawful 121 = .ok (.iload 5, 2) := by decide +kernel
theorem dX9_lawful_123 : decode cX9_lawful 123 = .ok (.aload_n 0, 1) := by decide +kernel
theorem dX9_lawful_124 : decode cX9_lawful 124 = .ok (.getfield 9, 3) := by decide +kernel
theorem dX9_lawful_127 : decode cX9_lawful 127 = .ok (.iconst 0, 1) := by decide +kernel
theorem dX9_lawful_128 : decode cX9_lawful 128 = .ok (.iaload, 1) := by decide +kernel
theorem dX9_lawful_129 : decode cX9_lawful 129 = .ok (.if_icmp .ge 36, 3) := by decide +kernel
theorem dX9_lawful_132 : decode cX9_lawful 132 = .ok (.aload_n 0, 1) := by decide +kernel
theorem dX9_lawful_133 : decode cX9_lawful 133 = .ok (.getfield 34, 3) := by decide +kernel
theorem dX9_lawful_136 : decode cX9_lawful 136 = .ok (.iload 5, 2) := by decide +kernel
theorem dX9_lawful_138 : decode cX9_lawful 138 = .ok (.aload_n 0, 1) := by decide +kernel
theorem dX9_lawful_139 : decode cX9_lawful 139 = .ok (.getfield 31, 3) := by decide +kernel
theorem dX9_lawful_142 : decode cX9_lawful 142 = .ok (.iload 5, 2) := by decide +kernel
theorem dX9_lawful_144 : decode cX9_lawful 144 = .ok (.iaload, 1) := by decide +kernel
theorem dX9_lawful_145 : decode cX9_lawful 145 = .ok (.aload_n 0, 1) := by decide +kernel
theorem dX9_lawful_146 : decode cX9_lawful 146 = .ok (.getfield 89, 3) := by decide +kernel
theorem dX9_lawful_149 : decode cX9_lawful 149 = .ok (.bipush 40, 2) := by decide +kernel
theorem dX9_lawful_151 : decode cX9_lawful 151 = .ok (.iload_n 1, 1) := by decide +kernel
theorem dX9_lawful_152 : decode cX9_lawful 152 = .ok (.imul, 1) := by decide +kernel
theorem dX9_lawful_153 : decode cX9_lawful 153 = .ok (.iload 5, 2) := by decide +kernel
theorem dX9_lawful_155 : decode cX9_lawful 155 = .ok (.iadd, 1) := by decide +kernel
theorem dX9_lawful_156 : decode cX9_lawful 156 = .ok (.iaload, 1) := by decide +kernel
theorem dX9_lawful_157 : decode cX9_lawful 157 = .ok (.iadd, 1) := by decide +kernel
theorem dX9_lawful_158 : decode cX9_lawful 158 = .ok (.iastore, 1) := by decide +kernel
theorem dX9_lawful_159 : decode cX9_lawful 159 = .ok (.iinc 5 1, 3) := by decide +kernel
theorem dX9_lawful_162 : decode cX9_lawful 162 = .ok (.goto (-41), 3) := by decide +kernel
theorem dX9_lawful_165 : decode cX9_lawful 165 = .ok (.aload_n 0, 1) := by decide +kernel
theorem dX9_lawful_166 : decode cX9_lawful 166 = .ok (.invokevirtual 157, 3) := by decide +kernel
theorem dX9_lawful_169 : decode cX9_lawful 169 = .ok (.ireturn, 1) := by decide +kernel
theorem dX9_flows__0 : decode cX9_flows_ 0 = .ok (.aload_n 0, 1) := by decide +kernel
theorem dX9_flows__1 : decode cX9_flows_ 1 = .ok (.iload_n 1, 1) := by decide +kernel
theorem dX9_flows__2 : decode cX9_flows_ 2 = .ok (.invokevirtual 112, 3) := by decide +kernel
theorem dX9_flows__5 : decode cX9_flows_ 5 = .ok (.ifCond .eq 21, 3) := by decide +kernel
theorem dX9_flows__8 : decode cX9_flows_ 8 = .ok (.iload_n 2, 1) := by decide +kernel
theorem dX9_flows__9 : decode cX9_flows_ 9 = .ok (.invokestatic 287, 3) := by decide +kernel
theorem dX9_flows__12 : decode cX9_flows_ 12 = .ok (.ifCond .eq 14, 3) := by decide +kernel
theorem dX9_flows__15 : decode cX9_flows_ 15 = .ok (.iload 4, 2) := by decide +kernel
theorem dX9_flows__17 : decode cX9_flows_ 17 = .ok (.iconst 0, 1) := by decide +kernel
theorem dX9_flows__18 : decode cX9_flows_ 18 = .ok (.bipush 6, 2) := by decide +kernel
theorem dX9_flows__20 : decode cX9_flows_ 20 = .ok (.invokestatic 104, 3) := by decide +kernel
theorem dX9_flows__23 : decode cX9_flows_ 23 = .ok (.ifCond .ne 5, 3) := by decide +kernel
theorem dX9_flows__26 : decode cX9_flows_ 26 = .ok (.iconst (-1), 1) := by decide +kernel
theorem dX9_flows__27 : decode cX9_flows_ 27 = .ok (.ireturn, 1) := by decide +kernel
theorem dX9_flows__28 : decode cX9_flows_ 28 = .ok (.aload_n 0, 1) := by decide +kernel
theorem dX9_flows__29 : decode cX9_flows_ 29 = .ok (.iload_n 2, 1) := by decide +kernel
theorem dX9_flows__30 : decode cX9_flows_ 30 = .ok (.iconst 1, 1) := by decide +kernel
theorem dX9_flows__31 : decode cX9_flows_ 31 = .ok (.invokevirtual 290, 3) := by decide +kernel
theorem dX9_flows__34 : decode cX9_flows_ 34 = .ok (.istore 5, 2) := by decide +kernel
theorem dX9_flows__36 : decode cX9_flows_ 36 = .ok (.iload 5, 2) := by decide +kernel
theorem dX9_flows__38 : decode cX9_flows_ 38 = .ok (.ifCond .eq 6, 3) := by decide +kernel
theorem dX9_flows__41 : decode cX9_flows_ 41 = .ok (.iload 5, 2) := by decide +kernel
theorem dX9_flows__43 : decode cX9_flows_ 43 = .ok (.ireturn, 1) := by decide +kernel
theorem dX9_flows__44 : decode cX9_flows_ 44 = .ok (.iconst 0, 1) := by decide +kernel
theorem dX9_flows__45 : decode cX9_flows_ 45 = .ok (.istore 6, 2) := by decide +kernel
theorem dX9_flows__47 : decode cX9_flows_ 47 = .ok (.iconst 0, 1) := by decide +kernel
theorem dX9_flows__48 : decode cX9_flows_ 48 = .ok (.istore 7, 2) := by decide +kernel
theorem dX9_flows__50 : decode cX9_flows_ 50 = .ok (.iload 7, 2) := by decide +kernel
theorem dX9_flows__52 : decode cX9_flows_ 52 = .ok (.iload 4, 2) := by decide +kernel
theorem dX9_flows__54 : decode cX9_flows_ 54 = .ok (.if_icmp .ge 85, 3) := by decide +kernel
theorem dX9_flows__57 : decode cX9_flows_ 57 = .ok (.iload_n 3, 1) := by decide +kernel
theorem dX9_flows__58 : decode cX9_flows_ 58 = .ok (.ifCond .lt 18, 3) := by decide +kernel
theorem dX9_flows__61 : decode cX9_flows_ 61 = .ok (.iload_n 3, 1) := by decide +kernel
theorem dX9_flows__62 : decode cX9_flows_ 62 = .ok (.aload_n 0, 1) := by decide +kernel
theorem dX9_flows__63 : decode cX9_flows_ 63 = .ok (.getfield 86, 3) := by decide +kernel
theorem dX9_flows__66 : decode cX9_flows_ 66 = .ok (.iload_n 2, 1) := by decide +kernel
theorem dX9_flows__67 : decode cX9_flows_ 67 = .ok (.iaload, 1) := by decide +kernel
theorem dX9_flows__68 : decode cX9_flows_ 68 = .ok (.iconst 1, 1) := by decide +kernel
theorem dX9_flows__69 : decode cX9_flows_ 69 = .ok (.isub, 1) := by decide +kernel
theorem dX9_flows__70 : decode cX9_flows_ 70 = .ok (.iload 7, 2) := by decide +kernel
theorem dX9_flows__72 : decode cX9_flows_ 72 = .ok (.isub, 1) := by decide +kernel
theorem dX9_flows__73 : decode cX9_flows_ 73 = .ok (.if_icmp .le 6, 3) := by decide +kernel
theorem dX9_flows__76 : decode cX9_flows_ 76 = .ok (.bipush (-12), 2) := by decide +kernel
theorem dX9_flows__78 : decode cX9_flows_ 78 = .ok (.ireturn, 1) := by decide +kernel
theorem dX9_flows__79 : decode cX9_flows_ 79 = .ok (.aload_n 0, 1) := by decide +kernel
theorem dX9_flows__80 : decode cX9_flows_ 80 = .ok (.getfield 89, 3) := by decide +kernel
theorem dX9_flows__83 : decode cX9_flows_ 83 = .ok (.bipush 40, 2) := by decide +kernel
theorem dX9_flows__85 : decode cX9_flows_ 85 = .ok (.iload_n 2, 1) := by decide +kernel
theorem dX9_flows__86 : decode cX9_flows_ 86 = .ok (.imul, 1) := by decide +kernel
theorem dX9_flows__87 : decode cX9_flows_ 87 = .ok (.iload_n 3, 1) := by decide +kernel
theorem dX9_flows__88 : decode cX9_flows_ 88 = .ok (.iadd, 1) := by decide +kernel
theorem dX9_flows__89 : decode cX9_flows_ 89 = .ok (.iload 7, 2) := by decide +kernel
theorem dX9_flows__91 : decode cX9_flows_ 91 = .ok (.iadd, 1) := by decide +kernel
theorem dX9_flows__92 : decode cX9_flows_ 92 = .ok (.iaload, 1) := by decide +kernel
theorem dX9_flows__93 : decode cX9_flows_ 93 = .ok (.istore 8, 2) := by decide +kernel
theorem dX9_flows__95 : decode cX9_flows_ 95 = .ok (.aload_n 0, 1) := by decide +kernel
theorem dX9_flows__96 : decode cX9_flows_ 96 = .ok (.iload_n 1, 1) := by decide +kernel
theorem dX9_flows__97 : decode cX9_flows_ 97 = .ok (.iload 7, 2) := by decide +kernel
theorem dX9_flows__99 : decode cX9_flows_ 99 = .ok (.iadd, 1) := by decide +kernel
theorem dX9_flows__100 : decode cX9_flows_ 100 = .ok (.invokevirtual 112, 3) := by decide +kernel
theorem dX9_flows__103 : decode cX9_flows_ 103 = .ok (.ifCond .eq 30, 3) := by decide +kernel
theorem dX9_flows__106 : decode cX9_flows_ 106 = .ok (.iconst 0, 1) := by decide +kernel
theorem dX9_flows__107 : decode cX9_flows_ 107 = .ok (.iload 8, 2) := by decide +kernel
theorem dX9_flows__109 : decode cX9_flows_ 109 = .ok (.invokestatic 119, 3) := by decide +kernel
theorem dX9_flows__112 : decode cX9_flows_ 112 = .ok (.ifCond .eq 21, 3) := by decide +kernel
theorem dX9_flows__115 : decode cX9_flows_ 115 = .ok (.aload_n 0, 1) := by decide +kernel
theorem dX9_flows__116 : decode cX9_flows_ 116 = .ok (.getfield 9, 3) := by decide +kernel
theorem dX9_flows__119 : decode cX9_flows_ 119 = .ok (.iload_n 1, 1) := by decide +kernel
theorem dX9_flows__120 : decode cX9_flows_ 120 = .ok (.iload 7, 2) := by decide +kernel
theorem dX9_flows__122 : decode cX9_flows_ 122 = .ok (.iadd, 1) := by decide +kernel
theorem dX9_flows__123 : decode cX9_flows_ 123 = .ok (.iconst 0, 1) := by decide +kernel
theorem dX9_flows__124 : decode cX9_flows_ 124 = .ok (.invokestatic 108, 3) := by decide +kernel
theorem dX9_flows__127 : decode cX9_flows_ 127 = .ok (.iload 8, 2) := by decide +kernel
theorem dX9_flows__129 : decode cX9_flows_ 129 = .ok (.iastore, 1) := by decide +kernel
theorem dX9_flows__130 : decode cX9_flows_ 130 = .ok (.iinc 6 1, 3) := by decide +kernel
theorem dX9_flows__133 : decode cX9_flows_ 133 = .ok (.iinc 7 1, 3) := by decide +kernel
theorem dX9_flows__136 : decode cX9_flows_ 136 = .ok (.goto (-86), 3) := by decide +kernel
theorem dX9_flows__139 : decode cX9_flows_ 139 = .ok (.iload 6, 2) := by decide +kernel
theorem dX9_flows__141 : decode cX9_flows_ 141 = .ok (.ireturn, 1) := by decide +kernel
theorem dX9_shelf_0 : decode cX9_shelf 0 = .ok (.iload_n 1, 1) := by decide +kernel
theorem dX9_shelf_1 : decode cX9_shelf 1 = .ok (.invokestatic 287, 3) := by decide +kernel
theorem dX9_shelf_4 : decode cX9_shelf 4 = .ok (.ifCond .eq 40, 3) := by decide +kernel
theorem dX9_shelf_7 : decode cX9_shelf 7 = .ok (.iload_n 2, 1) := by decide +kernel
theorem dX9_shelf_8 : decode cX9_shelf 8 = .ok (.iconst 0, 1) := by decide +kernel
theorem dX9_shelf_9 : decode cX9_shelf 9 = .ok (.bipush 8, 2) := by decide +kernel
theorem dX9_shelf_11 : decode cX9_shelf 11 = .ok (.invokestatic 104, 3) := by decide +kernel
theorem dX9_shelf_14 : decode cX9_shelf 14 = .ok (.ifCond .eq 30, 3) := by decide +kernel
theorem dX9_shelf_17 : decode cX9_shelf 17 = .ok (.iload_n 2, 1) := by decide +kernel
theorem dX9_shelf_18 : decode cX9_shelf 18 = .ok (.bipush 7, 2) := by decide +kernel
theorem dX9_shelf_20 : decode cX9_shelf 20 = .ok (.if_icmp .ge 11, 3) := by decide +kernel
theorem dX9_shelf_23 : decode cX9_shelf 23 = .ok (.aload_n 0, 1) := by decide +kernel
theorem dX9_shelf_24 : decode cX9_shelf 24 = .ok (.iload_n 3, 1) := by decide +kernel
theorem dX9_shelf_25 : decode cX9_shelf 25 = .ok (.invokevirtual 112, 3) := by decide +kernel
theorem dX9_shelf_28 : decode cX9_shelf 28 = .ok (.ifCond .eq 16, 3) := by decide +kernel
theorem dX9_shelf_31 : decode cX9_shelf 31 = .ok (.iload_n 2, 1) := by decide +kernel
theorem dX9_shelf_32 : decode cX9_shelf 32 = .ok (.bipush 7, 2) := by decide +kernel
theorem dX9_shelf_34 : decode cX9_shelf 34 = .ok (.if_icmp .ne 12, 3) := by decide +kernel
theorem dX9_shelf_37 : decode cX9_shelf 37 = .ok (.iload_n 3, 1) := by decide +kernel
theorem dX9_shelf_38 : decode cX9_shelf 38 = .ok (.invokestatic 287, 3) := by decide +kernel
theorem dX9_shelf_41 : decode cX9_shelf 41 = .ok (.ifCond .ne 5, 3) := by decide +kernel
theorem dX9_shelf_44 : decode cX9_shelf 44 = .ok (.iconst (-1), 1) := by decide +kernel
theorem dX9_shelf_45 : decode cX9_shelf 45 = .ok (.ireturn, 1) := by decide +kernel
theorem dX9_shelf_46 : decode cX9_shelf 46 = .ok (.aload_n 0, 1) := by decide +kernel
theorem dX9_shelf_47 : decode cX9_shelf 47 = .ok (.getfield 92, 3) := by decide +kernel
theorem dX9_shelf_50 : decode cX9_shelf 50 = .ok (.iload_n 1, 1) := by decide +kernel
theorem dX9_shelf_51 : decode cX9_shelf 51 = .ok (.iload_n 2, 1) := by decide +kernel
theorem dX9_shelf_52 : decode cX9_shelf 52 = .ok (.bipush 7, 2) := by decide +kernel
theorem dX9_shelf_54 : decode cX9_shelf 54 = .ok (.if_icmp .ge 7, 3) := by decide +kernel
theorem dX9_shelf_57 : decode cX9_shelf 57 = .ok (.iconst 1, 1) := by decide +kernel
theorem dX9_shelf_58 : decode cX9_shelf 58 = .ok (.goto 23, 3) := by decide +kernel
theorem dX9_shelf_61 : decode cX9_shelf 61 = .ok (.iload_n 2, 1) := by decide +kernel
theorem dX9_shelf_62 : decode cX9_shelf 62 = .ok (.bipush 7, 2) := by decide +kernel
theorem dX9_shelf_64 : decode cX9_shelf 64 = .ok (.if_icmp .ne 16, 3) := by decide +kernel
theorem dX9_shelf_67 : decode cX9_shelf 67 = .ok (.aload_n 0, 1) := by decide +kernel
theorem dX9_shelf_68 : decode cX9_shelf 68 = .ok (.getfield 83, 3) := by decide +kernel
theorem dX9_shelf_71 : decode cX9_shelf 71 = .ok (.iload_n 3, 1) := by decide +kernel
theorem dX9_shelf_72 : decode cX9_shelf 72 = .ok (.iaload, 1) := by decide +kernel
theorem dX9_shelf_73 : decode cX9_shelf 73 = .ok (.ifCond .lt 7, 3) := by decide +kernel
theorem dX9_shelf_76 : decode cX9_shelf 76 = .ok (.iconst 2, 1) := by decide +kernel
theorem dX9_shelf_77 : decode cX9_shelf 77 = .ok (.goto 4, 3) := by decide +kernel
theorem dX9_shelf_80 : decode cX9_shelf 80 = .ok (.iconst 0, 1) := by decide +kernel
theorem dX9_shelf_81 : decode cX9_shelf 81 = .ok (.iastore, 1) := by decide +kernel
theorem dX9_shelf_82 : decode cX9_shelf 82 = .ok (.aload_n 0, 1) := by decide +kernel
theorem dX9_shelf_83 : decode cX9_shelf 83 = .ok (.getfield 95, 3) := by decide +kernel
theorem dX9_shelf_86 : decode cX9_shelf 86 = .ok (.iload_n 1, 1) := by decide +kernel
theorem dX9_shelf_87 : decode cX9_shelf 87 = .ok (.iload_n 2, 1) := by decide +kernel
theorem dX9_shelf_88 : decode cX9_shelf 88 = .ok (.bipush 7, 2) := by decide +kernel
theorem dX9_shelf_90 : decode cX9_shelf 90 = .ok (.if_icmp .ne 12, 3) := by decide +kernel
theorem dX9_shelf_93 : decode cX9_shelf 93 = .ok (.aload_n 0, 1) := by decide +kernel
theorem dX9_shelf_94 : decode cX9_shelf 94 = .ok (.getfield 83, 3) := by decide +kernel
theorem dX9_shelf_97 : decode cX9_shelf 97 = .ok (.iload_n 3, 1) := by decide +kernel
theorem dX9_shelf_98 : decode cX9_shelf 98 = .ok (.iaload, 1) := by decide +kernel
theorem dX9_shelf_99 : decode cX9_shelf 99 = .ok (.goto 4, 3) := by decide +kernel
theorem dX9_shelf_102 : decode cX9_shelf 102 = .ok (.iload_n 2, 1) := by decide +kernel
theorem dX9_shelf_103 : decode cX9_shelf 103 = .ok (.iastore, 1) := by decide +kernel
theorem dX9_shelf_104 : decode cX9_shelf 104 = .ok (.aload_n 0, 1) := by decide +kernel
theorem dX9_shelf_105 : decode cX9_shelf 105 = .ok (.getfield 98, 3) := by decide +kernel
theorem dX9_shelf_108 : decode cX9_shelf 108 = .ok (.iload_n 1, 1) := by decide +kernel
theorem dX9_shelf_109 : decode cX9_shelf 109 = .ok (.iload_n 2, 1) := by decide +kernel
theorem dX9_shelf_110 : decode cX9_shelf 110 = .ok (.bipush 7, 2) := by decide +kernel
theorem dX9_shelf_112 : decode cX9_shelf 112 = .ok (.if_icmp .ne 12, 3) := by decide +kernel
theorem dX9_shelf_115 : decode cX9_shelf 115 = .ok (.aload_n 0, 1) := by decide +kernel
theorem dX9_shelf_116 : decode cX9_shelf 116 = .ok (.getfield 86, 3) := by decide +kernel
theorem dX9_shelf_119 : decode cX9_shelf 119 = .ok (.iload_n 3, 1) := by decide +kernel
theorem dX9_shelf_120 : decode cX9_shelf 120 = .ok (.iaload, 1) := by decide +kernel
theorem dX9_shelf_121 : decode cX9_shelf 121 = .ok (.goto 4, 3) := by decide +kernel
theorem dX9_shelf_124 : decode cX9_shelf 124 = .ok (.iload_n 3, 1) := by decide +kernel
theorem dX9_shelf_125 : decode cX9_shelf 125 = .ok (.iastore, 1) := by decide +kernel
theorem dX9_shelf_126 : decode cX9_shelf 126 = .ok (.iconst 1, 1) := by decide +kernel
theorem dX9_shelf_127 : decode cX9_shelf 127 = .ok (.ireturn, 1) := by decide +kernel
theorem dX9_isThing_0 : decode cX9_isThing 0 = .ok (.aload_n 0, 1) := by decide +kernel
theorem dX9_isThing_1 : decode cX9_isThing 1 = .ok (.getfield 92, 3) := by decide +kernel
theorem dX9_isThing_4 : decode cX9_isThing 4 = .ok (.iload_n 1, 1) := by decide +kernel
theorem dX9_isThing_5 : decode cX9_isThing 5 = .ok (.iaload, 1) := by decide +kernel
theorem dX9_isThing_6 : decode cX9_isThing 6 = .ok (.iconst 1, 1) := by decide +kernel
theorem dX9_isThing_7 : decode cX9_isThing 7 = .ok (.if_icmp .ne 20, 3) := by decide +kernel
theorem dX9_isThing_10 : decode cX9_isThing 10 = .ok (.aload_n 0, 1) := by decide +kernel
theorem dX9_isThing_11 : decode cX9_isThing 11 = .ok (.aload_n 0, 1) := by decide +kernel
theorem dX9_isThing_12 : decode cX9_isThing 12 = .ok (.getfield 98, 3) := by decide +kernel
theorem dX9_isThing_15 : decode cX9_isThing 15 = .ok (.iload_n 1, 1) := by decide +kernel
theorem dX9_isThing_16 : decode cX9_isThing 16 = .ok (.iaload, 1) := by decide +kernel
theorem dX9_isThing_17 : decode cX9_isThing 17 = .ok (.invokevirtual 112, 3) := by decide +kernel
theorem dX9_isThing_20 : decode cX9_isThing 20 = .ok (.ifCond .eq 7, 3) := by decide +kernel
theorem dX9_isThing_23 : decode cX9_isThing 23 = .ok (.iconst 1, 1) := by decide +kernel
theorem dX9_isThing_24 : decode cX9_isThing 24 = .ok (.goto 4, 3) := by decide +kernel
theorem dX9_isThing_27 : decode cX9_isThing 27 = .ok (.iconst 0, 1) := by decide +kernel
theorem dX9_isThing_28 : decode cX9_isThing 28 = .ok (.ireturn, 1) := by decide +kernel
theorem dX9_above_0 : decode cX9_above 0 = .ok (.iload_n 0, 1) := by decide +kernel
theorem dX9_above_1 : decode cX9_above 1 = .ok (.iconst 1, 1) := by decide +kernel
theorem dX9_above_2 : decode cX9_above 2 = .ok (.if_icmp .eq 8, 3) := by decide +kernel
theorem dX9_above_5 : decode cX9_above 5 = .ok (.iload_n 0, 1) := by decide +kernel
theorem dX9_above_6 : decode cX9_above 6 = .ok (.iconst 2, 1) := by decide +kernel
theorem dX9_above_7 : decode cX9_above 7 = .ok (.if_icmp .ne 7, 3) := by decide +kernel
theorem dX9_above_10 : decode cX9_above 10 = .ok (.iconst 0, 1) := by decide +kernel
theorem dX9_above_11 : decode cX9_above 11 = .ok (.goto 27, 3) := by decide +kernel
theorem dX9_above_14 : decode cX9_above 14 = .ok (.iload_n 0, 1) := by decide +kernel
theorem dX9_above_15 : decode cX9_above 15 = .ok (.iconst 3, 1) := by decide +kernel
theorem dX9_above_16 : decode cX9_above 16 = .ok (.if_icmp .eq 8, 3) := by decide +kernel
theorem dX9_above_19 : decode cX9_above 19 = .ok (.iload_n 0, 1) := by decide +kernel
theorem dX9_above_20 : decode cX9_above 20 = .ok (.iconst 4, 1) := by decide +kernel
theorem dX9_above_21 : decode cX9_above 21 = .ok (.if_icmp .ne 7, 3) := by decide +kernel
theorem dX9_above_24 : decode cX9_above 24 = .ok (.iconst 2, 1) := by decide +kernel
theorem dX9_above_25 : decode cX9_above 25 = .ok (.goto 13, 3) := by decide +kernel
theorem dX9_above_28 : decode cX9_above 28 = .ok (.iload_n 0, 1) := by decide +kernel
theorem dX9_above_29 : decode cX9_above 29 = .ok (.iconst 5, 1) := by decide +kernel
theorem dX9_above_30 : decode cX9_above 30 = .ok (.if_icmp .ne 7, 3) := by decide +kernel
theorem dX9_above_33 : decode cX9_above 33 = .ok (.iconst 3, 1) := by decide +kernel
theorem dX9_above_34 : decode cX9_above 34 = .ok (.goto 4, 3) := by decide +kernel
theorem dX9_above_37 : decode cX9_above 37 = .ok (.iconst (-1), 1) := by decide +kernel
theorem dX9_above_38 : decode cX9_above 38 = .ok (.ireturn, 1) := by decide +kernel
theorem dX9_taken_0 : decode cX9_taken 0 = .ok (.iload_n 1, 1) := by decide +kernel
theorem dX9_taken_1 : decode cX9_taken 1 = .ok (.invokestatic 287, 3) := by decide +kernel
theorem dX9_taken_4 : decode cX9_taken 4 = .ok (.ifCond .eq 24, 3) := by decide +kernel
theorem dX9_taken_7 : decode cX9_taken 7 = .ok (.iload_n 2, 1) := by decide +kernel
theorem dX9_taken_8 : decode cX9_taken 8 = .ok (.iconst 0, 1) := by decide +kernel
theorem dX9_taken_9 : decode cX9_taken 9 = .ok (.bipush 6, 2) := by decide +kernel
theorem dX9_taken_11 : decode cX9_taken 11 = .ok (.invokestatic 104, 3) := by decide +kernel
theorem dX9_taken_14 : decode cX9_taken 14 = .ok (.ifCond .ne 16, 3) := by decide +kernel
theorem dX9_taken_17 : decode cX9_taken 17 = .ok (.iload_n 2, 1) := by decide +kernel
theorem dX9_taken_18 : decode cX9_taken 18 = .ok (.bipush 10, 2) := by decide +kernel
theorem dX9_taken_20 : decode cX9_taken 20 = .ok (.bipush 13, 2) := by decide +kernel
theorem dX9_taken_22 : decode cX9_taken 22 = .ok (.invokestatic 104, 3) := by decide +kernel
theorem dX9_taken_25 : decode cX9_taken 25 = .ok (.ifCond .ne 5, 3) := by decide +kernel
theorem dX9_taken_28 : decode cX9_taken 28 = .ok (.iconst (-1), 1) := by decide +kernel
theorem dX9_taken_29 : decode cX9_taken 29 = .ok (.ireturn, 1) := by decide +kernel
theorem dX9_taken_30 : decode cX9_taken 30 = .ok (.aload_n 0, 1) := by decide +kernel
theorem dX9_taken_31 : decode cX9_taken 31 = .ok (.getfield 92, 3) := by decide +kernel
theorem dX9_taken_34 : decode cX9_taken 34 = .ok (.iload_n 1, 1) := by decide +kernel
theorem dX9_taken_35 : decode cX9_taken 35 = .ok (.iaload, 1) := by decide +kernel
theorem dX9_taken_36 : decode cX9_taken 36 = .ok (.iconst 2, 1) := by decide +kernel
theorem dX9_taken_37 : decode cX9_taken 37 = .ok (.if_icmp .ne 28, 3) := by decide +kernel
theorem dX9_taken_40 : decode cX9_taken 40 = .ok (.iload_n 2, 1) := by decide +kernel
theorem dX9_taken_41 : decode cX9_taken 41 = .ok (.bipush 10, 2) := by decide +kernel
theorem dX9_taken_43 : decode cX9_taken 43 = .ok (.isub, 1) := by decide +kernel
theorem dX9_taken_44 : decode cX9_taken 44 = .ok (.aload_n 0, 1) := by decide +kernel
theorem dX9_taken_45 : decode cX9_taken 45 = .ok (.getfield 95, 3) := by decide +kernel
theorem dX9_taken_48 : decode cX9_taken 48 = .ok (.iload_n 1, 1) := by decide +kernel
theorem dX9_taken_49 : decode cX9_taken 49 = .ok (.iaload, 1) := by decide +kernel
theorem dX9_taken_50 : decode cX9_taken 50 = .ok (.if_icmp .ne 12, 3) := by decide +kernel
theorem dX9_taken_53 : decode cX9_taken 53 = .ok (.aload_n 0, 1) := by decide +kernel
theorem dX9_taken_54 : decode cX9_taken 54 = .ok (.getfield 98, 3) := by decide +kernel
theorem dX9_taken_57 : decode cX9_taken 57 = .ok (.iload_n 1, 1) := by decide +kernel
theorem dX9_taken_58 : decode cX9_taken 58 = .ok (.iaload, 1) := by decide +kernel
theorem dX9_taken_59 : decode cX9_taken 59 = .ok (.goto 5, 3) := by decide +kernel
theorem dX9_taken_62 : decode cX9_taken 62 = .ok (.bipush (-13), 2) := by decide +kernel
theorem dX9_taken_64 : decode cX9_taken 64 = .ok (.ireturn, 1) := by decide +kernel
theorem dX9_taken_65 : decode cX9_taken 65 = .ok (.aload_n 0, 1) := by decide +kernel
theorem dX9_taken_66 : decode cX9_taken 66 = .ok (.iload_n 1, 1) := by decide +kernel
theorem dX9_taken_67 : decode cX9_taken 67 = .ok (.invokevirtual 293, 3) := by decide +kernel
theorem dX9_taken_70 : decode cX9_taken 70 = .ok (.ifCond .ne 6, 3) := by decide +kernel
theorem dX9_taken_73 : decode cX9_taken 73 = .ok (.bipush (-11), 2) := by decide +kernel
theorem dX9_taken_75 : decode cX9_taken 75 = .ok (.ireturn, 1) := by decide +kernel
theorem dX9_taken_76 : decode cX9_taken 76 = .ok (.aload_n 0, 1) := by decide +kernel
theorem dX9_taken_77 : decode cX9_taken 77 = .ok (.getfield 95, 3) := by decide +kernel
theorem dX9_taken_80 : decode cX9_taken 80 = .ok (.iload_n 1, 1) := by decide +kernel
theorem dX9_taken_81 : decode cX9_taken 81 = .ok (.iaload, 1) := by decide +kernel
theorem dX9_taken_82 : decode cX9_taken 82 = .ok (.istore_n 3, 1) := by decide +kernel
theorem dX9_taken_83 : decode cX9_taken 83 = .ok (.iload_n 3, 1) := by decide +kernel
theorem dX9_taken_84 : decode cX9_taken 84 = .ok (.ifCond .lt 16, 3) := by decide +kernel
theorem dX9_taken_87 : decode cX9_taken 87 = .ok (.iload_n 3, 1) := by decide +kernel
theorem dX9_taken_88 : decode cX9_taken 88 = .ok (.iload_n 2, 1) := by decide +kernel
theorem dX9_taken_89 : decode cX9_taken 89 = .ok (.if_icmp .eq 11, 3) := by decide +kernel
theorem dX9_taken_92 : decode cX9_taken 92 = .ok (.iload_n 3, 1) := by decide +kernel
theorem dX9_taken_93 : decode cX9_taken 93 = .ok (.invokestatic 296, 3) := by decide +kernel
theorem dX9_taken_96 : decode cX9_taken 96 = .ok (.istore_n 3, 1) := by decide +kernel
theorem dX9_taken_97 : decode cX9_taken 97 = .ok (.goto (-14), 3) := by decide +kernel
theorem dX9_taken_100 : decode cX9_taken 100 = .ok (.iload_n 3, 1) := by decide +kernel
theorem dX9_taken_101 : decode cX9_taken 101 = .ok (.iload_n 2, 1) := by decide +kernel
theorem dX9_taken_102 : decode cX9_taken 102 = .ok (.if_icmp .ne 12, 3) := by decide +kernel
theorem dX9_taken_105 : decode cX9_taken 105 = .ok (.aload_n 0, 1) := by decide +kernel
theorem dX9_taken_106 : decode cX9_taken 106 = .ok (.getfield 98, 3) := by decide +kernel
theorem dX9_taken_109 : decode cX9_taken 109 = .ok (.iload_n 1, 1) := by decide +kernel
theorem dX9_taken_110 : decode cX9_taken 110 = .ok (.iaload, 1) := by decide +kernel
theorem dX9_taken_111 : decode cX9_taken 111 = .ok (.goto 5, 3) := by decide +kernel
theorem dX9_taken_114 : decode cX9_taken 114 = .ok (.bipush (-13), 2) := by decide +kernel
theorem dX9_taken_116 : decode cX9_taken 116 = .ok (.ireturn, 1) := by decide +kernel
theorem dX9_began_0 : decode cX9_began 0 = .ok (.aload_n 0, 1) := by decide +kernel
theorem dX9_began_1 : decode cX9_began 1 = .ok (.getfield 299, 3) := by decide +kernel
theorem dX9_began_4 : decode cX9_began 4 = .ok (.bipush 30, 2) := by decide +kernel
theorem dX9_began_6 : decode cX9_began 6 = .ok (.if_icmp .ge 23, 3) := by decide +kernel
theorem dX9_began_9 : decode cX9_began 9 = .ok (.aload_n 0, 1) := by decide +kernel
theorem dX9_began_10 : decode cX9_began 10 = .ok (.getfield 101, 3) := by decide +kernel
theorem dX9_began_13 : decode cX9_began 13 = .ok (.aload_n 0, 1) := by decide +kernel
theorem dX9_began_14 : decode cX9_began 14 = .ok (.getfield 299, 3) := by decide +kernel
theorem dX9_began_17 : decode cX9_began 17 = .ok (.iload_n 1, 1) := by decide +kernel
theorem dX9_began_18 : decode cX9_began 18 = .ok (.iastore, 1) := by decide +kernel
theorem dX9_began_19 : decode cX9_began 19 = .ok (.aload_n 0, 1) := by decide +kernel
theorem dX9_began_20 : decode cX9_began 20 = .ok (.dup, 1) := by decide +kernel
theorem dX9_began_21 : decode cX9_began 21 = .ok (.getfield 299, 3) := by decide +kernel
theorem dX9_began_24 : decode cX9_began 24 = .ok (.iconst 1, 1) := by decide +kernel
theorem dX9_began_25 : decode cX9_began 25 = .ok (.iadd, 1) := by decide +kernel
theorem dX9_began_26 : decode cX9_began 26 = .ok (.putfield 299, 3) := by decide +kernel
theorem dX9_began_29 : decode cX9_began 29 = .ok (.return_, 1) := by decide +kernel
theorem dX9_bodyOf_0 : decode cX9_bodyOf 0 = .ok (.iload_n 0, 1) := by decide +kernel
theorem dX9_bodyOf_1 : decode cX9_bodyOf 1 = .ok (.istore_n 2, 1) := by decide +kernel
theorem dX9_bodyOf_2 : decode cX9_bodyOf 2 = .ok (.iload_n 2, 1) := by decide +kernel
theorem dX9_bodyOf_3 : decode cX9_bodyOf 3 = .ok (.ifCond .lt 152, 3) := by decide +kernel
theorem dX9_bodyOf_6 : decode cX9_bodyOf 6 = .ok (.bipush 10, 2) := by decide +kernel
theorem dX9_bodyOf_8 : decode cX9_bodyOf 8 = .ok (.iload_n 2, 1) := by decide +kernel
theorem dX9_bodyOf_9 : decode cX9_bodyOf 9 = .ok (.imul, 1) := by decide +kernel
theorem dX9_bodyOf_10 : decode cX9_bodyOf 10 = .ok (.iload_n 1, 1) := by decide +kernel
theorem dX9_bodyOf_11 : decode cX9_bodyOf 11 = .ok (.iadd, 1) := by decide +kernel
theorem dX9_bodyOf_12 : decode cX9_bodyOf 12 = .ok (.lookupswitch 126 #[(11, 100), (20, 103), (31, 106), (33, 109), (42, 112), (50, 115), (52, 118), (60, 121), (61, 121), (62, 121), (63, 121)], 100) := by decide +kernel
theorem dX9_bodyOf_112 : decode cX9_bodyOf 112 = .ok (.bipush 20, 2) := by decide +kernel
theorem dX9_bodyOf_114 : decode cX9_bodyOf 114 = .ok (.ireturn, 1) := by decide +kernel
theorem dX9_bodyOf_115 : decode cX9_bodyOf 115 = .ok (.bipush 30, 2) := by decide +kernel
theorem dX9_bodyOf_117 : decode cX9_bodyOf 117 = .ok (.ireturn, 1) := by decide +kernel
theorem dX9_bodyOf_118 : decode cX9_bodyOf 118 = .ok (.bipush 40, 2) := by decide +kernel
theorem dX9_bodyOf_120 : decode cX9_bodyOf 120 = .ok (.ireturn, 1) := by decide +kernel
theorem dX9_bodyOf_121 : decode cX9_bodyOf 121 = .ok (.bipush 41, 2) := by decide +kernel
theorem dX9_bodyOf_123 : decode cX9_bodyOf 123 = .ok (.ireturn, 1) := by decide +kernel
theorem dX9_bodyOf_124 : decode cX9_bodyOf 124 = .ok (.bipush 50, 2) := by decide +kernel
theorem dX9_bodyOf_126 : decode cX9_bodyOf 126 = .ok (.ireturn, 1) := by decide +kernel
theorem dX9_bodyOf_127 : decode cX9_bodyOf 127 = .ok (.bipush 60, 2) := by decide +kernel
theorem dX9_bodyOf_129 : decode cX9_bodyOf 129 = .ok (.ireturn, 1) := by decide +kernel
theorem dX9_bodyOf_130 : decode cX9_bodyOf 130 = .ok (.bipush 61, 2) := by decide +kernel
theorem dX9_bodyOf_132 : decode cX9_bodyOf 132 = .ok (.ireturn, 1) := by decide +kernel
theorem dX9_bodyOf_133 : decode cX9_bodyOf 133 = .ok (.bipush 70, 2) := by decide +kernel
theorem dX9_bodyOf_135 : decode cX9_bodyOf 135 = .ok (.iload_n 1, 1) := by decide +kernel
theorem dX9_bodyOf_136 : decode cX9_bodyOf 136 = .ok (.iadd, 1) := by decide +kernel
theorem dX9_bodyOf_137 : decode cX9_bodyOf 137 = .ok (.ireturn, 1) := by decide +kernel
theorem dX9_bodyOf_138 : decode cX9_bodyOf 138 = .ok (.iload_n 2, 1) := by decide +kernel
theorem dX9_bodyOf_139 : decode cX9_bodyOf 139 = .ok (.ifCond .ne 8, 3) := by decide +kernel
theorem dX9_bodyOf_142 : decode cX9_bodyOf 142 = .ok (.bipush 10, 2) := by decide +kernel
theorem dX9_bodyOf_144 : decode cX9_bodyOf 144 = .ok (.iload_n 1, 1) := by decide +kernel
theorem dX9_bodyOf_145 : decode cX9_bodyOf 145 = .ok (.iadd, 1) := by decide +kernel
theorem dX9_bodyOf_146 : decode cX9_bodyOf 146 = .ok (.ireturn, 1) := by decide +kernel
theorem dX9_bodyOf_147 : decode cX9_bodyOf 147 = .ok (.iload_n 2, 1) := by decide +kernel
theorem dX9_bodyOf_148 : decode cX9_bodyOf 148 = .ok (.invokestatic 296, 3) := by decide +kernel
theorem dX9_bodyOf_151 : decode cX9_bodyOf 151 = .ok (.istore_n 2, 1) := by decide +kernel
theorem dX9_bodyOf_152 : decode cX9_bodyOf 152 = .ok (.goto (-150), 3) := by decide +kernel
theorem dX9_bodyOf_155 : decode cX9_bodyOf 155 = .ok (.iconst 0, 1) := by decide +kernel
theorem dX9_bodyOf_156 : decode cX9_bodyOf 156 = .ok (.ireturn, 1) := by decide +kernel
theorem dX9_acted_0 : decode cX9_acted 0 = .ok (.aload_n 0, 1) := by decide +kernel
theorem dX9_acted_1 : decode cX9_acted 1 = .ok (.aload_n 0, 1) := by decide +kernel
theorem dX9_acted_2 : decode cX9_acted 2 = .ok (.getfield 302, 3) := by decide +kernel
theorem dX9_acted_5 : decode cX9_acted 5 = .ok (.iload_n 1, 1) := by decide +kernel
theorem dX9_acted_6 : decode cX9_acted 6 = .ok (.invokestatic 305, 3) := by decide +kernel
theorem dX9_acted_9 : decode cX9_acted 9 = .ok (.iload_n 2, 1) := by decide +kernel
theorem dX9_acted_10 : decode cX9_acted 10 = .ok (.invokevirtual 308, 3) := by decide +kernel
theorem dX9_acted_13 : decode cX9_acted 13 = .ok (.ireturn, 1) := by decide +kernel
theorem dX9_fromAbove_0 : decode cX9_fromAbove 0 = .ok (.aload_n 0, 1) := by decide +kernel
theorem dX9_fromAbove_1 : decode cX9_fromAbove 1 = .ok (.iload_n 1, 1) := by decide +kernel
theorem dX9_fromAbove_2 : decode cX9_fromAbove 2 = .ok (.invokestatic 296, 3) := by decide +kernel
theorem dX9_fromAbove_5 : decode cX9_fromAbove 5 = .ok (.iload_n 2, 1) := by decide +kernel
theorem dX9_fromAbove_6 : decode cX9_fromAbove 6 = .ok (.invokestatic 305, 3) := by decide +kernel
theorem dX9_fromAbove_9 : decode cX9_fromAbove 9 = .ok (.iload_n 3, 1) := by decide +kernel
theorem dX9_fromAbove_10 : decode cX9_fromAbove 10 = .ok (.invokevirtual 308, 3) := by decide +kernel
theorem dX9_fromAbove_13 : decode cX9_fromAbove 13 = .ok (.ireturn, 1) := by decide +kernel
theorem dX9_parted_0 : decode cX9_parted 0 = .ok (.aload_n 0, 1) := by decide +kernel
theorem dX9_parted_1 : decode cX9_parted 1 = .ok (.getfield 311, 3) := by decide +kernel
theorem dX9_parted_4 : decode cX9_parted 4 = .ok (.aload_n 0, 1) := by decide +kernel
theorem dX9_parted_5 : decode cX9_parted 5 = .ok (.getfield 314, 3) := by decide +kernel
theorem dX9_parted_8 : decode cX9_parted 8 = .ok (.if_icmp .ne 10, 3) := by decide +kernel
theorem dX9_parted_11 : decode cX9_parted 11 = .ok (.aload_n 0, 1) := by decide +kernel
theorem dX9_parted_12 : decode cX9_parted 12 = .ok (.iconst 1, 1) := by decide +kernel
theorem dX9_parted_13 : decode cX9_parted 13 = .ok (.putfield 316, 3) := by decide +kernel
theorem dX9_parted_16 : decode cX9_parted 16 = .ok (.iconst 0, 1) := by decide +kernel
theorem dX9_parted_17 : decode cX9_parted 17 = .ok (.ireturn, 1) := by decide +kernel
theorem dX9_parted_18 : decode cX9_parted 18 = .ok (.iload_n 1, 1) := by decide +kernel
theorem dX9_parted_19 : decode cX9_parted 19 = .ok (.aload_n 0, 1) := by decide +kernel
theorem dX9_parted_20 : decode cX9_parted 20 = .ok (.getfield 311, 3) := by decide +kernel
theorem dX9_parted_23 : decode cX9_parted 23 = .ok (.aload_n 0, 1) := by decide +kernel
theorem dX9_parted_24 : decode cX9_parted 24 = .ok (.getfield 314, 3) := by decide +kernel
theorem dX9_parted_27 : decode cX9_parted 27 = .ok (.isub, 1) := by decide +kernel
theorem dX9_parted_28 : decode cX9_parted 28 = .ok (.idiv, 1) := by decide +kernel
theorem dX9_parted_29 : decode cX9_parted 29 = .ok (.ireturn, 1) := by decide +kernel
theorem dX9_body_0 : decode cX9_body 0 = .ok (.aload_n 0, 1) := by decide +kernel
theorem dX9_body_1 : decode cX9_body 1 = .ok (.iload_n 1, 1) := by decide +kernel
theorem dX9_body_2 : decode cX9_body 2 = .ok (.invokevirtual 319, 3) := by decide +kernel
theorem dX9_body_5 : decode cX9_body 5 = .ok (.iload_n 1, 1) := by decide +kernel
theorem dX9_body_6 : decode cX9_body 6 = .ok (.lookupswitch 270 #[(10, 122), (11, 129), (12, 138), (13, 144), (20, 156), (30, 166), (40, 176), (41, 189), (50, 211), (60, 221), (61, 234), (70, 244), (71, 251), (72, 263)], 122) := by decide +kernel
theorem dX9_body_128 : decode cX9_body 128 = .ok (.iload_n 2, 1) := by decide +kernel
theorem dX9_body_129 : decode cX9_body 129 = .ok (.aload_n 0, 1) := by decide +kernel
theorem dX9_body_130 : decode cX9_body 130 = .ok (.getfield 311, 3) := by decide +kernel
theorem dX9_body_133 : decode cX9_body 133 = .ok (.iadd, 1) := by decide +kernel
theorem dX9_body_134 : decode cX9_body 134 = .ok (.ireturn, 1) := by decide +kernel
theorem dX9_body_135 : decode cX9_body 135 = .ok (.aload_n 0, 1) := by decide +kernel
theorem dX9_body_136 : decode cX9_body 136 = .ok (.iconst 0, 1) := by decide +kernel
theorem dX9_body_137 : decode cX9_body 137 = .ok (.iload_n 2, 1) := by decide +kernel
theorem dX9_body_138 : decode cX9_body 138 = .ok (.invokevirtual 322, 3) := by decide +kernel
theorem dX9_body_141 : decode cX9_body 141 = .ok (.iconst 2, 1) := by decide +kernel
theorem dX9_body_142 : decode cX9_body 142 = .ok (.imul, 1) := by decide +kernel
theorem dX9_body_143 : decode cX9_body 143 = .ok (.ireturn, 1) := by decide +kernel
theorem dX9_body_144 : decode cX9_body 144 = .ok (.aload_n 0, 1) := by decide +kernel
theorem dX9_body_145 : decode cX9_body 145 = .ok (.iload_n 2, 1) := by decide +kernel
theorem dX9_body_146 : decode cX9_body 146 = .ok (.invokevirtual 325, 3) := by decide +kernel
theorem dX9_body_149 : decode cX9_body 149 = .ok (.ireturn, 1) := by decide +kernel
theorem dX9_body_150 : decode cX9_body 150 = .ok (.aload_n 0, 1) := by decide +kernel
theorem dX9_body_151 : decode cX9_body 151 = .ok (.iconst 1, 1) := by decide +kernel
theorem dX9_body_152 : decode cX9_body 152 = .ok (.iload_n 2, 1) := by decide +kernel
theorem dX9_body_153 : decode cX9_body 153 = .ok (.invokevirtual 322, 3) := by decide +kernel
theorem dX9_body_156 : decode cX9_body 156 = .ok (.aload_n 0, 1) := by decide +kernel
theorem dX9_body_157 : decode cX9_body 157 = .ok (.getfield 314, 3) := by decide +kernel
theorem dX9_body_160 : decode cX9_body 160 = .ok (.ixor, 1) := by decide +kernel
theorem dX9_body_161 : decode cX9_body 161 = .ok (.ireturn, 1) := by decide +kernel
theorem dX9_body_162 : decode cX9_body 162 = .ok (.iconst 0, 1) := by decide +kernel
theorem dX9_body_163 : decode cX9_body 163 = .ok (.aload_n 0, 1) := by decide +kernel
theorem dX9_body_164 : decode cX9_body 164 = .ok (.iconst 1, 1) := by decide +kernel
theorem dX9_body_165 : decode cX9_body 165 = .ok (.iconst 1, 1) := by decide +kernel
theorem dX9_body_166 : decode cX9_body 166 = .ok (.iload_n 2, 1) := by decide +kernel
theorem dX9_body_167 : decode cX9_body 167 = .ok (.invokevirtual 328, 3) := by decide +kernel
theorem dX9_body_170 : decode cX9_body 170 = .ok (.isub, 1) := by decide +kernel
theorem dX9_body_171 : decode cX9_body 171 = .ok (.ireturn, 1) := by decide +kernel
theorem dX9_body_172 : decode cX9_body 172 = .ok (.aload_n 0, 1) := by decide +kernel
theorem dX9_body_173 : decode cX9_body 173 = .ok (.iconst 2, 1) := by decide +kernel
theorem dX9_body_174 : decode cX9_body 174 = .ok (.iconst 0, 1) := by decide +kernel
theorem dX9_body_175 : decode cX9_body 175 = .ok (.iload_n 2, 1) := by decide +kernel
theorem dX9_body_176 : decode cX9_body 176 = .ok (.invokevirtual 328, 3) := by decide +kernel
theorem dX9_body_179 : decode cX9_body 179 = .ok (.iconst 3, 1) := by decide +kernel
theorem dX9_body_180 : decode cX9_body 180 = .ok (.imul, 1) := by decide +kernel
theorem dX9_body_181 : decode cX9_body 181 = .ok (.ireturn, 1) := by decide +kernel
theorem dX9_body_182 : decode cX9_body 182 = .ok (.aload_n 0, 1) := by decide +kernel
theorem dX9_body_183 : decode cX9_body 183 = .ok (.iconst 3, 1) := by decide +kernel
theorem dX9_body_184 : decode cX9_body 184 = .ok (.iconst 1, 1) := by decide +kernel
theorem dX9_body_185 : decode cX9_body 185 = .ok (.iload_n 2, 1) := by decide +kernel
theorem dX9_body_186 : decode cX9_body 186 = .ok (.invokevirtual 328, 3) := by decide +kernel
theorem dX9_body_189 : decode cX9_body 189 = .ok (.aload_n 0, 1) := by decide +kernel
theorem dX9_body_190 : decode cX9_body 190 = .ok (.getfield 311, 3) := by decide +kernel
theorem dX9_body_193 : decode cX9_body 193 = .ok (.iadd, 1) := by decide +kernel
theorem dX9_body_194 : decode cX9_body 194 = .ok (.ireturn, 1) := by decide +kernel
theorem dX9_body_195 : decode cX9_body 195 = .ok (.aload_n 0, 1) := by decide +kernel
theorem dX9_body_196 : decode cX9_body 196 = .ok (.iconst 3, 1) := by decide +kernel
theorem dX9_body_197 : decode cX9_body 197 = .ok (.iconst 3, 1) := by decide +kernel
theorem dX9_body_198 : decode cX9_body 198 = .ok (.iload_n 2, 1) := by decide +kernel
theorem dX9_body_199 : decode cX9_body 199 = .ok (.invokevirtual 328, 3) := by decide +kernel
theorem dX9_body_202 : decode cX9_body 202 = .ok (.istore_n 3, 1) := by decide +kernel
theorem dX9_body_203 : decode cX9_body 203 = .ok (.iload_n 3, 1) := by decide +kernel
theorem dX9_body_204 : decode cX9_body 204 = .ok (.aload_n 0, 1) := by decide +kernel
theorem dX9_body_205 : decode cX9_body 205 = .ok (.iconst 2, 1) := by decide +kernel
theorem dX9_body_206 : decode cX9_body 206 = .ok (.aload_n 0, 1) := by decide +kernel
theorem dX9_body_207 : decode cX9_body 207 = .ok (.getfield 314, 3) := by decide +kernel
theorem dX9_body_210 : decode cX9_body 210 = .ok (.iconst 1, 1) := by decide +kernel
theorem dX9_body_211 : decode cX9_body 211 = .ok (.iadd, 1) := by decide +kernel
theorem dX9_body_212 : decode cX9_body 212 = .ok (.invokevirtual 322, 3) := by decide +kernel
theorem dX9_body_215 : decode cX9_body 215 = .ok (.iadd, 1) := by decide +kernel
theorem dX9_body_216 : decode cX9_body 216 = .ok (.ireturn, 1) := by decide +kernel
theorem dX9_body_217 : decode cX9_body 217 = .ok (.aload_n 0, 1) := by decide +kernel
theorem dX9_body_218 : decode cX9_body 218 = .ok (.iconst 4, 1) := by decide +kernel
theorem dX9_body_219 : decode cX9_body 219 = .ok (.iconst 2, 1) := by decide +kernel
theorem dX9_body_220 : decode cX9_body 220 = .ok (.iload_n 2, 1) := by decide +kernel
theorem dX9_body_221 : decode cX9_body 221 = .ok (.iconst 1, 1) := by decide +kernel
theorem dX9_body_222 : decode cX9_body 222 = .ok (.isub, 1) := by decide +kernel
theorem dX9_body_223 : decode cX9_body 223 = .ok (.invokevirtual 328, 3) := by decide +kernel
theorem dX9_body_226 : decode cX9_body 226 = .ok (.ireturn, 1) := by decide +kernel
theorem dX9_body_227 : decode cX9_body 227 = .ok (.aload_n 0, 1) := by decide +kernel
theorem dX9_body_228 : decode cX9_body 228 = .ok (.iconst 5, 1) := by decide +kernel
theorem dX9_body_229 : decode cX9_body 229 = .ok (.iconst 0, 1) := by decide +kernel
theorem dX9_body_230 : decode cX9_body 230 = .ok (.iload_n 2, 1) := by decide +kernel
theorem dX9_body_231 : decode cX9_body 231 = .ok (.invokevirtual 328, 3) := by decide +kernel
theorem dX9_body_234 : decode cX9_body 234 = .ok (.aload_n 0, 1) := by decide +kernel
theorem dX9_body_235 : decode cX9_body 235 = .ok (.getfield 311, 3) := by decide +kernel
theorem dX9_body_238 : decode cX9_body 238 = .ok (.ixor, 1) := by decide +kernel
theorem dX9_body_239 : decode cX9_body 239 = .ok (.ireturn, 1) := by decide +kernel
theorem dX9_body_240 : decode cX9_body 240 = .ok (.aload_n 0, 1) := by decide +kernel
theorem dX9_body_241 : decode cX9_body 241 = .ok (.iconst 5, 1) := by decide +kernel
theorem dX9_body_242 : decode cX9_body 242 = .ok (.iconst 2, 1) := by decide +kernel
theorem dX9_body_243 : decode cX9_body 243 = .ok (.iload_n 2, 1) := by decide +kernel
theorem dX9_body_244 : decode cX9_body 244 = .ok (.iconst 2, 1) := by decide +kernel
theorem dX9_body_245 : decode cX9_body 245 = .ok (.iadd, 1) := by decide +kernel
theorem dX9_body_246 : decode cX9_body 246 = .ok (.invokevirtual 328, 3) := by decide +kernel
theorem dX9_body_249 : decode cX9_body 249 = .ok (.ireturn, 1) := by decide +kernel
theorem dX9_body_250 : decode cX9_body 250 = .ok (.iload_n 2, 1) := by decide +kernel
theorem dX9_body_251 : decode cX9_body 251 = .ok (.aload_n 0, 1) := by decide +kernel
theorem dX9_body_252 : decode cX9_body 252 = .ok (.getfield 311, 3) := by decide +kernel
theorem dX9_body_255 : decode cX9_body 255 = .ok (.isub, 1) := by decide +kernel
theorem dX9_body_256 : decode cX9_body 256 = .ok (.ireturn, 1) := by decide +kernel
theorem dX9_body_257 : decode cX9_body 257 = .ok (.aload_n 0, 1) := by decide +kernel
theorem dX9_body_258 : decode cX9_body 258 = .ok (.iconst 0, 1) := by decide +kernel
theorem dX9_body_259 : decode cX9_body 259 = .ok (.iload_n 2, 1) := by decide +kernel
theorem dX9_body_260 : decode cX9_body 260 = .ok (.invokevirtual 322, 3) := by decide +kernel
theorem dX9_body_263 : decode cX9_body 263 = .ok (.aload_n 0, 1) := by decide +kernel
theorem dX9_body_264 : decode cX9_body 264 = .ok (.getfield 314, 3) := by decide +kernel
theorem dX9_body_267 : decode cX9_body 267 = .ok (.imul, 1) := by decide +kernel
theorem dX9_body_268 : decode cX9_body 268 = .ok (.ireturn, 1) := by decide +kernel
theorem dX9_body_269 : decode cX9_body 269 = .ok (.iload_n 2, 1) := by decide +kernel
theorem dX9_body_270 : decode cX9_body 270 = .ok (.aload_n 0, 1) := by decide +kernel
theorem dX9_body_271 : decode cX9_body 271 = .ok (.getfield 311, 3) := by decide +kernel
theorem dX9_body_274 : decode cX9_body 274 = .ok (.ixor, 1) := by decide +kernel
theorem dX9_body_275 : decode cX9_body 275 = .ok (.ireturn, 1) := by decide +kernel
theorem dX9_body_276 : decode cX9_body 276 = .ok (.aload_n 0, 1) := by decide +kernel
theorem dX9_body_277 : decode cX9_body 277 = .ok (.iconst 1, 1) := by decide +kernel
theorem dX9_body_278 : decode cX9_body 278 = .ok (.iload_n 2, 1) := by decide +kernel
theorem dX9_body_279 : decode cX9_body 279 = .ok (.invokevirtual 322, 3) := by decide +kernel
theorem dX9_body_282 : decode cX9_body 282 = .ok (.istore_n 3, 1) := by decide +kernel
theorem dX9_body_283 : decode cX9_body 283 = .ok (.iload_n 3, 1) := by decide +kernel
theorem dX9_body_284 : decode cX9_body 284 = .ok (.aload_n 0, 1) := by decide +kernel
theorem dX9_body_285 : decode cX9_body 285 = .ok (.iconst 2, 1) := by decide +kernel
theorem dX9_body_286 : decode cX9_body 286 = .ok (.aload_n 0, 1) := by decide +kernel
theorem dX9_body_287 : decode cX9_body 287 = .ok (.getfield 314, 3) := by decide +kernel
theorem dX9_body_290 : decode cX9_body 290 = .ok (.invokevirtual 322, 3) := by decide +kernel
theorem dX9_body_293 : decode cX9_body 293 = .ok (.iadd, 1) := by decide +kernel
theorem dX9_body_294 : decode cX9_body 294 = .ok (.ireturn, 1) := by decide +kernel
theorem dX9_itsOf_0 : decode cX9_itsOf 0 = .ok (.iload_n 1, 1) := by decide +kernel
theorem dX9_itsOf_1 : decode cX9_itsOf 1 = .ok (.bipush 6, 2) := by decide +kernel
theorem dX9_itsOf_3 : decode cX9_itsOf 3 = .ok (.if_icmp .ne 10, 3) := by decide +kernel
theorem dX9_itsOf_6 : decode cX9_itsOf 6 = .ok (.aload_n 0, 1) := by decide +kernel
theorem dX9_itsOf_7 : decode cX9_itsOf 7 = .ok (.iload_n 2, 1) := by decide +kernel
theorem dX9_itsOf_8 : decode cX9_itsOf 8 = .ok (.iconst 0, 1) := by decide +kernel
theorem dX9_itsOf_9 : decode cX9_itsOf 9 = .ok (.invokevirtual 116, 3) := by decide +kernel
theorem dX9_itsOf_12 : decode cX9_itsOf 12 = .ok (.ireturn, 1) := by decide +kernel
theorem dX9_itsOf_13 : decode cX9_itsOf 13 = .ok (.iload_n 1, 1) := by decide +kernel
theorem dX9_itsOf_14 : decode cX9_itsOf 14 = .ok (.ifCond .eq 8, 3) := by decide +kernel
theorem dX9_itsOf_17 : decode cX9_itsOf 17 = .ok (.iload_n 1, 1) := by decide +kernel
theorem dX9_itsOf_18 : decode cX9_itsOf 18 = .ok (.iconst 2, 1) := by decide +kernel
theorem dX9_itsOf_19 : decode cX9_itsOf 19 = .ok (.if_icmp .ne 15, 3) := by decide +kernel
theorem dX9_itsOf_22 : decode cX9_itsOf 22 = .ok (.aload_n 0, 1) := by decide +kernel
theorem dX9_itsOf_23 : decode cX9_itsOf 23 = .ok (.invokevirtual 141, 3) := by decide +kernel
theorem dX9_itsOf_26 : decode cX9_itsOf 26 = .ok (.istore_n 3, 1) := by decide +kernel
theorem dX9_itsOf_27 : decode cX9_itsOf 27 = .ok (.aload_n 0, 1) := by decide +kernel
theorem dX9_itsOf_28 : decode cX9_itsOf 28 = .ok (.getfield 31, 3) := by decide +kernel
theorem dX9_itsOf_31 : decode cX9_itsOf 31 = .ok (.iload_n 2, 1) := by decide +kernel
theorem dX9_itsOf_32 : decode cX9_itsOf 32 = .ok (.iaload, 1) := by decide +kernel
theorem dX9_itsOf_33 : decode cX9_itsOf 33 = .ok (.ireturn, 1) := by decide +kernel
theorem dX9_itsOf_34 : decode cX9_itsOf 34 = .ok (.aload_n 0, 1) := by decide +kernel
theorem dX9_itsOf_35 : decode cX9_itsOf 35 = .ok (.iload_n 1, 1) := by decide +kernel
theorem dX9_itsOf_36 : decode cX9_itsOf 36 = .ok (.iconst 1, 1) := by decide +kernel
theorem dX9_itsOf_37 : decode cX9_itsOf 37 = .ok (.if_icmp .ne 7, 3) := by decide +kernel
theorem dX9_itsOf_40 : decode cX9_itsOf 40 = .ok (.iconst 0, 1) := by decide +kernel
theorem dX9_itsOf_41 : decode cX9_itsOf 41 = .ok (.goto 22, 3) := by decide +kernel
theorem dX9_itsOf_44 : decode cX9_itsOf 44 = .ok (.iload_n 1, 1) := by decide +kernel
theorem dX9_itsOf_45 : decode cX9_itsOf 45 = .ok (.iconst 3, 1) := by decide +kernel
theorem dX9_itsOf_46 : decode cX9_itsOf 46 = .ok (.if_icmp .ne 7, 3) := by decide +kernel
theorem dX9_itsOf_49 : decode cX9_itsOf 49 = .ok (.iconst 1, 1) := by decide +kernel
theorem dX9_itsOf_50 : decode cX9_itsOf 50 = .ok (.goto 13, 3) := by decide +kernel
theorem dX9_itsOf_53 : decode cX9_itsOf 53 = .ok (.iload_n 1, 1) := by decide +kernel
theorem dX9_itsOf_54 : decode cX9_itsOf 54 = .ok (.iconst 4, 1) := by decide +kernel
theorem dX9_itsOf_55 : decode cX9_itsOf 55 = .ok (.if_icmp .ne 7, 3) := by decide +kernel
theorem dX9_itsOf_58 : decode cX9_itsOf 58 = .ok (.iconst 2, 1) := by decide +kernel
theorem dX9_itsOf_59 : decode cX9_itsOf 59 = .ok (.goto 4, 3) := by decide +kernel
theorem dX9_itsOf_62 : decode cX9_itsOf 62 = .ok (.iconst 3, 1) := by decide +kernel
theorem dX9_itsOf_63 : decode cX9_itsOf 63 = .ok (.invokevirtual 154, 3) := by decide +kernel
theorem dX9_itsOf_66 : decode cX9_itsOf 66 = .ok (.aload_n 0, 1) := by decide +kernel
theorem dX9_itsOf_67 : decode cX9_itsOf 67 = .ok (.getfield 34, 3) := by decide +kernel
theorem dX9_itsOf_70 : decode cX9_itsOf 70 = .ok (.iload_n 2, 1) := by decide +kernel
theorem dX9_itsOf_71 : decode cX9_itsOf 71 = .ok (.iaload, 1) := by decide +kernel
theorem dX9_itsOf_72 : decode cX9_itsOf 72 = .ok (.ireturn, 1) := by decide +kernel
theorem dX9_act_0 : decode cX9_act 0 = .ok (.aload_n 0, 1) := by decide +kernel
theorem dX9_act_1 : decode cX9_act 1 = .ok (.iconst 0, 1) := by decide +kernel
theorem dX9_act_2 : decode cX9_act 2 = .ok (.putfield 299, 3) := by decide +kernel
theorem dX9_act_5 : decode cX9_act 5 = .ok (.iload_n 1, 1) := by decide +kernel
theorem dX9_act_6 : decode cX9_act 6 = .ok (.invokestatic 287, 3) := by decide +kernel
theorem dX9_act_9 : decode cX9_act 9 = .ok (.ifCond .eq 18, 3) := by decide +kernel
theorem dX9_act_12 : decode cX9_act 12 = .ok (.iload_n 2, 1) := by decide +kernel
theorem dX9_act_13 : decode cX9_act 13 = .ok (.invokestatic 287, 3) := by decide +kernel
theorem dX9_act_16 : decode cX9_act 16 = .ok (.ifCond .eq 11, 3) := by decide +kernel
theorem dX9_act_19 : decode cX9_act 19 = .ok (.aload_n 0, 1) := by decide +kernel
theorem dX9_act_20 : decode cX9_act 20 = .ok (.iload_n 1, 1) := by decide +kernel
theorem dX9_act_21 : decode cX9_act 21 = .ok (.invokevirtual 293, 3) := by decide +kernel
theorem dX9_act_24 : decode cX9_act 24 = .ok (.ifCond .ne 5, 3) := by decide +kernel
theorem dX9_act_27 : decode cX9_act 27 = .ok (.iconst 0, 1) := by decide +kernel
theorem dX9_act_28 : decode cX9_act 28 = .ok (.ireturn, 1) := by decide +kernel
theorem dX9_act_29 : decode cX9_act 29 = .ok (.aload_n 0, 1) := by decide +kernel
theorem dX9_act_30 : decode cX9_act 30 = .ok (.aload_n 0, 1) := by decide +kernel
theorem dX9_act_31 : decode cX9_act 31 = .ok (.getfield 95, 3) := by decide +kernel
theorem dX9_act_34 : decode cX9_act 34 = .ok (.iload_n 1, 1) := by decide +kernel
theorem dX9_act_35 : decode cX9_act 35 = .ok (.iaload, 1) := by decide +kernel
theorem dX9_act_36 : decode cX9_act 36 = .ok (.putfield 302, 3) := by decide +kernel
theorem dX9_act_39 : decode cX9_act 39 = .ok (.aload_n 0, 1) := by decide +kernel
theorem dX9_act_40 : decode cX9_act 40 = .ok (.aload_n 0, 1) := by decide +kernel
theorem dX9_act_41 : decode cX9_act 41 = .ok (.getfield 98, 3) := by decide +kernel
theorem dX9_act_44 : decode cX9_act 44 = .ok (.iload_n 1, 1) := by decide +kernel
theorem dX9_act_45 : decode cX9_act 45 = .ok (.iaload, 1) := by decide +kernel
theorem dX9_act_46 : decode cX9_act 46 = .ok (.putfield 314, 3) := by decide +kernel
theorem dX9_act_49 : decode cX9_act 49 = .ok (.aload_n 0, 1) := by decide +kernel
theorem dX9_act_50 : decode cX9_act 50 = .ok (.aload_n 0, 1) := by decide +kernel
theorem dX9_act_51 : decode cX9_act 51 = .ok (.aload_n 0, 1) := by decide +kernel
theorem dX9_act_52 : decode cX9_act 52 = .ok (.getfield 302, 3) := by decide +kernel
theorem dX9_act_55 : decode cX9_act 55 = .ok (.aload_n 0, 1) := by decide +kernel
theorem dX9_act_56 : decode cX9_act 56 = .ok (.getfield 314, 3) := by decide +kernel
theorem dX9_act_59 : decode cX9_act 59 = .ok (.invokevirtual 331, 3) := by decide +kernel
theorem dX9_act_62 : decode cX9_act 62 = .ok (.putfield 311, 3) := by decide +kernel
theorem dX9_act_65 : decode cX9_act 65 = .ok (.aload_n 0, 1) := by decide +kernel
theorem dX9_act_66 : decode cX9_act 66 = .ok (.iconst 0, 1) := by decide +kernel
theorem dX9_act_67 : decode cX9_act 67 = .ok (.putfield 316, 3) := by decide +kernel
theorem dX9_act_70 : decode cX9_act 70 = .ok (.aload_n 0, 1) := by decide +kernel
theorem dX9_act_71 : decode cX9_act 71 = .ok (.iload_n 2, 1) := by decide +kernel
theorem dX9_act_72 : decode cX9_act 72 = .ok (.iload_n 3, 1) := by decide +kernel
theorem dX9_act_73 : decode cX9_act 73 = .ok (.invokevirtual 322, 3) := by decide +kernel
theorem dX9_act_76 : decode cX9_act 76 = .ok (.istore 4, 2) := by decide +kernel
theorem dX9_act_78 : decode cX9_act 78 = .ok (.aload_n 0, 1) := by decide +kernel
theorem dX9_act_79 : decode cX9_act 79 = .ok (.getfield 316, 3) := by decide +kernel
theorem dX9_act_82 : decode cX9_act 82 = .ok (.ifCond .eq 8, 3) := by decide +kernel
theorem dX9_act_85 : decode cX9_act 85 = .ok (.bipush (-15), 2) := by decide +kernel
theorem dX9_act_87 : decode cX9_act 87 = .ok (.goto 5, 3) := by decide +kernel
theorem dX9_act_90 : decode cX9_act 90 = .ok (.iload 4, 2) := by decide +kernel
theorem dX9_act_92 : decode cX9_act 92 = .ok (.ireturn, 1) := by decide +kernel
theorem dX9_trace_0 : decode cX9_trace 0 = .ok (.iload_n 1, 1) := by decide +kernel
theorem dX9_trace_1 : decode cX9_trace 1 = .ok (.iconst 0, 1) := by decide +kernel
theorem dX9_trace_2 : decode cX9_trace 2 = .ok (.aload_n 0, 1) := by decide +kernel
theorem dX9_trace_3 : decode cX9_trace 3 = .ok (.getfield 299, 3) := by decide +kernel
theorem dX9_trace_6 : decode cX9_trace 6 = .ok (.iconst 1, 1) := by decide +kernel
theorem dX9_trace_7 : decode cX9_trace 7 = .ok (.isub, 1) := by decide +kernel
theorem dX9_trace_8 : decode cX9_trace 8 = .ok (.invokestatic 104, 3) := by decide +kernel
theorem dX9_trace_11 : decode cX9_trace 11 = .ok (.ifCond .eq 12, 3) := by decide +kernel
theorem dX9_trace_14 : decode cX9_trace 14 = .ok (.aload_n 0, 1) := by decide +kernel
theorem dX9_trace_15 : decode cX9_trace 15 = .ok (.getfield 101, 3) := by decide +kernel
theorem dX9_trace_18 : decode cX9_trace 18 = .ok (.iload_n 1, 1) := by decide +kernel
theorem dX9_trace_19 : decode cX9_trace 19 = .ok (.iaload, 1) := by decide +kernel
theorem dX9_trace_20 : decode cX9_trace 20 = .ok (.goto 5, 3) := by decide +kernel
theorem dX9_trace_23 : decode cX9_trace 23 = .ok (.bipush (-3), 2) := by decide +kernel
theorem dX9_trace_25 : decode cX9_trace 25 = .ok (.ireturn, 1) := by decide +kernel
theorem dX9_many_0 : decode cX9_many 0 = .ok (.iload_n 1, 1) := by decide +kernel
theorem dX9_many_1 : decode cX9_many 1 = .ok (.tableswitch 97 0 7 #[47, 54, 61, 68, 73, 78, 83, 90], 47) := by decide +kernel
theorem dX9_many_48 : decode cX9_many 48 = .ok (.aload_n 0, 1) := by decide +kernel
theorem dX9_many_49 : decode cX9_many 49 = .ok (.getfield 9, 3) := by decide +kernel
theorem dX9_many_52 : decode cX9_many 52 = .ok (.iconst 0, 1) := by decide +kernel
theorem dX9_many_53 : decode cX9_many 53 = .ok (.iaload, 1) := by decide +kernel
theorem dX9_many_54 : decode cX9_many 54 = .ok (.ireturn, 1) := by decide +kernel
theorem dX9_many_55 : decode cX9_many 55 = .ok (.aload_n 0, 1) := by decide +kernel
theorem dX9_many_56 : decode cX9_many 56 = .ok (.getfield 9, 3) := by decide +kernel
theorem dX9_many_59 : decode cX9_many 59 = .ok (.iconst 1, 1) := by decide +kernel
theorem dX9_many_60 : decode cX9_many 60 = .ok (.iaload, 1) := by decide +kernel
theorem dX9_many_61 : decode cX9_many 61 = .ok (.ireturn, 1) := by decide +kernel
theorem dX9_many_62 : decode cX9_many 62 = .ok (.aload_n 0, 1) := by decide +kernel
theorem dX9_many_63 : decode cX9_many 63 = .ok (.getfield 9, 3) := by decide +kernel
theorem dX9_many_66 : decode cX9_many 66 = .ok (.iconst 2, 1) := by decide +kernel
theorem dX9_many_67 : decode cX9_many 67 = .ok (.iaload, 1) := by decide +kernel
theorem dX9_many_68 : decode cX9_many 68 = .ok (.ireturn, 1) := by decide +kernel
theorem dX9_many_69 : decode cX9_many 69 = .ok (.aload_n 0, 1) := by decide +kernel
theorem dX9_many_70 : decode cX9_many 70 = .ok (.getfield 281, 3) := by decide +kernel
theorem dX9_many_73 : decode cX9_many 73 = .ok (.ireturn, 1) := by decide +kernel
theorem dX9_many_74 : decode cX9_many 74 = .ok (.aload_n 0, 1) := by decide +kernel
theorem dX9_many_75 : decode cX9_many 75 = .ok (.getfield 169, 3) := by decide +kernel
theorem dX9_many_78 : decode cX9_many 78 = .ok (.ireturn, 1) := by decide +kernel
theorem dX9_many_79 : decode cX9_many 79 = .ok (.aload_n 0, 1) := by decide +kernel
theorem dX9_many_80 : decode cX9_many 80 = .ok (.getfield 299, 3) := by decide +kernel
theorem dX9_many_83 : decode cX9_many 83 = .ok (.ireturn, 1) := by decide +kernel
theorem dX9_many_84 : decode cX9_many 84 = .ok (.aload_n 0, 1) := by decide +kernel
theorem dX9_many_85 : decode cX9_many 85 = .ok (.getfield 9, 3) := by decide +kernel
theorem dX9_many_88 : decode cX9_many 88 = .ok (.iconst 5, 1) := by decide +kernel
theorem dX9_many_89 : decode cX9_many 89 = .ok (.iaload, 1) := by decide +kernel
theorem dX9_many_90 : decode cX9_many 90 = .ok (.ireturn, 1) := by decide +kernel
theorem dX9_many_91 : decode cX9_many 91 = .ok (.aload_n 0, 1) := by decide +kernel
theorem dX9_many_92 : decode cX9_many 92 = .ok (.getfield 9, 3) := by decide +kernel
theorem dX9_many_95 : decode cX9_many 95 = .ok (.iconst 4, 1) := by decide +kernel
theorem dX9_many_96 : decode cX9_many 96 = .ok (.iaload, 1) := by decide +kernel
theorem dX9_many_97 : decode cX9_many 97 = .ok (.ireturn, 1) := by decide +kernel
theorem dX9_many_98 : decode cX9_many 98 = .ok (.iconst (-1), 1) := by decide +kernel
theorem dX9_many_99 : decode cX9_many 99 = .ok (.ireturn, 1) := by decide +kernel
theorem dX9_keep_0 : decode cX9_keep 0 = .ok (.iconst 0, 1) := by decide +kernel
theorem dX9_keep_1 : decode cX9_keep 1 = .ok (.istore_n 1, 1) := by decide +kernel
theorem dX9_keep_2 : decode cX9_keep 2 = .ok (.iload_n 1, 1) := by decide +kernel
theorem dX9_keep_3 : decode cX9_keep 3 = .ok (.sipush 356, 3) := by decide +kernel
theorem dX9_keep_6 : decode cX9_keep 6 = .ok (.if_icmp .ge 21, 3) := by decide +kernel
theorem dX9_keep_9 : decode cX9_keep 9 = .ok (.aload_n 0, 1) := by decide +kernel
theorem dX9_keep_10 : decode cX9_keep 10 = .ok (.getfield 13, 3) := by decide +kernel
theorem dX9_keep_13 : decode cX9_keep 13 = .ok (.iload_n 1, 1) := by decide +kernel
theorem dX9_keep_14 : decode cX9_keep 14 = .ok (.aload_n 0, 1) := by decide +kernel
theorem dX9_keep_15 : decode cX9_keep 15 = .ok (.getfield 9, 3) := by decide +kernel
theorem dX9_keep_18 : decode cX9_keep 18 = .ok (.iload_n 1, 1) := by decide +kernel
theorem dX9_keep_19 : decode cX9_keep 19 = .ok (.iaload, 1) := by decide +kernel
theorem dX9_keep_20 : decode cX9_keep 20 = .ok (.iastore, 1) := by decide +kernel
theorem dX9_keep_21 : decode cX9_keep 21 = .ok (.iinc 1 1, 3) := by decide +kernel
theorem dX9_keep_24 : decode cX9_keep 24 = .ok (.goto (-22), 3) := by decide +kernel
theorem dX9_keep_27 : decode cX9_keep 27 = .ok (.aload_n 0, 1) := by decide +kernel
theorem dX9_keep_28 : decode cX9_keep 28 = .ok (.iconst 1, 1) := by decide +kernel
theorem dX9_keep_29 : decode cX9_keep 29 = .ok (.putfield 334, 3) := by decide +kernel
theorem dX9_keep_32 : decode cX9_keep 32 = .ok (.iconst 1, 1) := by decide +kernel
theorem dX9_keep_33 : decode cX9_keep 33 = .ok (.ireturn, 1) := by decide +kernel
theorem dX9_again_0 : decode cX9_again 0 = .ok (.aload_n 0, 1) := by decide +kernel
theorem dX9_again_1 : decode cX9_again 1 = .ok (.getfield 334, 3) := by decide +kernel
theorem dX9_again_4 : decode cX9_again 4 = .ok (.ifCond .ne 6, 3) := by decide +kernel
theorem dX9_again_7 : decode cX9_again 7 = .ok (.bipush (-3), 2) := by decide +kernel
theorem dX9_again_9 : decode cX9_again 9 = .ok (.ireturn, 1) := by decide +kernel
theorem dX9_again_10 : decode cX9_again 10 = .ok (.iconst 0, 1) := by decide +kernel
theorem dX9_again_11 : decode cX9_again 11 = .ok (.istore_n 1, 1) := by decide +kernel
theorem dX9_again_12 : decode cX9_again 12 = .ok (.iload_n 1, 1) := by decide +kernel
theorem dX9_again_13 : decode cX9_again 13 = .ok (.sipush 356, 3) := by decide +kernel
theorem dX9_again_16 : decode cX9_again 16 = .ok (.if_icmp .ge 21, 3) := by decide +kernel
theorem dX9_again_19 : decode cX9_again 19 = .ok (.aload_n 0, 1) := by decide +kernel
theorem dX9_again_20 : decode cX9_again 20 = .ok (.getfield 9, 3) := by decide +kernel
theorem dX9_again_23 : decode cX9_again 23 = .ok (.iload_n 1, 1) := by decide +kernel
theorem dX9_again_24 : decode cX9_again 24 = .ok (.aload_n 0, 1) := by decide +kernel
theorem dX9_again_25 : decode cX9_again 25 = .ok (.getfield 13, 3) := by decide +kernel
theorem dX9_again_28 : decode cX9_again 28 = .ok (.iload_n 1, 1) := by decide +kernel
theorem dX9_again_29 : decode cX9_again 29 = .ok (.iaload, 1) := by decide +kernel
theorem dX9_again_30 : decode cX9_again 30 = .ok (.iastore, 1) := by decide +kernel
theorem dX9_again_31 : decode cX9_again 31 = .ok (.iinc 1 1, 3) := by decide +kernel
theorem dX9_again_34 : decode cX9_again 34 = .ok (.goto (-22), 3) := by decide +kernel
theorem dX9_again_37 : decode cX9_again 37 = .ok (.iconst 1, 1) := by decide +kernel
theorem dX9_again_38 : decode cX9_again 38 = .ok (.ireturn, 1) := by decide +kernel
