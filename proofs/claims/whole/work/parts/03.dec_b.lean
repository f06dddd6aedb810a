theorem dX9_init_0 : decode cX9_init 0 = .ok (.aload_n 0, 1) := by decide +kernel
theorem dX9_init_1 : decode cX9_init 1 = .ok (.invokespecial 1, 3) := by decide +kernel
theorem dX9_init_4 : decode cX9_init 4 = .ok (.aload_n 0, 1) := by decide +kernel
theorem dX9_init_5 : decode cX9_init 5 = .ok (.sipush 200, 3) := by decide +kernel
theorem dX9_init_8 : decode cX9_init 8 = .ok (.newarray .int, 2) := by decide +kernel
theorem dX9_init_10 : decode cX9_init 10 = .ok (.putfield 7, 3) := by decide +kernel
theorem dX9_init_13 : decode cX9_init 13 = .ok (.aload_n 0, 1) := by decide +kernel
theorem dX9_init_14 : decode cX9_init 14 = .ok (.sipush 200, 3) := by decide +kernel
theorem dX9_init_17 : decode cX9_init 17 = .ok (.newarray .long, 2) := by decide +kernel
theorem dX9_init_19 : decode cX9_init 19 = .ok (.putfield 13, 3) := by decide +kernel
theorem dX9_init_22 : decode cX9_init 22 = .ok (.aload_n 0, 1) := by decide +kernel
theorem dX9_init_23 : decode cX9_init 23 = .ok (.sipush 200, 3) := by decide +kernel
theorem dX9_init_26 : decode cX9_init 26 = .ok (.newarray .long, 2) := by decide +kernel
theorem dX9_init_28 : decode cX9_init 28 = .ok (.putfield 17, 3) := by decide +kernel
theorem dX9_init_31 : decode cX9_init 31 = .ok (.aload_n 0, 1) := by decide +kernel
theorem dX9_init_32 : decode cX9_init 32 = .ok (.sipush 200, 3) := by decide +kernel
theorem dX9_init_35 : decode cX9_init 35 = .ok (.newarray .long, 2) := by decide +kernel
theorem dX9_init_37 : decode cX9_init 37 = .ok (.putfield 20, 3) := by decide +kernel
theorem dX9_init_40 : decode cX9_init 40 = .ok (.aload_n 0, 1) := by decide +kernel
theorem dX9_init_41 : decode cX9_init 41 = .ok (.sipush 200, 3) := by decide +kernel
theorem dX9_init_44 : decode cX9_init 44 = .ok (.newarray .int, 2) := by decide +kernel
theorem dX9_init_46 : decode cX9_init 46 = .ok (.putfield 23, 3) := by decide +kernel
theorem dX9_init_49 : decode cX9_init 49 = .ok (.aload_n 0, 1) := by decide +kernel
theorem dX9_init_50 : decode cX9_init 50 = .ok (.sipush 200, 3) := by decide +kernel
theorem dX9_init_53 : decode cX9_init 53 = .ok (.newarray .boolean, 2) := by decide +kernel
theorem dX9_init_55 : decode cX9_init 55 = .ok (.putfield 26, 3) := by decide +kernel
theorem dX9_init_58 : decode cX9_init 58 = .ok (.aload_n 0, 1) := by decide +kernel
theorem dX9_init_59 : decode cX9_init 59 = .ok (.sipush 200, 3) := by decide +kernel
theorem dX9_init_62 : decode cX9_init 62 = .ok (.newarray .int, 2) := by decide +kernel
theorem dX9_init_64 : decode cX9_init 64 = .ok (.putfield 30, 3) := by decide +kernel
theorem dX9_init_67 : decode cX9_init 67 = .ok (.aload_n 0, 1) := by decide +kernel
theorem dX9_init_68 : decode cX9_init 68 = .ok (.sipush 1024, 3) := by decide +kernel
theorem dX9_init_71 : decode cX9_init 71 = .ok (.newarray .int, 2) := by decide +kernel
theorem dX9_init_73 : decode cX9_init 73 = .ok (.putfield 33, 3) := by decide +kernel
theorem dX9_init_76 : decode cX9_init 76 = .ok (.aload_n 0, 1) := by decide +kernel
theorem dX9_init_77 : decode cX9_init 77 = .ok (.sipush 1024, 3) := by decide +kernel
theorem dX9_init_80 : decode cX9_init 80 = .ok (.newarray .int, 2) := by decide +kernel
theorem dX9_init_82 : decode cX9_init 82 = .ok (.putfield 36, 3) := by decide +kernel
theorem dX9_init_85 : decode cX9_init 85 = .ok (.aload_n 0, 1) := by decide +kernel
theorem dX9_init_86 : decode cX9_init 86 = .ok (.sipush 200, 3) := by decide +kernel
theorem dX9_init_89 : decode cX9_init 89 = .ok (.newarray .long, 2) := by decide +kernel
theorem dX9_init_91 : decode cX9_init 91 = .ok (.putfield 39, 3) := by decide +kernel
theorem dX9_init_94 : decode cX9_init 94 = .ok (.aload_n 0, 1) := by decide +kernel
theorem dX9_init_95 : decode cX9_init 95 = .ok (.sipush 200, 3) := by decide +kernel
theorem dX9_init_98 : decode cX9_init 98 = .ok (.newarray .long, 2) := by decide +kernel
theorem dX9_init_100 : decode cX9_init 100 = .ok (.putfield 42, 3) := by decide +kernel
theorem dX9_init_103 : decode cX9_init 103 = .ok (.aload_n 0, 1) := by decide +kernel
theorem dX9_init_104 : decode cX9_init 104 = .ok (.sipush 200, 3) := by decide +kernel
theorem dX9_init_107 : decode cX9_init 107 = .ok (.newarray .int, 2) := by decide +kernel
theorem dX9_init_109 : decode cX9_init 109 = .ok (.putfield 45, 3) := by decide +kernel
theorem dX9_init_112 : decode cX9_init 112 = .ok (.aload_n 0, 1) := by decide +kernel
theorem dX9_init_113 : decode cX9_init 113 = .ok (.sipush 200, 3) := by decide +kernel
theorem dX9_init_116 : decode cX9_init 116 = .ok (.newarray .int, 2) := by decide +kernel
theorem dX9_init_118 : decode cX9_init 118 = .ok (.putfield 48, 3) := by decide +kernel
theorem dX9_init_121 : decode cX9_init 121 = .ok (.aload_n 0, 1) := by decide +kernel
theorem dX9_init_122 : decode cX9_init 122 = .ok (.sipush 200, 3) := by decide +kernel
theorem dX9_init_125 : decode cX9_init 125 = .ok (.newarray .int, 2) := by decide +kernel
theorem dX9_init_127 : decode cX9_init 127 = .ok (.putfield 51, 3) := by decide +kernel
theorem dX9_init_130 : decode cX9_init 130 = .ok (.aload_n 0, 1) := by decide +kernel
theorem dX9_init_131 : decode cX9_init 131 = .ok (.sipush 200, 3) := by decide +kernel
theorem dX9_init_134 : decode cX9_init 134 = .ok (.newarray .int, 2) := by decide +kernel
theorem dX9_init_136 : decode cX9_init 136 = .ok (.putfield 54, 3) := by decide +kernel
theorem dX9_init_139 : decode cX9_init 139 = .ok (.aload_n 0, 1) := by decide +kernel
theorem dX9_init_140 : decode cX9_init 140 = .ok (.sipush 200, 3) := by decide +kernel
theorem dX9_init_143 : decode cX9_init 143 = .ok (.newarray .int, 2) := by decide +kernel
theorem dX9_init_145 : decode cX9_init 145 = .ok (.putfield 57, 3) := by decide +kernel
theorem dX9_init_148 : decode cX9_init 148 = .ok (.aload_n 0, 1) := by decide +kernel
theorem dX9_init_149 : decode cX9_init 149 = .ok (.sipush 200, 3) := by decide +kernel
theorem dX9_init_152 : decode cX9_init 152 = .ok (.newarray .int, 2) := by decide +kernel
theorem dX9_init_154 : decode cX9_init 154 = .ok (.putfield 60, 3) := by decide +kernel
theorem dX9_init_157 : decode cX9_init 157 = .ok (.aload_n 0, 1) := by decide +kernel
theorem dX9_init_158 : decode cX9_init 158 = .ok (.sipush 200, 3) := by decide +kernel
theorem dX9_init_161 : decode cX9_init 161 = .ok (.newarray .boolean, 2) := by decide +kernel
theorem dX9_init_163 : decode cX9_init 163 = .ok (.putfield 63, 3) := by decide +kernel
theorem dX9_init_166 : decode cX9_init 166 = .ok (.aload_n 0, 1) := by decide +kernel
theorem dX9_init_167 : decode cX9_init 167 = .ok (.sipush 200, 3) := by decide +kernel
theorem dX9_init_170 : decode cX9_init 170 = .ok (.newarray .int, 2) := by decide +kernel
theorem dX9_init_172 : decode cX9_init 172 = .ok (.putfield 66, 3) := by decide +kernel
theorem dX9_init_175 : decode cX9_init 175 = .ok (.aload_n 0, 1) := by decide +kernel
theorem dX9_init_176 : decode cX9_init 176 = .ok (.sipush 200, 3) := by decide +kernel
theorem dX9_init_179 : decode cX9_init 179 = .ok (.newarray .int, 2) := by decide +kernel
theorem dX9_init_181 : decode cX9_init 181 = .ok (.putfield 69, 3) := by decide +kernel
theorem dX9_init_184 : decode cX9_init 184 = .ok (.aload_n 0, 1) := by decide +kernel
theorem dX9_init_185 : decode cX9_init 185 = .ok (.sipush 200, 3) := by decide +kernel
theorem dX9_init_188 : decode cX9_init 188 = .ok (.newarray .long, 2) := by decide +kernel
theorem dX9_init_190 : decode cX9_init 190 = .ok (.putfield 72, 3) := by decide +kernel
theorem dX9_init_193 : decode cX9_init 193 = .ok (.aload_n 0, 1) := by decide +kernel
theorem dX9_init_194 : decode cX9_init 194 = .ok (.sipush 200, 3) := by decide +kernel
theorem dX9_init_197 : decode cX9_init 197 = .ok (.newarray .long, 2) := by decide +kernel
theorem dX9_init_199 : decode cX9_init 199 = .ok (.putfield 75, 3) := by decide +kernel
theorem dX9_init_202 : decode cX9_init 202 = .ok (.aload_n 0, 1) := by decide +kernel
theorem dX9_init_203 : decode cX9_init 203 = .ok (.sipush 200, 3) := by decide +kernel
theorem dX9_init_206 : decode cX9_init 206 = .ok (.newarray .long, 2) := by decide +kernel
theorem dX9_init_208 : decode cX9_init 208 = .ok (.putfield 78, 3) := by decide +kernel
theorem dX9_init_211 : decode cX9_init 211 = .ok (.aload_n 0, 1) := by decide +kernel
theorem dX9_init_212 : decode cX9_init 212 = .ok (.sipush 200, 3) := by decide +kernel
theorem dX9_init_215 : decode cX9_init 215 = .ok (.newarray .long, 2) := by decide +kernel
theorem dX9_init_217 : decode cX9_init 217 = .ok (.putfield 81, 3) := by decide +kernel
theorem dX9_init_220 : decode cX9_init 220 = .ok (.aload_n 0, 1) := by decide +kernel
theorem dX9_init_221 : decode cX9_init 221 = .ok (.sipush 200, 3) := by decide +kernel
theorem dX9_init_224 : decode cX9_init 224 = .ok (.newarray .int, 2) := by decide +kernel
theorem dX9_init_226 : decode cX9_init 226 = .ok (.putfield 84, 3) := by decide +kernel
theorem dX9_init_229 : decode cX9_init 229 = .ok (.aload_n 0, 1) := by decide +kernel
theorem dX9_init_230 : decode cX9_init 230 = .ok (.sipush 200, 3) := by decide +kernel
theorem dX9_init_233 : decode cX9_init 233 = .ok (.newarray .int, 2) := by decide +kernel
theorem dX9_init_235 : decode cX9_init 235 = .ok (.putfield 87, 3) := by decide +kernel
theorem dX9_init_238 : decode cX9_init 238 = .ok (.aload_n 0, 1) := by decide +kernel
theorem dX9_init_239 : decode cX9_init 239 = .ok (.sipush 200, 3) := by decide +kernel
theorem dX9_init_242 : decode cX9_init 242 = .ok (.newarray .int, 2) := by decide +kernel
theorem dX9_init_244 : decode cX9_init 244 = .ok (.putfield 90, 3) := by decide +kernel
theorem dX9_init_247 : decode cX9_init 247 = .ok (.aload_n 0, 1) := by decide +kernel
theorem dX9_init_248 : decode cX9_init 248 = .ok (.sipush 600, 3) := by decide +kernel
theorem dX9_init_251 : decode cX9_init 251 = .ok (.newarray .int, 2) := by decide +kernel
theorem dX9_init_253 : decode cX9_init 253 = .ok (.putfield 93, 3) := by decide +kernel
theorem dX9_init_256 : decode cX9_init 256 = .ok (.aload_n 0, 1) := by decide +kernel
theorem dX9_init_257 : decode cX9_init 257 = .ok (.sipush 600, 3) := by decide +kernel
theorem dX9_init_260 : decode cX9_init 260 = .ok (.newarray .int, 2) := by decide +kernel
theorem dX9_init_262 : decode cX9_init 262 = .ok (.putfield 96, 3) := by decide +kernel
theorem dX9_init_265 : decode cX9_init 265 = .ok (.aload_n 0, 1) := by decide +kernel
theorem dX9_init_266 : decode cX9_init 266 = .ok (.bipush 20, 2) := by decide +kernel
theorem dX9_init_268 : decode cX9_init 268 = .ok (.newarray .int, 2) := by decide +kernel
theorem dX9_init_270 : decode cX9_init 270 = .ok (.putfield 99, 3) := by decide +kernel
theorem dX9_init_273 : decode cX9_init 273 = .ok (.aload_n 0, 1) := by decide +kernel
theorem dX9_init_274 : decode cX9_init 274 = .ok (.sipush 600, 3) := by decide +kernel
theorem dX9_init_277 : decode cX9_init 277 = .ok (.newarray .int, 2) := by decide +kernel
theorem dX9_init_279 : decode cX9_init 279 = .ok (.putfield 102, 3) := by decide +kernel
theorem dX9_init_282 : decode cX9_init 282 = .ok (.aload_n 0, 1) := by decide +kernel
theorem dX9_init_283 : decode cX9_init 283 = .ok (.iconst 0, 1) := by decide +kernel
theorem dX9_init_284 : decode cX9_init 284 = .ok (.putfield 105, 3) := by decide +kernel
theorem dX9_init_287 : decode cX9_init 287 = .ok (.return_, 1) := by decide +kernel
theorem dX9_thrown_0 : decode cX9_thrown 0 = .ok (.aload_n 0, 1) := by decide +kernel
theorem dX9_thrown_1 : decode cX9_thrown 1 = .ok (.getfield 109, 3) := by decide +kernel
theorem dX9_thrown_4 : decode cX9_thrown 4 = .ok (.ireturn, 1) := by decide +kernel
theorem dX9_refused_0 : decode cX9_refused 0 = .ok (.aload_n 0, 1) := by decide +kernel
theorem dX9_refused_1 : decode cX9_refused 1 = .ok (.iload_n 1, 1) := by decide +kernel
theorem dX9_refused_2 : decode cX9_refused 2 = .ok (.ifCond .eq 7, 3) := by decide +kernel
theorem dX9_refused_5 : decode cX9_refused 5 = .ok (.iconst 1, 1) := by decide +kernel
theorem dX9_refused_6 : decode cX9_refused 6 = .ok (.goto 12, 3) := by decide +kernel
theorem dX9_refused_9 : decode cX9_refused 9 = .ok (.iload_n 2, 1) := by decide +kernel
theorem dX9_refused_10 : decode cX9_refused 10 = .ok (.ifCond .eq 7, 3) := by decide +kernel
theorem dX9_refused_13 : decode cX9_refused 13 = .ok (.iconst 2, 1) := by decide +kernel
theorem dX9_refused_14 : decode cX9_refused 14 = .ok (.goto 4, 3) := by decide +kernel
theorem dX9_refused_17 : decode cX9_refused 17 = .ok (.iconst 0, 1) := by decide +kernel
theorem dX9_refused_18 : decode cX9_refused 18 = .ok (.putfield 109, 3) := by decide +kernel
theorem dX9_refused_21 : decode cX9_refused 21 = .ok (.aload_n 0, 1) := by decide +kernel
theorem dX9_refused_22 : decode cX9_refused 22 = .ok (.getfield 109, 3) := by decide +kernel
theorem dX9_refused_25 : decode cX9_refused 25 = .ok (.ifCond .le 7, 3) := by decide +kernel
theorem dX9_refused_28 : decode cX9_refused 28 = .ok (.iconst 1, 1) := by decide +kernel
theorem dX9_refused_29 : decode cX9_refused 29 = .ok (.goto 4, 3) := by decide +kernel
theorem dX9_refused_32 : decode cX9_refused 32 = .ok (.iconst 0, 1) := by decide +kernel
theorem dX9_refused_33 : decode cX9_refused 33 = .ok (.ireturn, 1) := by decide +kernel
theorem dX9_isIn_0 : decode cX9_isIn 0 = .ok (.lload_n 0, 1) := by decide +kernel
theorem dX9_isIn_1 : decode cX9_isIn 1 = .ok (.lload_n 2, 1) := by decide +kernel
theorem dX9_isIn_2 : decode cX9_isIn 2 = .ok (.lcmp, 1) := by decide +kernel
theorem dX9_isIn_3 : decode cX9_isIn 3 = .ok (.ifCond .lt 14, 3) := by decide +kernel
theorem dX9_isIn_6 : decode cX9_isIn 6 = .ok (.lload_n 0, 1) := by decide +kernel
theorem dX9_isIn_7 : decode cX9_isIn 7 = .ok (.lload 4, 2) := by decide +kernel
theorem dX9_isIn_9 : decode cX9_isIn 9 = .ok (.lcmp, 1) := by decide +kernel
theorem dX9_isIn_10 : decode cX9_isIn 10 = .ok (.ifCond .gt 7, 3) := by decide +kernel
theorem dX9_isIn_13 : decode cX9_isIn 13 = .ok (.iconst 1, 1) := by decide +kernel
theorem dX9_isIn_14 : decode cX9_isIn 14 = .ok (.goto 4, 3) := by decide +kernel
theorem dX9_isIn_17 : decode cX9_isIn 17 = .ok (.iconst 0, 1) := by decide +kernel
theorem dX9_isIn_18 : decode cX9_isIn 18 = .ok (.ireturn, 1) := by decide +kernel
theorem dX9_isNoSign_0 : decode cX9_isNoSign 0 = .ok (.iload_n 1, 1) := by decide +kernel
theorem dX9_isNoSign_1 : decode cX9_isNoSign 1 = .ok (.ifCond .lt 11, 3) := by decide +kernel
theorem dX9_isNoSign_4 : decode cX9_isNoSign 4 = .ok (.iload_n 1, 1) := by decide +kernel
theorem dX9_isNoSign_5 : decode cX9_isNoSign 5 = .ok (.aload_n 0, 1) := by decide +kernel
theorem dX9_isNoSign_6 : decode cX9_isNoSign 6 = .ok (.getfield 105, 3) := by decide +kernel
theorem dX9_isNoSign_9 : decode cX9_isNoSign 9 = .ok (.if_icmp .lt 7, 3) := by decide +kernel
theorem dX9_isNoSign_12 : decode cX9_isNoSign 12 = .ok (.iconst 1, 1) := by decide +kernel
theorem dX9_isNoSign_13 : decode cX9_isNoSign 13 = .ok (.goto 4, 3) := by decide +kernel
theorem dX9_isNoSign_16 : decode cX9_isNoSign 16 = .ok (.iconst 0, 1) := by decide +kernel
theorem dX9_isNoSign_17 : decode cX9_isNoSign 17 = .ok (.ireturn, 1) := by decide +kernel
theorem dX9_sign_0 : decode cX9_sign 0 = .ok (.iload_n 1, 1) := by decide +kernel
theorem dX9_sign_1 : decode cX9_sign 1 = .ok (.i2l, 1) := by decide +kernel
theorem dX9_sign_2 : decode cX9_sign 2 = .ok (.lconst 0, 1) := by decide +kernel
theorem dX9_sign_3 : decode cX9_sign 3 = .ok (.ldc2_w 112, 3) := by decide +kernel
theorem dX9_sign_6 : decode cX9_sign 6 = .ok (.invokestatic 114, 3) := by decide +kernel
theorem dX9_sign_9 : decode cX9_sign 9 = .ok (.ifCond .eq 59, 3) := by decide +kernel
theorem dX9_sign_12 : decode cX9_sign 12 = .ok (.lload_n 2, 1) := by decide +kernel
theorem dX9_sign_13 : decode cX9_sign 13 = .ok (.ldc2_w 118, 3) := by decide +kernel
theorem dX9_sign_16 : decode cX9_sign 16 = .ok (.ldc2_w 120, 3) := by decide +kernel
theorem dX9_sign_19 : decode cX9_sign 19 = .ok (.invokestatic 114, 3) := by decide +kernel
theorem dX9_sign_22 : decode cX9_sign 22 = .ok (.ifCond .eq 46, 3) := by decide +kernel
theorem dX9_sign_25 : decode cX9_sign 25 = .ok (.lload 4, 2) := by decide +kernel
theorem dX9_sign_27 : decode cX9_sign 27 = .ok (.ldc2_w 118, 3) := by decide +kernel
theorem dX9_sign_30 : decode cX9_sign 30 = .ok (.ldc2_w 120, 3) := by decide +kernel
theorem dX9_sign_33 : decode cX9_sign 33 = .ok (.invokestatic 114, 3) := by decide +kernel
theorem dX9_sign_36 : decode cX9_sign 36 = .ok (.ifCond .eq 32, 3) := by decide +kernel
theorem dX9_sign_39 : decode cX9_sign 39 = .ok (.lload 6, 2) := by decide +kernel
theorem dX9_sign_41 : decode cX9_sign 41 = .ok (.lconst 0, 1) := by decide +kernel
theorem dX9_sign_42 : decode cX9_sign 42 = .ok (.ldc2_w 120, 3) := by decide +kernel
theorem dX9_sign_45 : decode cX9_sign 45 = .ok (.invokestatic 114, 3) := by decide +kernel
theorem dX9_sign_48 : decode cX9_sign 48 = .ok (.ifCond .eq 20, 3) := by decide +kernel
theorem dX9_sign_51 : decode cX9_sign 51 = .ok (.iload 8, 2) := by decide +kernel
theorem dX9_sign_53 : decode cX9_sign 53 = .ok (.i2l, 1) := by decide +kernel
theorem dX9_sign_54 : decode cX9_sign 54 = .ok (.lconst 1, 1) := by decide +kernel
theorem dX9_sign_55 : decode cX9_sign 55 = .ok (.ldc2_w 122, 3) := by decide +kernel
theorem dX9_sign_58 : decode cX9_sign 58 = .ok (.invokestatic 114, 3) := by decide +kernel
theorem dX9_sign_61 : decode cX9_sign 61 = .ok (.ifCond .eq 7, 3) := by decide +kernel
theorem dX9_sign_64 : decode cX9_sign 64 = .ok (.iconst 1, 1) := by decide +kernel
theorem dX9_sign_65 : decode cX9_sign 65 = .ok (.goto 4, 3) := by decide +kernel
theorem dX9_sign_68 : decode cX9_sign 68 = .ok (.iconst 0, 1) := by decide +kernel
theorem dX9_sign_69 : decode cX9_sign 69 = .ok (.istore 9, 2) := by decide +kernel
theorem dX9_sign_71 : decode cX9_sign 71 = .ok (.aload_n 0, 1) := by decide +kernel
theorem dX9_sign_72 : decode cX9_sign 72 = .ok (.iload 9, 2) := by decide +kernel
theorem dX9_sign_74 : decode cX9_sign 74 = .ok (.ifCond .ne 7, 3) := by decide +kernel
theorem dX9_sign_77 : decode cX9_sign 77 = .ok (.iconst 1, 1) := by decide +kernel
theorem dX9_sign_78 : decode cX9_sign 78 = .ok (.goto 4, 3) := by decide +kernel
theorem dX9_sign_81 : decode cX9_sign 81 = .ok (.iconst 0, 1) := by decide +kernel
theorem dX9_sign_82 : decode cX9_sign 82 = .ok (.aload_n 0, 1) := by decide +kernel
theorem dX9_sign_83 : decode cX9_sign 83 = .ok (.getfield 105, 3) := by decide +kernel
theorem dX9_sign_86 : decode cX9_sign 86 = .ok (.sipush 200, 3) := by decide +kernel
theorem dX9_sign_89 : decode cX9_sign 89 = .ok (.if_icmp .ne 7, 3) := by decide +kernel
theorem dX9_sign_92 : decode cX9_sign 92 = .ok (.iconst 1, 1) := by decide +kernel
theorem dX9_sign_93 : decode cX9_sign 93 = .ok (.goto 4, 3) := by decide +kernel
theorem dX9_sign_96 : decode cX9_sign 96 = .ok (.iconst 0, 1) := by decide +kernel
theorem dX9_sign_97 : decode cX9_sign 97 = .ok (.invokevirtual 124, 3) := by decide +kernel
theorem dX9_sign_100 : decode cX9_sign 100 = .ok (.ifCond .eq 5, 3) := by decide +kernel
theorem dX9_sign_103 : decode cX9_sign 103 = .ok (.iconst 0, 1) := by decide +kernel
theorem dX9_sign_104 : decode cX9_sign 104 = .ok (.ireturn, 1) := by decide +kernel
theorem dX9_sign_105 : decode cX9_sign 105 = .ok (.aload_n 0, 1) := by decide +kernel
theorem dX9_sign_106 : decode cX9_sign 106 = .ok (.getfield 7, 3) := by decide +kernel
theorem dX9_sign_109 : decode cX9_sign 109 = .ok (.aload_n 0, 1) := by decide +kernel
theorem dX9_sign_110 : decode cX9_sign 110 = .ok (.getfield 105, 3) := by decide +kernel
theorem dX9_sign_113 : decode cX9_sign 113 = .ok (.iload_n 1, 1) := by decide +kernel
theorem dX9_sign_114 : decode cX9_sign 114 = .ok (.iastore, 1) := by decide +kernel
theorem dX9_sign_115 : decode cX9_sign 115 = .ok (.aload_n 0, 1) := by decide +kernel
theorem dX9_sign_116 : decode cX9_sign 116 = .ok (.getfield 13, 3) := by decide +kernel
theorem dX9_sign_119 : decode cX9_sign 119 = .ok (.aload_n 0, 1) := by decide +kernel
theorem dX9_sign_120 : decode cX9_sign 120 = .ok (.getfield 105, 3) := by decide +kernel
theorem dX9_sign_123 : decode cX9_sign 123 = .ok (.lload_n 2, 1) := by decide +kernel
theorem dX9_sign_124 : decode cX9_sign 124 = .ok (.lastore, 1) := by decide +kernel
theorem dX9_sign_125 : decode cX9_sign 125 = .ok (.aload_n 0, 1) := by decide +kernel
theorem dX9_sign_126 : decode cX9_sign 126 = .ok (.getfield 17, 3) := by decide +kernel
theorem dX9_sign_129 : decode cX9_sign 129 = .ok (.aload_n 0, 1) := by decide +kernel
theorem dX9_sign_130 : decode cX9_sign 130 = .ok (.getfield 105, 3) := by decide +kernel
theorem dX9_sign_133 : decode cX9_sign 133 = .ok (.lload 4, 2) := by decide +kernel
theorem dX9_sign_135 : decode cX9_sign 135 = .ok (.lastore, 1) := by decide +kernel
theorem dX9_sign_136 : decode cX9_sign 136 = .ok (.aload_n 0, 1) := by decide +kernel
theorem dX9_sign_137 : decode cX9_sign 137 = .ok (.getfield 20, 3) := by decide +kernel
theorem dX9_sign_140 : decode cX9_sign 140 = .ok (.aload_n 0, 1) := by decide +kernel
theorem dX9_sign_141 : decode cX9_sign 141 = .ok (.getfield 105, 3) := by decide +kernel
theorem dX9_sign_144 : decode cX9_sign 144 = .ok (.lload 6, 2) := by decide +kernel
theorem dX9_sign_146 : decode cX9_sign 146 = .ok (.lastore, 1) := by decide +kernel
theorem dX9_sign_147 : decode cX9_sign 147 = .ok (.aload_n 0, 1) := by decide +kernel
theorem dX9_sign_148 : decode cX9_sign 148 = .ok (.getfield 23, 3) := by decide +kernel
theorem dX9_sign_151 : decode cX9_sign 151 = .ok (.aload_n 0, 1) := by decide +kernel
theorem dX9_sign_152 : decode cX9_sign 152 = .ok (.getfield 105, 3) := by decide +kernel
theorem dX9_sign_155 : decode cX9_sign 155 = .ok (.iload 8, 2) := by decide +kernel
theorem dX9_sign_157 : decode cX9_sign 157 = .ok (.iastore, 1) := by decide +kernel
theorem dX9_sign_158 : decode cX9_sign 158 = .ok (.aload_n 0, 1) := by decide +kernel
theorem dX9_sign_159 : decode cX9_sign 159 = .ok (.getfield 30, 3) := by decide +kernel
theorem dX9_sign_162 : decode cX9_sign 162 = .ok (.aload_n 0, 1) := by decide +kernel
theorem dX9_sign_163 : decode cX9_sign 163 = .ok (.getfield 105, 3) := by decide +kernel
theorem dX9_sign_166 : decode cX9_sign 166 = .ok (.iconst (-1), 1) := by decide +kernel
theorem dX9_sign_167 : decode cX9_sign 167 = .ok (.iastore, 1) := by decide +kernel
theorem dX9_sign_168 : decode cX9_sign 168 = .ok (.aload_n 0, 1) := by decide +kernel
theorem dX9_sign_169 : decode cX9_sign 169 = .ok (.iconst 0, 1) := by decide +kernel
theorem dX9_sign_170 : decode cX9_sign 170 = .ok (.putfield 128, 3) := by decide +kernel
theorem dX9_sign_173 : decode cX9_sign 173 = .ok (.aload_n 0, 1) := by decide +kernel
theorem dX9_sign_174 : decode cX9_sign 174 = .ok (.dup, 1) := by decide +kernel
theorem dX9_sign_175 : decode cX9_sign 175 = .ok (.getfield 105, 3) := by decide +kernel
theorem dX9_sign_178 : decode cX9_sign 178 = .ok (.iconst 1, 1) := by decide +kernel
theorem dX9_sign_179 : decode cX9_sign 179 = .ok (.iadd, 1) := by decide +kernel
theorem dX9_sign_180 : decode cX9_sign 180 = .ok (.putfield 105, 3) := by decide +kernel
theorem dX9_sign_183 : decode cX9_sign 183 = .ok (.aload_n 0, 1) := by decide +kernel
theorem dX9_sign_184 : decode cX9_sign 184 = .ok (.getfield 105, 3) := by decide +kernel
theorem dX9_sign_187 : decode cX9_sign 187 = .ok (.iconst 1, 1) := by decide +kernel
theorem dX9_sign_188 : decode cX9_sign 188 = .ok (.isub, 1) := by decide +kernel
theorem dX9_sign_189 : decode cX9_sign 189 = .ok (.ireturn, 1) := by decide +kernel
theorem dX9_turn_0 : decode cX9_turn 0 = .ok (.aload_n 0, 1) := by decide +kernel
theorem dX9_turn_1 : decode cX9_turn 1 = .ok (.aload_n 0, 1) := by decide +kernel
theorem dX9_turn_2 : decode cX9_turn 2 = .ok (.iload_n 1, 1) := by decide +kernel
theorem dX9_turn_3 : decode cX9_turn 3 = .ok (.invokevirtual 132, 3) := by decide +kernel
theorem dX9_turn_6 : decode cX9_turn 6 = .ok (.iconst 0, 1) := by decide +kernel
theorem dX9_turn_7 : decode cX9_turn 7 = .ok (.invokevirtual 124, 3) := by decide +kernel
theorem dX9_turn_10 : decode cX9_turn 10 = .ok (.ifCond .eq 5, 3) := by decide +kernel
theorem dX9_turn_13 : decode cX9_turn 13 = .ok (.iconst 0, 1) := by decide +kernel
theorem dX9_turn_14 : decode cX9_turn 14 = .ok (.ireturn, 1) := by decide +kernel
theorem dX9_turn_15 : decode cX9_turn 15 = .ok (.aload_n 0, 1) := by decide +kernel
theorem dX9_turn_16 : decode cX9_turn 16 = .ok (.getfield 26, 3) := by decide +kernel
theorem dX9_turn_19 : decode cX9_turn 19 = .ok (.iload_n 1, 1) := by decide +kernel
theorem dX9_turn_20 : decode cX9_turn 20 = .ok (.baload, 1) := by decide +kernel
theorem dX9_turn_21 : decode cX9_turn 21 = .ok (.ifCond .eq 7, 3) := by decide +kernel
theorem dX9_turn_24 : decode cX9_turn 24 = .ok (.iconst 1, 1) := by decide +kernel
theorem dX9_turn_25 : decode cX9_turn 25 = .ok (.goto 4, 3) := by decide +kernel
theorem dX9_turn_28 : decode cX9_turn 28 = .ok (.iconst 0, 1) := by decide +kernel
theorem dX9_turn_29 : decode cX9_turn 29 = .ok (.istore_n 3, 1) := by decide +kernel
theorem dX9_turn_30 : decode cX9_turn 30 = .ok (.aload_n 0, 1) := by decide +kernel
theorem dX9_turn_31 : decode cX9_turn 31 = .ok (.getfield 26, 3) := by decide +kernel
theorem dX9_turn_34 : decode cX9_turn 34 = .ok (.iload_n 1, 1) := by decide +kernel
theorem dX9_turn_35 : decode cX9_turn 35 = .ok (.iload_n 2, 1) := by decide +kernel
theorem dX9_turn_36 : decode cX9_turn 36 = .ok (.bastore, 1) := by decide +kernel
theorem dX9_turn_37 : decode cX9_turn 37 = .ok (.aload_n 0, 1) := by decide +kernel
theorem dX9_turn_38 : decode cX9_turn 38 = .ok (.iconst 0, 1) := by decide +kernel
theorem dX9_turn_39 : decode cX9_turn 39 = .ok (.putfield 128, 3) := by decide +kernel
theorem dX9_turn_42 : decode cX9_turn 42 = .ok (.iload_n 3, 1) := by decide +kernel
theorem dX9_turn_43 : decode cX9_turn 43 = .ok (.ireturn, 1) := by decide +kernel
theorem dX9_map_0 : decode cX9_map 0 = .ok (.iload_n 3, 1) := by decide +kernel
theorem dX9_map_1 : decode cX9_map 1 = .ok (.i2l, 1) := by decide +kernel
theorem dX9_map_2 : decode cX9_map 2 = .ok (.lconst 0, 1) := by decide +kernel
theorem dX9_map_3 : decode cX9_map 3 = .ok (.ldc2_w 136, 3) := by decide +kernel
theorem dX9_map_6 : decode cX9_map 6 = .ok (.invokestatic 114, 3) := by decide +kernel
theorem dX9_map_9 : decode cX9_map 9 = .ok (.ifCond .eq 25, 3) := by decide +kernel
theorem dX9_map_12 : decode cX9_map 12 = .ok (.iload 4, 2) := by decide +kernel
theorem dX9_map_14 : decode cX9_map 14 = .ok (.i2l, 1) := by decide +kernel
theorem dX9_map_15 : decode cX9_map 15 = .ok (.lconst 0, 1) := by decide +kernel
theorem dX9_map_16 : decode cX9_map 16 = .ok (.ldc2_w 136, 3) := by decide +kernel
theorem dX9_map_19 : decode cX9_map 19 = .ok (.invokestatic 114, 3) := by decide +kernel
theorem dX9_map_22 : decode cX9_map 22 = .ok (.ifCond .eq 12, 3) := by decide +kernel
theorem dX9_map_25 : decode cX9_map 25 = .ok (.iload_n 3, 1) := by decide +kernel
theorem dX9_map_26 : decode cX9_map 26 = .ok (.ifCond .ne 12, 3) := by decide +kernel
theorem dX9_map_29 : decode cX9_map 29 = .ok (.iload 4, 2) := by decide +kernel
theorem dX9_map_31 : decode cX9_map 31 = .ok (.ifCond .le 7, 3) := by decide +kernel
theorem dX9_map_34 : decode cX9_map 34 = .ok (.iconst 1, 1) := by decide +kernel
theorem dX9_map_35 : decode cX9_map 35 = .ok (.goto 4, 3) := by decide +kernel
theorem dX9_map_38 : decode cX9_map 38 = .ok (.iconst 0, 1) := by decide +kernel
theorem dX9_map_39 : decode cX9_map 39 = .ok (.istore 5, 2) := by decide +kernel
theorem dX9_map_41 : decode cX9_map 41 = .ok (.aload_n 0, 1) := by decide +kernel
theorem dX9_map_42 : decode cX9_map 42 = .ok (.iload_n 1, 1) := by decide +kernel
theorem dX9_map_43 : decode cX9_map 43 = .ok (.i2l, 1) := by decide +kernel
theorem dX9_map_44 : decode cX9_map 44 = .ok (.lconst 0, 1) := by decide +kernel
theorem dX9_map_45 : decode cX9_map 45 = .ok (.ldc2_w 138, 3) := by decide +kernel
theorem dX9_map_48 : decode cX9_map 48 = .ok (.invokestatic 114, 3) := by decide +kernel
theorem dX9_map_51 : decode cX9_map 51 = .ok (.ifCond .eq 15, 3) := by decide +kernel
theorem dX9_map_54 : decode cX9_map 54 = .ok (.iload_n 2, 1) := by decide +kernel
theorem dX9_map_55 : decode cX9_map 55 = .ok (.i2l, 1) := by decide +kernel
theorem dX9_map_56 : decode cX9_map 56 = .ok (.lconst 0, 1) := by decide +kernel
theorem dX9_map_57 : decode cX9_map 57 = .ok (.ldc2_w 112, 3) := by decide +kernel
theorem dX9_map_60 : decode cX9_map 60 = .ok (.invokestatic 114, 3) := by decide +kernel
theorem dX9_map_63 : decode cX9_map 63 = .ok (.ifCond .ne 7, 3) := by decide +kernel
theorem dX9_map_66 : decode cX9_map 66 = .ok (.iconst 1, 1) := by decide +kernel
theorem dX9_map_67 : decode cX9_map 67 = .ok (.goto 4, 3) := by decide +kernel
theorem dX9_map_70 : decode cX9_map 70 = .ok (.iconst 0, 1) := by decide +kernel
theorem dX9_map_71 : decode cX9_map 71 = .ok (.iload 5, 2) := by decide +kernel
theorem dX9_map_73 : decode cX9_map 73 = .ok (.invokevirtual 124, 3) := by decide +kernel
theorem dX9_map_76 : decode cX9_map 76 = .ok (.ifCond .eq 5, 3) := by decide +kernel
theorem dX9_map_79 : decode cX9_map 79 = .ok (.iconst 0, 1) := by decide +kernel
theorem dX9_map_80 : decode cX9_map 80 = .ok (.ireturn, 1) := by decide +kernel
theorem dX9_map_81 : decode cX9_map 81 = .ok (.sipush 256, 3) := by decide +kernel
theorem dX9_map_84 : decode cX9_map 84 = .ok (.iload_n 1, 1) := by decide +kernel
theorem dX9_map_85 : decode cX9_map 85 = .ok (.imul, 1) := by decide +kernel
theorem dX9_map_86 : decode cX9_map 86 = .ok (.iload_n 2, 1) := by decide +kernel
theorem dX9_map_87 : decode cX9_map 87 = .ok (.iadd, 1) := by decide +kernel
theorem dX9_map_88 : decode cX9_map 88 = .ok (.istore 6, 2) := by decide +kernel
theorem dX9_map_90 : decode cX9_map 90 = .ok (.aload_n 0, 1) := by decide +kernel
theorem dX9_map_91 : decode cX9_map 91 = .ok (.getfield 33, 3) := by decide +kernel
theorem dX9_map_94 : decode cX9_map 94 = .ok (.iload 6, 2) := by decide +kernel
theorem dX9_map_96 : decode cX9_map 96 = .ok (.iaload, 1) := by decide +kernel
theorem dX9_map_97 : decode cX9_map 97 = .ok (.ifCond .ne 7, 3) := by decide +kernel
theorem dX9_map_100 : decode cX9_map 100 = .ok (.iconst 0, 1) := by decide +kernel
theorem dX9_map_101 : decode cX9_map 101 = .ok (.goto 18, 3) := by decide +kernel
theorem dX9_map_104 : decode cX9_map 104 = .ok (.aload_n 0, 1) := by decide +kernel
theorem dX9_map_105 : decode cX9_map 105 = .ok (.getfield 36, 3) := by decide +kernel
theorem dX9_map_108 : decode cX9_map 108 = .ok (.iload 6, 2) := by decide +kernel
theorem dX9_map_110 : decode cX9_map 110 = .ok (.iaload, 1) := by decide +kernel
theorem dX9_map_111 : decode cX9_map 111 = .ok (.ifCond .ne 7, 3) := by decide +kernel
theorem dX9_map_114 : decode cX9_map 114 = .ok (.iconst 1, 1) := by decide +kernel
theorem dX9_map_115 : decode cX9_map 115 = .ok (.goto 4, 3) := by decide +kernel
theorem dX9_map_118 : decode cX9_map 118 = .ok (.iconst 2, 1) := by decide +kernel
theorem dX9_map_119 : decode cX9_map 119 = .ok (.istore 7, 2) := by decide +kernel
theorem dX9_map_121 : decode cX9_map 121 = .ok (.aload_n 0, 1) := by decide +kernel
theorem dX9_map_122 : decode cX9_map 122 = .ok (.getfield 33, 3) := by decide +kernel
theorem dX9_map_125 : decode cX9_map 125 = .ok (.iload 6, 2) := by decide +kernel
theorem dX9_map_127 : decode cX9_map 127 = .ok (.iload_n 3, 1) := by decide +kernel
theorem dX9_map_128 : decode cX9_map 128 = .ok (.iastore, 1) := by decide +kernel
theorem dX9_map_129 : decode cX9_map 129 = .ok (.aload_n 0, 1) := by decide +kernel
theorem dX9_map_130 : decode cX9_map 130 = .ok (.getfield 36, 3) := by decide +kernel
theorem dX9_map_133 : decode cX9_map 133 = .ok (.iload 6, 2) := by decide +kernel
theorem dX9_map_135 : decode cX9_map 135 = .ok (.iload 4, 2) := by decide +kernel
theorem dX9_map_137 : decode cX9_map 137 = .ok (.iastore, 1) := by decide +kernel
theorem dX9_map_138 : decode cX9_map 138 = .ok (.aload_n 0, 1) := by decide +kernel
theorem dX9_map_139 : decode cX9_map 139 = .ok (.iconst 0, 1) := by decide +kernel
theorem dX9_map_140 : decode cX9_map 140 = .ok (.putfield 128, 3) := by decide +kernel
theorem dX9_map_143 : decode cX9_map 143 = .ok (.iload 7, 2) := by decide +kernel
theorem dX9_map_145 : decode cX9_map 145 = .ok (.ireturn, 1) := by decide +kernel
theorem dX9_tag_0 : decode cX9_tag 0 = .ok (.aload_n 0, 1) := by decide +kernel
theorem dX9_tag_1 : decode cX9_tag 1 = .ok (.aload_n 0, 1) := by decide +kernel
theorem dX9_tag_2 : decode cX9_tag 2 = .ok (.iload_n 1, 1) := by decide +kernel
theorem dX9_tag_3 : decode cX9_tag 3 = .ok (.invokevirtual 132, 3) := by decide +kernel
theorem dX9_tag_6 : decode cX9_tag 6 = .ok (.iload_n 2, 1) := by decide +kernel
theorem dX9_tag_7 : decode cX9_tag 7 = .ok (.i2l, 1) := by decide +kernel
theorem dX9_tag_8 : decode cX9_tag 8 = .ok (.ldc2_w 140, 3) := by decide +kernel
theorem dX9_tag_11 : decode cX9_tag 11 = .ok (.ldc2_w 142, 3) := by decide +kernel
theorem dX9_tag_14 : decode cX9_tag 14 = .ok (.invokestatic 114, 3) := by decide +kernel
theorem dX9_tag_17 : decode cX9_tag 17 = .ok (.ifCond .ne 7, 3) := by decide +kernel
theorem dX9_tag_20 : decode cX9_tag 20 = .ok (.iconst 1, 1) := by decide +kernel
theorem dX9_tag_21 : decode cX9_tag 21 = .ok (.goto 4, 3) := by decide +kernel
theorem dX9_tag_24 : decode cX9_tag 24 = .ok (.iconst 0, 1) := by decide +kernel
theorem dX9_tag_25 : decode cX9_tag 25 = .ok (.invokevirtual 124, 3) := by decide +kernel
theorem dX9_tag_28 : decode cX9_tag 28 = .ok (.ifCond .eq 5, 3) := by decide +kernel
theorem dX9_tag_31 : decode cX9_tag 31 = .ok (.iconst 0, 1) := by decide +kernel
theorem dX9_tag_32 : decode cX9_tag 32 = .ok (.ireturn, 1) := by decide +kernel
theorem dX9_tag_33 : decode cX9_tag 33 = .ok (.aload_n 0, 1) := by decide +kernel
theorem dX9_tag_34 : decode cX9_tag 34 = .ok (.getfield 30, 3) := by decide +kernel
theorem dX9_tag_37 : decode cX9_tag 37 = .ok (.iload_n 1, 1) := by decide +kernel
theorem dX9_tag_38 : decode cX9_tag 38 = .ok (.iaload, 1) := by decide +kernel
theorem dX9_tag_39 : decode cX9_tag 39 = .ok (.istore_n 3, 1) := by decide +kernel
theorem dX9_tag_40 : decode cX9_tag 40 = .ok (.aload_n 0, 1) := by decide +kernel
theorem dX9_tag_41 : decode cX9_tag 41 = .ok (.getfield 30, 3) := by decide +kernel
theorem dX9_tag_44 : decode cX9_tag 44 = .ok (.iload_n 1, 1) := by decide +kernel
theorem dX9_tag_45 : decode cX9_tag 45 = .ok (.iload_n 2, 1) := by decide +kernel
theorem dX9_tag_46 : decode cX9_tag 46 = .ok (.iastore, 1) := by decide +kernel
theorem dX9_tag_47 : decode cX9_tag 47 = .ok (.aload_n 0, 1) := by decide +kernel
theorem dX9_tag_48 : decode cX9_tag 48 = .ok (.iconst 0, 1) := by decide +kernel
theorem dX9_tag_49 : decode cX9_tag 49 = .ok (.putfield 128, 3) := by decide +kernel
theorem dX9_tag_52 : decode cX9_tag 52 = .ok (.iload_n 3, 1) := by decide +kernel
theorem dX9_tag_53 : decode cX9_tag 53 = .ok (.ireturn, 1) := by decide +kernel
theorem dX9_isNear_0 : decode cX9_isNear 0 = .ok (.lload_n 0, 1) := by decide +kernel
theorem dX9_isNear_1 : decode cX9_isNear 1 = .ok (.lload_n 2, 1) := by decide +kernel
theorem dX9_isNear_2 : decode cX9_isNear 2 = .ok (.lcmp, 1) := by decide +kernel
theorem dX9_isNear_3 : decode cX9_isNear 3 = .ok (.ifCond .ge 9, 3) := by decide +kernel
theorem dX9_isNear_6 : decode cX9_isNear 6 = .ok (.lload_n 2, 1) := by decide +kernel
theorem dX9_isNear_7 : decode cX9_isNear 7 = .ok (.lload_n 0, 1) := by decide +kernel
theorem dX9_isNear_8 : decode cX9_isNear 8 = .ok (.lsub, 1) := by decide +kernel
theorem dX9_isNear_9 : decode cX9_isNear 9 = .ok (.goto 6, 3) := by decide +kernel
theorem dX9_isNear_12 : decode cX9_isNear 12 = .ok (.lload_n 0, 1) := by decide +kernel
theorem dX9_isNear_13 : decode cX9_isNear 13 = .ok (.lload_n 2, 1) := by decide +kernel
theorem dX9_isNear_14 : decode cX9_isNear 14 = .ok (.lsub, 1) := by decide +kernel
theorem dX9_isNear_15 : decode cX9_isNear 15 = .ok (.lstore 6, 2) := by decide +kernel
theorem dX9_isNear_17 : decode cX9_isNear 17 = .ok (.ldc2_w 144, 3) := by decide +kernel
theorem dX9_isNear_20 : decode cX9_isNear 20 = .ok (.lload 6, 2) := by decide +kernel
theorem dX9_isNear_22 : decode cX9_isNear 22 = .ok (.lmul, 1) := by decide +kernel
theorem dX9_isNear_23 : decode cX9_isNear 23 = .ok (.lload 4, 2) := by decide +kernel
theorem dX9_isNear_25 : decode cX9_isNear 25 = .ok (.lcmp, 1) := by decide +kernel
theorem dX9_isNear_26 : decode cX9_isNear 26 = .ok (.ifCond .gt 7, 3) := by decide +kernel
theorem dX9_isNear_29 : decode cX9_isNear 29 = .ok (.iconst 1, 1) := by decide +kernel
theorem dX9_isNear_30 : decode cX9_isNear 30 = .ok (.goto 4, 3) := by decide +kernel
theorem dX9_isNear_33 : decode cX9_isNear 33 = .ok (.iconst 0, 1) := by decide +kernel
theorem dX9_isNear_34 : decode cX9_isNear 34 = .ok (.ireturn, 1) := by decide +kernel
theorem dX9_spell_0 : decode cX9_spell 0 = .ok (.aload_n 0, 1) := by decide +kernel
theorem dX9_spell_1 : decode cX9_spell 1 = .ok (.getfield 39, 3) := by decide +kernel
theorem dX9_spell_4 : decode cX9_spell 4 = .ok (.iload_n 1, 1) := by decide +kernel
theorem dX9_spell_5 : decode cX9_spell 5 = .ok (.aload_n 0, 1) := by decide +kernel
theorem dX9_spell_6 : decode cX9_spell 6 = .ok (.getfield 26, 3) := by decide +kernel
theorem dX9_spell_9 : decode cX9_spell 9 = .ok (.iload_n 1, 1) := by decide +kernel
theorem dX9_spell_10 : decode cX9_spell 10 = .ok (.baload, 1) := by decide +kernel
theorem dX9_spell_11 : decode cX9_spell 11 = .ok (.ifCond .eq 12, 3) := by decide +kernel
theorem dX9_spell_14 : decode cX9_spell 14 = .ok (.aload_n 0, 1) := by decide +kernel
theorem dX9_spell_15 : decode cX9_spell 15 = .ok (.getfield 17, 3) := by decide +kernel
theorem dX9_spell_18 : decode cX9_spell 18 = .ok (.iload_n 1, 1) := by decide +kernel
theorem dX9_spell_19 : decode cX9_spell 19 = .ok (.laload, 1) := by decide +kernel
theorem dX9_spell_20 : decode cX9_spell 20 = .ok (.goto 9, 3) := by decide +kernel
theorem dX9_spell_23 : decode cX9_spell 23 = .ok (.aload_n 0, 1) := by decide +kernel
theorem dX9_spell_24 : decode cX9_spell 24 = .ok (.getfield 13, 3) := by decide +kernel
theorem dX9_spell_27 : decode cX9_spell 27 = .ok (.iload_n 1, 1) := by decide +kernel
theorem dX9_spell_28 : decode cX9_spell 28 = .ok (.laload, 1) := by decide +kernel
theorem dX9_spell_29 : decode cX9_spell 29 = .ok (.lastore, 1) := by decide +kernel
theorem dX9_spell_30 : decode cX9_spell 30 = .ok (.aload_n 0, 1) := by decide +kernel
theorem dX9_spell_31 : decode cX9_spell 31 = .ok (.getfield 42, 3) := by decide +kernel
theorem dX9_spell_34 : decode cX9_spell 34 = .ok (.iload_n 1, 1) := by decide +kernel
theorem dX9_spell_35 : decode cX9_spell 35 = .ok (.aload_n 0, 1) := by decide +kernel
theorem dX9_spell_36 : decode cX9_spell 36 = .ok (.getfield 26, 3) := by decide +kernel
theorem dX9_spell_39 : decode cX9_spell 39 = .ok (.iload_n 1, 1) := by decide +kernel
theorem dX9_spell_40 : decode cX9_spell 40 = .ok (.baload, 1) := by decide +kernel
theorem dX9_spell_41 : decode cX9_spell 41 = .ok (.ifCond .eq 13, 3) := by decide +kernel
theorem dX9_spell_44 : decode cX9_spell 44 = .ok (.aload_n 0, 1) := by decide +kernel
theorem dX9_spell_45 : decode cX9_spell 45 = .ok (.getfield 13, 3) := by decide +kernel
theorem dX9_spell_48 : decode cX9_spell 48 = .ok (.iload_n 1, 1) := by decide +kernel
theorem dX9_spell_49 : decode cX9_spell 49 = .ok (.laload, 1) := by decide +kernel
theorem dX9_spell_50 : decode cX9_spell 50 = .ok (.lneg, 1) := by decide +kernel
theorem dX9_spell_51 : decode cX9_spell 51 = .ok (.goto 9, 3) := by decide +kernel
theorem dX9_spell_54 : decode cX9_spell 54 = .ok (.aload_n 0, 1) := by decide +kernel
theorem dX9_spell_55 : decode cX9_spell 55 = .ok (.getfield 17, 3) := by decide +kernel
theorem dX9_spell_58 : decode cX9_spell 58 = .ok (.iload_n 1, 1) := by decide +kernel
theorem dX9_spell_59 : decode cX9_spell 59 = .ok (.laload, 1) := by decide +kernel
theorem dX9_spell_60 : decode cX9_spell 60 = .ok (.lastore, 1) := by decide +kernel
theorem dX9_spell_61 : decode cX9_spell 61 = .ok (.aload_n 0, 1) := by decide +kernel
theorem dX9_spell_62 : decode cX9_spell 62 = .ok (.getfield 7, 3) := by decide +kernel
theorem dX9_spell_65 : decode cX9_spell 65 = .ok (.iload_n 1, 1) := by decide +kernel
theorem dX9_spell_66 : decode cX9_spell 66 = .ok (.iaload, 1) := by decide +kernel
theorem dX9_spell_67 : decode cX9_spell 67 = .ok (.istore_n 2, 1) := by decide +kernel
theorem dX9_spell_68 : decode cX9_spell 68 = .ok (.iload_n 2, 1) := by decide +kernel
theorem dX9_spell_69 : decode cX9_spell 69 = .ok (.sipush 1024, 3) := by decide +kernel
theorem dX9_spell_72 : decode cX9_spell 72 = .ok (.if_icmp .ge 21, 3) := by decide +kernel
theorem dX9_spell_75 : decode cX9_spell 75 = .ok (.aload_n 0, 1) := by decide +kernel
theorem dX9_spell_76 : decode cX9_spell 76 = .ok (.getfield 33, 3) := by decide +kernel
theorem dX9_spell_79 : decode cX9_spell 79 = .ok (.iload_n 2, 1) := by decide +kernel
theorem dX9_spell_80 : decode cX9_spell 80 = .ok (.iaload, 1) := by decide +kernel
theorem dX9_spell_81 : decode cX9_spell 81 = .ok (.ifCond .ne 12, 3) := by decide +kernel
theorem dX9_spell_84 : decode cX9_spell 84 = .ok (.iload_n 2, 1) := by decide +kernel
theorem dX9_spell_85 : decode cX9_spell 85 = .ok (.sipush 256, 3) := by decide +kernel
theorem dX9_spell_88 : decode cX9_spell 88 = .ok (.iadd, 1) := by decide +kernel
theorem dX9_spell_89 : decode cX9_spell 89 = .ok (.istore_n 2, 1) := by decide +kernel
theorem dX9_spell_90 : decode cX9_spell 90 = .ok (.goto (-22), 3) := by decide +kernel
theorem dX9_spell_93 : decode cX9_spell 93 = .ok (.aload_n 0, 1) := by decide +kernel
theorem dX9_spell_94 : decode cX9_spell 94 = .ok (.getfield 45, 3) := by decide +kernel
theorem dX9_spell_97 : decode cX9_spell 97 = .ok (.iload_n 1, 1) := by decide +kernel
theorem dX9_spell_98 : decode cX9_spell 98 = .ok (.iload_n 2, 1) := by decide +kernel
theorem dX9_spell_99 : decode cX9_spell 99 = .ok (.sipush 1024, 3) := by decide +kernel
theorem dX9_spell_102 : decode cX9_spell 102 = .ok (.if_icmp .ge 12, 3) := by decide +kernel
theorem dX9_spell_105 : decode cX9_spell 105 = .ok (.aload_n 0, 1) := by decide +kernel
theorem dX9_spell_106 : decode cX9_spell 106 = .ok (.getfield 33, 3) := by decide +kernel
theorem dX9_spell_109 : decode cX9_spell 109 = .ok (.iload_n 2, 1) := by decide +kernel
theorem dX9_spell_110 : decode cX9_spell 110 = .ok (.iaload, 1) := by decide +kernel
theorem dX9_spell_111 : decode cX9_spell 111 = .ok (.goto 5, 3) := by decide +kernel
theorem dX9_spell_114 : decode cX9_spell 114 = .ok (.ldc 146, 2) := by decide +kernel
theorem dX9_spell_116 : decode cX9_spell 116 = .ok (.iastore, 1) := by decide +kernel
theorem dX9_spell_117 : decode cX9_spell 117 = .ok (.aload_n 0, 1) := by decide +kernel
theorem dX9_spell_118 : decode cX9_spell 118 = .ok (.getfield 48, 3) := by decide +kernel
theorem dX9_spell_121 : decode cX9_spell 121 = .ok (.iload_n 1, 1) := by decide +kernel
theorem dX9_spell_122 : decode cX9_spell 122 = .ok (.iload_n 2, 1) := by decide +kernel
theorem dX9_spell_123 : decode cX9_spell 123 = .ok (.sipush 1024, 3) := by decide +kernel
theorem dX9_spell_126 : decode cX9_spell 126 = .ok (.if_icmp .ge 12, 3) := by decide +kernel
theorem dX9_spell_129 : decode cX9_spell 129 = .ok (.aload_n 0, 1) := by decide +kernel
theorem dX9_spell_130 : decode cX9_spell 130 = .ok (.getfield 36, 3) := by decide +kernel
theorem dX9_spell_133 : decode cX9_spell 133 = .ok (.iload_n 2, 1) := by decide +kernel
theorem dX9_spell_134 : decode cX9_spell 134 = .ok (.iaload, 1) := by decide +kernel
theorem dX9_spell_135 : decode cX9_spell 135 = .ok (.goto 4, 3) := by decide +kernel
theorem dX9_spell_138 : decode cX9_spell 138 = .ok (.iconst 0, 1) := by decide +kernel
theorem dX9_spell_139 : decode cX9_spell 139 = .ok (.iastore, 1) := by decide +kernel
theorem dX9_spell_140 : decode cX9_spell 140 = .ok (.aload_n 0, 1) := by decide +kernel
theorem dX9_spell_141 : decode cX9_spell 141 = .ok (.getfield 54, 3) := by decide +kernel
theorem dX9_spell_144 : decode cX9_spell 144 = .ok (.iload_n 1, 1) := by decide +kernel
theorem dX9_spell_145 : decode cX9_spell 145 = .ok (.iconst (-1), 1) := by decide +kernel
theorem dX9_spell_146 : decode cX9_spell 146 = .ok (.iastore, 1) := by decide +kernel
theorem dX9_spell_147 : decode cX9_spell 147 = .ok (.aload_n 0, 1) := by decide +kernel
theorem dX9_spell_148 : decode cX9_spell 148 = .ok (.getfield 57, 3) := by decide +kernel
theorem dX9_spell_151 : decode cX9_spell 151 = .ok (.iload_n 1, 1) := by decide +kernel
theorem dX9_spell_152 : decode cX9_spell 152 = .ok (.iconst (-1), 1) := by decide +kernel
theorem dX9_spell_153 : decode cX9_spell 153 = .ok (.iastore, 1) := by decide +kernel
theorem dX9_spell_154 : decode cX9_spell 154 = .ok (.aload_n 0, 1) := by decide +kernel
theorem dX9_spell_155 : decode cX9_spell 155 = .ok (.getfield 60, 3) := by decide +kernel
theorem dX9_spell_158 : decode cX9_spell 158 = .ok (.iload_n 1, 1) := by decide +kernel
theorem dX9_spell_159 : decode cX9_spell 159 = .ok (.iconst (-1), 1) := by decide +kernel
theorem dX9_spell_160 : decode cX9_spell 160 = .ok (.iastore, 1) := by decide +kernel
theorem dX9_spell_161 : decode cX9_spell 161 = .ok (.aload_n 0, 1) := by decide +kernel
theorem dX9_spell_162 : decode cX9_spell 162 = .ok (.getfield 63, 3) := by decide +kernel
theorem dX9_spell_165 : decode cX9_spell 165 = .ok (.iload_n 1, 1) := by decide +kernel
theorem dX9_spell_166 : decode cX9_spell 166 = .ok (.iconst 0, 1) := by decide +kernel
theorem dX9_spell_167 : decode cX9_spell 167 = .ok (.bastore, 1) := by decide +kernel
theorem dX9_spell_168 : decode cX9_spell 168 = .ok (.aload_n 0, 1) := by decide +kernel
theorem dX9_spell_169 : decode cX9_spell 169 = .ok (.getfield 51, 3) := by decide +kernel
theorem dX9_spell_172 : decode cX9_spell 172 = .ok (.iload_n 1, 1) := by decide +kernel
theorem dX9_spell_173 : decode cX9_spell 173 = .ok (.iconst (-1), 1) := by decide +kernel
theorem dX9_spell_174 : decode cX9_spell 174 = .ok (.iastore, 1) := by decide +kernel
theorem dX9_spell_175 : decode cX9_spell 175 = .ok (.iload_n 1, 1) := by decide +kernel
theorem dX9_spell_176 : decode cX9_spell 176 = .ok (.iconst 1, 1) := by decide +kernel
theorem dX9_spell_177 : decode cX9_spell 177 = .ok (.isub, 1) := by decide +kernel
theorem dX9_spell_178 : decode cX9_spell 178 = .ok (.istore_n 3, 1) := by decide +kernel
theorem dX9_spell_179 : decode cX9_spell 179 = .ok (.iload_n 3, 1) := by decide +kernel
theorem dX9_spell_180 : decode cX9_spell 180 = .ok (.ifCond .lt 141, 3) := by decide +kernel
theorem dX9_spell_183 : decode cX9_spell 183 = .ok (.aload_n 0, 1) := by decide +kernel
theorem dX9_spell_184 : decode cX9_spell 184 = .ok (.getfield 51, 3) := by decide +kernel
theorem dX9_spell_187 : decode cX9_spell 187 = .ok (.iload_n 3, 1) := by decide +kernel
theorem dX9_spell_188 : decode cX9_spell 188 = .ok (.iaload, 1) := by decide +kernel
theorem dX9_spell_189 : decode cX9_spell 189 = .ok (.iconst (-1), 1) := by decide +kernel
theorem dX9_spell_190 : decode cX9_spell 190 = .ok (.if_icmp .ne 101, 3) := by decide +kernel
theorem dX9_spell_193 : decode cX9_spell 193 = .ok (.aload_n 0, 1) := by decide +kernel
theorem dX9_spell_194 : decode cX9_spell 194 = .ok (.getfield 26, 3) := by decide +kernel
theorem dX9_spell_197 : decode cX9_spell 197 = .ok (.iload_n 3, 1) := by decide +kernel
theorem dX9_spell_198 : decode cX9_spell 198 = .ok (.baload, 1) := by decide +kernel
theorem dX9_spell_199 : decode cX9_spell 199 = .ok (.aload_n 0, 1) := by decide +kernel
theorem dX9_spell_200 : decode cX9_spell 200 = .ok (.getfield 26, 3) := by decide +kernel
theorem dX9_spell_203 : decode cX9_spell 203 = .ok (.iload_n 1, 1) := by decide +kernel
theorem dX9_spell_204 : decode cX9_spell 204 = .ok (.baload, 1) := by decide +kernel
theorem dX9_spell_205 : decode cX9_spell 205 = .ok (.if_icmp .ne 86, 3) := by decide +kernel
theorem dX9_spell_208 : decode cX9_spell 208 = .ok (.aload_n 0, 1) := by decide +kernel
theorem dX9_spell_209 : decode cX9_spell 209 = .ok (.getfield 45, 3) := by decide +kernel
theorem dX9_spell_212 : decode cX9_spell 212 = .ok (.iload_n 3, 1) := by decide +kernel
theorem dX9_spell_213 : decode cX9_spell 213 = .ok (.iaload, 1) := by decide +kernel
theorem dX9_spell_214 : decode cX9_spell 214 = .ok (.aload_n 0, 1) := by decide +kernel
theorem dX9_spell_215 : decode cX9_spell 215 = .ok (.getfield 45, 3) := by decide +kernel
theorem dX9_spell_218 : decode cX9_spell 218 = .ok (.iload_n 1, 1) := by decide +kernel
theorem dX9_spell_219 : decode cX9_spell 219 = .ok (.iaload, 1) := by decide +kernel
theorem dX9_spell_220 : decode cX9_spell 220 = .ok (.if_icmp .ne 71, 3) := by decide +kernel
theorem dX9_spell_223 : decode cX9_spell 223 = .ok (.aload_n 0, 1) := by decide +kernel
theorem dX9_spell_224 : decode cX9_spell 224 = .ok (.getfield 48, 3) := by decide +kernel
theorem dX9_spell_227 : decode cX9_spell 227 = .ok (.iload_n 3, 1) := by decide +kernel
theorem dX9_spell_228 : decode cX9_spell 228 = .ok (.iaload, 1) := by decide +kernel
theorem dX9_spell_229 : decode cX9_spell 229 = .ok (.aload_n 0, 1) := by decide +kernel
theorem dX9_spell_230 : decode cX9_spell 230 = .ok (.getfield 48, 3) := by decide +kernel
theorem dX9_spell_233 : decode cX9_spell 233 = .ok (.iload_n 1, 1) := by decide +kernel
theorem dX9_spell_234 : decode cX9_spell 234 = .ok (.iaload, 1) := by decide +kernel
theorem dX9_spell_235 : decode cX9_spell 235 = .ok (.if_icmp .ne 56, 3) := by decide +kernel
theorem dX9_spell_238 : decode cX9_spell 238 = .ok (.aload_n 0, 1) := by decide +kernel
theorem dX9_spell_239 : decode cX9_spell 239 = .ok (.getfield 39, 3) := by decide +kernel
theorem dX9_spell_242 : decode cX9_spell 242 = .ok (.iload_n 1, 1) := by decide +kernel
theorem dX9_spell_243 : decode cX9_spell 243 = .ok (.laload, 1) := by decide +kernel
theorem dX9_spell_244 : decode cX9_spell 244 = .ok (.aload_n 0, 1) := by decide +kernel
theorem dX9_spell_245 : decode cX9_spell 245 = .ok (.getfield 39, 3) := by decide +kernel
theorem dX9_spell_248 : decode cX9_spell 248 = .ok (.iload_n 3, 1) := by decide +kernel
theorem dX9_spell_249 : decode cX9_spell 249 = .ok (.laload, 1) := by decide +kernel
theorem dX9_spell_250 : decode cX9_spell 250 = .ok (.aload_n 0, 1) := by decide +kernel
theorem dX9_spell_251 : decode cX9_spell 251 = .ok (.getfield 20, 3) := by decide +kernel
theorem dX9_spell_254 : decode cX9_spell 254 = .ok (.iload_n 3, 1) := by decide +kernel
theorem dX9_spell_255 : decode cX9_spell 255 = .ok (.laload, 1) := by decide +kernel
theorem dX9_spell_256 : decode cX9_spell 256 = .ok (.invokestatic 147, 3) := by decide +kernel
theorem dX9_spell_259 : decode cX9_spell 259 = .ok (.ifCond .eq 32, 3) := by decide +kernel
theorem dX9_spell_262 : decode cX9_spell 262 = .ok (.aload_n 0, 1) := by decide +kernel
theorem dX9_spell_263 : decode cX9_spell 263 = .ok (.getfield 42, 3) := by decide +kernel
theorem dX9_spell_266 : decode cX9_spell 266 = .ok (.iload_n 1, 1) := by decide +kernel
theorem dX9_spell_267 : decode cX9_spell 267 = .ok (.laload, 1) := by decide +kernel
theorem dX9_spell_268 : decode cX9_spell 268 = .ok (.aload_n 0, 1) := by decide +kernel
theorem dX9_spell_269 : decode cX9_spell 269 = .ok (.getfield 42, 3) := by decide +kernel
theorem dX9_spell_272 : decode cX9_spell 272 = .ok (.iload_n 3, 1) := by decide +kernel
theorem dX9_spell_273 : decode cX9_spell 273 = .ok (.laload, 1) := by decide +kernel
theorem dX9_spell_274 : decode cX9_spell 274 = .ok (.aload_n 0, 1) := by decide +kernel
theorem dX9_spell_275 : decode cX9_spell 275 = .ok (.getfield 23, 3) := by decide +kernel
theorem dX9_spell_278 : decode cX9_spell 278 = .ok (.iload_n 3, 1) := by decide +kernel
theorem dX9_spell_279 : decode cX9_spell 279 = .ok (.iaload, 1) := by decide +kernel
theorem dX9_spell_280 : decode cX9_spell 280 = .ok (.i2l, 1) := by decide +kernel
theorem dX9_spell_281 : decode cX9_spell 281 = .ok (.invokestatic 147, 3) := by decide +kernel
theorem dX9_spell_284 : decode cX9_spell 284 = .ok (.ifCond .eq 7, 3) := by decide +kernel
theorem dX9_spell_287 : decode cX9_spell 287 = .ok (.iconst 1, 1) := by decide +kernel
theorem dX9_spell_288 : decode cX9_spell 288 = .ok (.goto 4, 3) := by decide +kernel
theorem dX9_spell_291 : decode cX9_spell 291 = .ok (.iconst 0, 1) := by decide +kernel
theorem dX9_spell_292 : decode cX9_spell 292 = .ok (.istore 4, 2) := by decide +kernel
theorem dX9_spell_294 : decode cX9_spell 294 = .ok (.aload_n 0, 1) := by decide +kernel
theorem dX9_spell_295 : decode cX9_spell 295 = .ok (.getfield 51, 3) := by decide +kernel
theorem dX9_spell_298 : decode cX9_spell 298 = .ok (.iload_n 1, 1) := by decide +kernel
theorem dX9_spell_299 : decode cX9_spell 299 = .ok (.iload 4, 2) := by decide +kernel
theorem dX9_spell_301 : decode cX9_spell 301 = .ok (.ifCond .eq 7, 3) := by decide +kernel
theorem dX9_spell_304 : decode cX9_spell 304 = .ok (.iload_n 3, 1) := by decide +kernel
theorem dX9_spell_305 : decode cX9_spell 305 = .ok (.goto 9, 3) := by decide +kernel
theorem dX9_spell_308 : decode cX9_spell 308 = .ok (.aload_n 0, 1) := by decide +kernel
theorem dX9_spell_309 : decode cX9_spell 309 = .ok (.getfield 51, 3) := by decide +kernel
theorem dX9_spell_312 : decode cX9_spell 312 = .ok (.iload_n 1, 1) := by decide +kernel
theorem dX9_spell_313 : decode cX9_spell 313 = .ok (.iaload, 1) := by decide +kernel
theorem dX9_spell_314 : decode cX9_spell 314 = .ok (.iastore, 1) := by decide +kernel
theorem dX9_spell_315 : decode cX9_spell 315 = .ok (.iinc 3 (-1), 3) := by decide +kernel
theorem dX9_spell_318 : decode cX9_spell 318 = .ok (.goto (-139), 3) := by decide +kernel
theorem dX9_spell_321 : decode cX9_spell 321 = .ok (.return_, 1) := by decide +kernel
theorem dX9_isHigher_0 : decode cX9_isHigher 0 = .ok (.aload_n 0, 1) := by decide +kernel
theorem dX9_isHigher_1 : decode cX9_isHigher 1 = .ok (.getfield 26, 3) := by decide +kernel
theorem dX9_isHigher_4 : decode cX9_isHigher 4 = .ok (.iload_n 1, 1) := by decide +kernel
theorem dX9_isHigher_5 : decode cX9_isHigher 5 = .ok (.baload, 1) := by decide +kernel
theorem dX9_isHigher_6 : decode cX9_isHigher 6 = .ok (.aload_n 0, 1) := by decide +kernel
theorem dX9_isHigher_7 : decode cX9_isHigher 7 = .ok (.getfield 26, 3) := by decide +kernel
theorem dX9_isHigher_10 : decode cX9_isHigher 10 = .ok (.iload_n 2, 1) := by decide +kernel
theorem dX9_isHigher_11 : decode cX9_isHigher 11 = .ok (.baload, 1) := by decide +kernel
theorem dX9_isHigher_12 : decode cX9_isHigher 12 = .ok (.if_icmp .eq 10, 3) := by decide +kernel
theorem dX9_isHigher_15 : decode cX9_isHigher 15 = .ok (.aload_n 0, 1) := by decide +kernel
theorem dX9_isHigher_16 : decode cX9_isHigher 16 = .ok (.getfield 26, 3) := by decide +kernel
theorem dX9_isHigher_19 : decode cX9_isHigher 19 = .ok (.iload_n 2, 1) := by decide +kernel
theorem dX9_isHigher_20 : decode cX9_isHigher 20 = .ok (.baload, 1) := by decide +kernel
theorem dX9_isHigher_21 : decode cX9_isHigher 21 = .ok (.ireturn, 1) := by decide +kernel
theorem dX9_isHigher_22 : decode cX9_isHigher 22 = .ok (.aload_n 0, 1) := by decide +kernel
theorem dX9_isHigher_23 : decode cX9_isHigher 23 = .ok (.getfield 42, 3) := by decide +kernel
theorem dX9_isHigher_26 : decode cX9_isHigher 26 = .ok (.iload_n 1, 1) := by decide +kernel
theorem dX9_isHigher_27 : decode cX9_isHigher 27 = .ok (.laload, 1) := by decide +kernel
theorem dX9_isHigher_28 : decode cX9_isHigher 28 = .ok (.aload_n 0, 1) := by decide +kernel
theorem dX9_isHigher_29 : decode cX9_isHigher 29 = .ok (.getfield 42, 3) := by decide +kernel
theorem dX9_isHigher_32 : decode cX9_isHigher 32 = .ok (.iload_n 2, 1) := by decide +kernel
theorem dX9_isHigher_33 : decode cX9_isHigher 33 = .ok (.laload, 1) := by decide +kernel
theorem dX9_isHigher_34 : decode cX9_isHigher 34 = .ok (.lcmp, 1) := by decide +kernel
theorem dX9_isHigher_35 : decode cX9_isHigher 35 = .ok (.ifCond .eq 27, 3) := by decide +kernel
theorem dX9_isHigher_38 : decode cX9_isHigher 38 = .ok (.aload_n 0, 1) := by decide +kernel
theorem dX9_isHigher_39 : decode cX9_isHigher 39 = .ok (.getfield 42, 3) := by decide +kernel
theorem dX9_isHigher_42 : decode cX9_isHigher 42 = .ok (.iload_n 1, 1) := by decide +kernel
theorem dX9_isHigher_43 : decode cX9_isHigher 43 = .ok (.laload, 1) := by decide +kernel
theorem dX9_isHigher_44 : decode cX9_isHigher 44 = .ok (.aload_n 0, 1) := by decide +kernel
theorem dX9_isHigher_45 : decode cX9_isHigher 45 = .ok (.getfield 42, 3) := by decide +kernel
theorem dX9_isHigher_48 : decode cX9_isHigher 48 = .ok (.iload_n 2, 1) := by decide +kernel
theorem dX9_isHigher_49 : decode cX9_isHigher 49 = .ok (.laload, 1) := by decide +kernel
theorem dX9_isHigher_50 : decode cX9_isHigher 50 = .ok (.lcmp, 1) := by decide +kernel
theorem dX9_isHigher_51 : decode cX9_isHigher 51 = .ok (.ifCond .le 7, 3) := by decide +kernel
theorem dX9_isHigher_54 : decode cX9_isHigher 54 = .ok (.iconst 1, 1) := by decide +kernel
theorem dX9_isHigher_55 : decode cX9_isHigher 55 = .ok (.goto 57, 3) := by decide +kernel
theorem dX9_isHigher_58 : decode cX9_isHigher 58 = .ok (.iconst 0, 1) := by decide +kernel
theorem dX9_isHigher_59 : decode cX9_isHigher 59 = .ok (.goto 53, 3) := by decide +kernel
theorem dX9_isHigher_62 : decode cX9_isHigher 62 = .ok (.aload_n 0, 1) := by decide +kernel
theorem dX9_isHigher_63 : decode cX9_isHigher 63 = .ok (.getfield 39, 3) := by decide +kernel
theorem dX9_isHigher_66 : decode cX9_isHigher 66 = .ok (.iload_n 1, 1) := by decide +kernel
theorem dX9_isHigher_67 : decode cX9_isHigher 67 = .ok (.laload, 1) := by decide +kernel
theorem dX9_isHigher_68 : decode cX9_isHigher 68 = .ok (.aload_n 0, 1) := by decide +kernel
theorem dX9_isHigher_69 : decode cX9_isHigher 69 = .ok (.getfield 39, 3) := by decide +kernel
theorem dX9_isHigher_72 : decode cX9_isHigher 72 = .ok (.iload_n 2, 1) := by decide +kernel
theorem dX9_isHigher_73 : decode cX9_isHigher 73 = .ok (.laload, 1) := by decide +kernel
theorem dX9_isHigher_74 : decode cX9_isHigher 74 = .ok (.lcmp, 1) := by decide +kernel
theorem dX9_isHigher_75 : decode cX9_isHigher 75 = .ok (.ifCond .eq 27, 3) := by decide +kernel
theorem dX9_isHigher_78 : decode cX9_isHigher 78 = .ok (.aload_n 0, 1) := by decide +kernel
theorem dX9_isHigher_79 : decode cX9_isHigher 79 = .ok (.getfield 39, 3) := by decide +kernel
theorem dX9_isHigher_82 : decode cX9_isHigher 82 = .ok (.iload_n 1, 1) := by decide +kernel
theorem dX9_isHigher_83 : decode cX9_isHigher 83 = .ok (.laload, 1) := by decide +kernel
theorem dX9_isHigher_84 : decode cX9_isHigher 84 = .ok (.aload_n 0, 1) := by decide +kernel
theorem dX9_isHigher_85 : decode cX9_isHigher 85 = .ok (.getfield 39, 3) := by decide +kernel
theorem dX9_isHigher_88 : decode cX9_isHigher 88 = .ok (.iload_n 2, 1) := by decide +kernel
theorem dX9_isHigher_89 : decode cX9_isHigher 89 = .ok (.laload, 1) := by decide +kernel
theorem dX9_isHigher_90 : decode cX9_isHigher 90 = .ok (.lcmp, 1) := by decide +kernel
theorem dX9_isHigher_91 : decode cX9_isHigher 91 = .ok (.ifCond .ge 7, 3) := by decide +kernel
theorem dX9_isHigher_94 : decode cX9_isHigher 94 = .ok (.iconst 1, 1) := by decide +kernel
theorem dX9_isHigher_95 : decode cX9_isHigher 95 = .ok (.goto 17, 3) := by decide +kernel
theorem dX9_isHigher_98 : decode cX9_isHigher 98 = .ok (.iconst 0, 1) := by decide +kernel
theorem dX9_isHigher_99 : decode cX9_isHigher 99 = .ok (.goto 13, 3) := by decide +kernel
theorem dX9_isHigher_102 : decode cX9_isHigher 102 = .ok (.iload_n 1, 1) := by decide +kernel
theorem dX9_isHigher_103 : decode cX9_isHigher 103 = .ok (.iload_n 2, 1) := by decide +kernel
theorem dX9_isHigher_104 : decode cX9_isHigher 104 = .ok (.if_icmp .ge 7, 3) := by decide +kernel
theorem dX9_isHigher_107 : decode cX9_isHigher 107 = .ok (.iconst 1, 1) := by decide +kernel
theorem dX9_isHigher_108 : decode cX9_isHigher 108 = .ok (.goto 4, 3) := by decide +kernel
theorem dX9_isHigher_111 : decode cX9_isHigher 111 = .ok (.iconst 0, 1) := by decide +kernel
theorem dX9_isHigher_112 : decode cX9_isHigher 112 = .ok (.ireturn, 1) := by decide +kernel
theorem dX9_findLines_0 : decode cX9_findLines 0 = .ok (.iconst 0, 1) := by decide +kernel
theorem dX9_findLines_1 : decode cX9_findLines 1 = .ok (.istore_n 1, 1) := by decide +kernel
theorem dX9_findLines_2 : decode cX9_findLines 2 = .ok (.iconst 0, 1) := by decide +kernel
theorem dX9_findLines_3 : decode cX9_findLines 3 = .ok (.istore_n 2, 1) := by decide +kernel
theorem dX9_findLines_4 : decode cX9_findLines 4 = .ok (.aload_n 0, 1) := by decide +kernel
theorem dX9_findLines_5 : decode cX9_findLines 5 = .ok (.iconst 0, 1) := by decide +kernel
theorem dX9_findLines_6 : decode cX9_findLines 6 = .ok (.putfield 150, 3) := by decide +kernel
theorem dX9_findLines_9 : decode cX9_findLines 9 = .ok (.iload_n 2, 1) := by decide +kernel
theorem dX9_findLines_10 : decode cX9_findLines 10 = .ok (.iconst (-1), 1) := by decide +kernel
theorem dX9_findLines_11 : decode cX9_findLines 11 = .ok (.if_icmp .eq 196, 3) := by decide +kernel
theorem dX9_findLines_14 : decode cX9_findLines 14 = .ok (.iconst (-1), 1) := by decide +kernel
theorem dX9_findLines_15 : decode cX9_findLines 15 = .ok (.istore_n 2, 1) := by decide +kernel
theorem dX9_findLines_16 : decode cX9_findLines 16 = .ok (.iconst 0, 1) := by decide +kernel
theorem dX9_findLines_17 : decode cX9_findLines 17 = .ok (.istore_n 3, 1) := by decide +kernel
theorem dX9_findLines_18 : decode cX9_findLines 18 = .ok (.iload_n 3, 1) := by decide +kernel
theorem dX9_findLines_19 : decode cX9_findLines 19 = .ok (.aload_n 0, 1) := by decide +kernel
theorem dX9_findLines_20 : decode cX9_findLines 20 = .ok (.getfield 105, 3) := by decide +kernel
theorem dX9_findLines_23 : decode cX9_findLines 23 = .ok (.if_icmp .ge 61, 3) := by decide +kernel
theorem dX9_findLines_26 : decode cX9_findLines 26 = .ok (.aload_n 0, 1) := by decide +kernel
theorem dX9_findLines_27 : decode cX9_findLines 27 = .ok (.getfield 51, 3) := by decide +kernel
theorem dX9_findLines_30 : decode cX9_findLines 30 = .ok (.iload_n 3, 1) := by decide +kernel
theorem dX9_findLines_31 : decode cX9_findLines 31 = .ok (.iaload, 1) := by decide +kernel
theorem dX9_findLines_32 : decode cX9_findLines 32 = .ok (.iconst (-1), 1) := by decide +kernel
theorem dX9_findLines_33 : decode cX9_findLines 33 = .ok (.if_icmp .ne 17, 3) := by decide +kernel
theorem dX9_findLines_36 : decode cX9_findLines 36 = .ok (.aload_n 0, 1) := by decide +kernel
theorem dX9_findLines_37 : decode cX9_findLines 37 = .ok (.getfield 54, 3) := by decide +kernel
theorem dX9_findLines_40 : decode cX9_findLines 40 = .ok (.iload_n 3, 1) := by decide +kernel
theorem dX9_findLines_41 : decode cX9_findLines 41 = .ok (.iaload, 1) := by decide +kernel
theorem dX9_findLines_42 : decode cX9_findLines 42 = .ok (.iconst (-1), 1) := by decide +kernel
theorem dX9_findLines_43 : decode cX9_findLines 43 = .ok (.if_icmp .ne 7, 3) := by decide +kernel
theorem dX9_findLines_46 : decode cX9_findLines 46 = .ok (.iconst 1, 1) := by decide +kernel
theorem dX9_findLines_47 : decode cX9_findLines 47 = .ok (.goto 4, 3) := by decide +kernel
theorem dX9_findLines_50 : decode cX9_findLines 50 = .ok (.iconst 0, 1) := by decide +kernel
theorem dX9_findLines_51 : decode cX9_findLines 51 = .ok (.istore 4, 2) := by decide +kernel
theorem dX9_findLines_53 : decode cX9_findLines 53 = .ok (.iload 4, 2) := by decide +kernel
theorem dX9_findLines_55 : decode cX9_findLines 55 = .ok (.ifCond .eq 21, 3) := by decide +kernel
theorem dX9_findLines_58 : decode cX9_findLines 58 = .ok (.iload_n 2, 1) := by decide +kernel
theorem dX9_findLines_59 : decode cX9_findLines 59 = .ok (.iconst (-1), 1) := by decide +kernel
theorem dX9_findLines_60 : decode cX9_findLines 60 = .ok (.if_icmp .eq 12, 3) := by decide +kernel
theorem dX9_findLines_63 : decode cX9_findLines 63 = .ok (.aload_n 0, 1) := by decide +kernel
theorem dX9_findLines_64 : decode cX9_findLines 64 = .ok (.iload_n 3, 1) := by decide +kernel
theorem dX9_findLines_65 : decode cX9_findLines 65 = .ok (.iload_n 2, 1) := by decide +kernel
theorem dX9_findLines_66 : decode cX9_findLines 66 = .ok (.invokevirtual 153, 3) := by decide +kernel
theorem dX9_findLines_69 : decode cX9_findLines 69 = .ok (.ifCond .eq 7, 3) := by decide +kernel
theorem dX9_findLines_72 : decode cX9_findLines 72 = .ok (.iload_n 3, 1) := by decide +kernel
theorem dX9_findLines_73 : decode cX9_findLines 73 = .ok (.goto 4, 3) := by decide +kernel
theorem dX9_findLines_76 : decode cX9_findLines 76 = .ok (.iload_n 2, 1) := by decide +kernel
theorem dX9_findLines_77 : decode cX9_findLines 77 = .ok (.istore_n 2, 1) := by decide +kernel
theorem dX9_findLines_78 : decode cX9_findLines 78 = .ok (.iinc 3 1, 3) := by decide +kernel
theorem dX9_findLines_81 : decode cX9_findLines 81 = .ok (.goto (-63), 3) := by decide +kernel
theorem dX9_findLines_84 : decode cX9_findLines 84 = .ok (.iload_n 2, 1) := by decide +kernel
theorem dX9_findLines_85 : decode cX9_findLines 85 = .ok (.iconst (-1), 1) := by decide +kernel
theorem dX9_findLines_86 : decode cX9_findLines 86 = .ok (.if_icmp .eq (-77), 3) := by decide +kernel
theorem dX9_findLines_89 : decode cX9_findLines 89 = .ok (.iconst 0, 1) := by decide +kernel
theorem dX9_findLines_90 : decode cX9_findLines 90 = .ok (.istore_n 3, 1) := by decide +kernel
theorem dX9_findLines_91 : decode cX9_findLines 91 = .ok (.iload_n 3, 1) := by decide +kernel
theorem dX9_findLines_92 : decode cX9_findLines 92 = .ok (.aload_n 0, 1) := by decide +kernel
theorem dX9_findLines_93 : decode cX9_findLines 93 = .ok (.getfield 105, 3) := by decide +kernel
theorem dX9_findLines_96 : decode cX9_findLines 96 = .ok (.if_icmp .ge 100, 3) := by decide +kernel
theorem dX9_findLines_99 : decode cX9_findLines 99 = .ok (.aload_n 0, 1) := by decide +kernel
theorem dX9_findLines_100 : decode cX9_findLines 100 = .ok (.getfield 51, 3) := by decide +kernel
theorem dX9_findLines_103 : decode cX9_findLines 103 = .ok (.iload_n 3, 1) := by decide +kernel
theorem dX9_findLines_104 : decode cX9_findLines 104 = .ok (.iaload, 1) := by decide +kernel
theorem dX9_findLines_105 : decode cX9_findLines 105 = .ok (.iconst (-1), 1) := by decide +kernel
theorem dX9_findLines_106 : decode cX9_findLines 106 = .ok (.if_icmp .ne 60, 3) := by decide +kernel
theorem dX9_findLines_109 : decode cX9_findLines 109 = .ok (.aload_n 0, 1) := by decide +kernel
theorem dX9_findLines_110 : decode cX9_findLines 110 = .ok (.getfield 54, 3) := by decide +kernel
theorem dX9_findLines_113 : decode cX9_findLines 113 = .ok (.iload_n 3, 1) := by decide +kernel
theorem dX9_findLines_114 : decode cX9_findLines 114 = .ok (.iaload, 1) := by decide +kernel
theorem dX9_findLines_115 : decode cX9_findLines 115 = .ok (.iconst (-1), 1) := by decide +kernel
theorem dX9_findLines_116 : decode cX9_findLines 116 = .ok (.if_icmp .ne 50, 3) := by decide +kernel
theorem dX9_findLines_119 : decode cX9_findLines 119 = .ok (.aload_n 0, 1) := by decide +kernel
theorem dX9_findLines_120 : decode cX9_findLines 120 = .ok (.getfield 26, 3) := by decide +kernel
theorem dX9_findLines_123 : decode cX9_findLines 123 = .ok (.iload_n 3, 1) := by decide +kernel
theorem dX9_findLines_124 : decode cX9_findLines 124 = .ok (.baload, 1) := by decide +kernel
theorem dX9_findLines_125 : decode cX9_findLines 125 = .ok (.aload_n 0, 1) := by decide +kernel
theorem dX9_findLines_126 : decode cX9_findLines 126 = .ok (.getfield 26, 3) := by decide +kernel
theorem dX9_findLines_129 : decode cX9_findLines 129 = .ok (.iload_n 2, 1) := by decide +kernel
theorem dX9_findLines_130 : decode cX9_findLines 130 = .ok (.baload, 1) := by decide +kernel
theorem dX9_findLines_131 : decode cX9_findLines 131 = .ok (.if_icmp .ne 35, 3) := by decide +kernel
theorem dX9_findLines_134 : decode cX9_findLines 134 = .ok (.ldc2_w 157, 3) := by decide +kernel
theorem dX9_findLines_137 : decode cX9_findLines 137 = .ok (.aload_n 0, 1) := by decide +kernel
theorem dX9_findLines_138 : decode cX9_findLines 138 = .ok (.getfield 42, 3) := by decide +kernel
theorem dX9_findLines_141 : decode cX9_findLines 141 = .ok (.iload_n 2, 1) := by decide +kernel
theorem dX9_findLines_142 : decode cX9_findLines 142 = .ok (.laload, 1) := by decide +kernel
theorem dX9_findLines_143 : decode cX9_findLines 143 = .ok (.aload_n 0, 1) := by decide +kernel
theorem dX9_findLines_144 : decode cX9_findLines 144 = .ok (.getfield 42, 3) := by decide +kernel
theorem dX9_findLines_147 : decode cX9_findLines 147 = .ok (.iload_n 3, 1) := by decide +kernel
theorem dX9_findLines_148 : decode cX9_findLines 148 = .ok (.laload, 1) := by decide +kernel
theorem dX9_findLines_149 : decode cX9_findLines 149 = .ok (.lsub, 1) := by decide +kernel
theorem dX9_findLines_150 : decode cX9_findLines 150 = .ok (.lmul, 1) := by decide +kernel
theorem dX9_findLines_151 : decode cX9_findLines 151 = .ok (.aload_n 0, 1) := by decide +kernel
theorem dX9_findLines_152 : decode cX9_findLines 152 = .ok (.getfield 23, 3) := by decide +kernel
theorem dX9_findLines_155 : decode cX9_findLines 155 = .ok (.iload_n 2, 1) := by decide +kernel
theorem dX9_findLines_156 : decode cX9_findLines 156 = .ok (.iaload, 1) := by decide +kernel
theorem dX9_findLines_157 : decode cX9_findLines 157 = .ok (.i2l, 1) := by decide +kernel
theorem dX9_findLines_158 : decode cX9_findLines 158 = .ok (.lcmp, 1) := by decide +kernel
theorem dX9_findLines_159 : decode cX9_findLines 159 = .ok (.ifCond .gt 7, 3) := by decide +kernel
theorem dX9_findLines_162 : decode cX9_findLines 162 = .ok (.iconst 1, 1) := by decide +kernel
theorem dX9_findLines_163 : decode cX9_findLines 163 = .ok (.goto 4, 3) := by decide +kernel
theorem dX9_findLines_166 : decode cX9_findLines 166 = .ok (.iconst 0, 1) := by decide +kernel
theorem dX9_findLines_167 : decode cX9_findLines 167 = .ok (.istore 4, 2) := by decide +kernel
theorem dX9_findLines_169 : decode cX9_findLines 169 = .ok (.aload_n 0, 1) := by decide +kernel
theorem dX9_findLines_170 : decode cX9_findLines 170 = .ok (.getfield 54, 3) := by decide +kernel
theorem dX9_findLines_173 : decode cX9_findLines 173 = .ok (.iload_n 3, 1) := by decide +kernel
theorem dX9_findLines_174 : decode cX9_findLines 174 = .ok (.iload 4, 2) := by decide +kernel
theorem dX9_findLines_176 : decode cX9_findLines 176 = .ok (.ifCond .eq 7, 3) := by decide +kernel
theorem dX9_findLines_179 : decode cX9_findLines 179 = .ok (.iload_n 1, 1) := by decide +kernel
theorem dX9_findLines_180 : decode cX9_findLines 180 = .ok (.goto 9, 3) := by decide +kernel
theorem dX9_findLines_183 : decode cX9_findLines 183 = .ok (.aload_n 0, 1) := by decide +kernel
theorem dX9_findLines_184 : decode cX9_findLines 184 = .ok (.getfield 54, 3) := by decide +kernel
theorem dX9_findLines_187 : decode cX9_findLines 187 = .ok (.iload_n 3, 1) := by decide +kernel
theorem dX9_findLines_188 : decode cX9_findLines 188 = .ok (.iaload, 1) := by decide +kernel
theorem dX9_findLines_189 : decode cX9_findLines 189 = .ok (.iastore, 1) := by decide +kernel
theorem dX9_findLines_190 : decode cX9_findLines 190 = .ok (.iinc 3 1, 3) := by decide +kernel
theorem dX9_findLines_193 : decode cX9_findLines 193 = .ok (.goto (-102), 3) := by decide +kernel
theorem dX9_findLines_196 : decode cX9_findLines 196 = .ok (.aload_n 0, 1) := by decide +kernel
theorem dX9_findLines_197 : decode cX9_findLines 197 = .ok (.iload_n 1, 1) := by decide +kernel
theorem dX9_findLines_198 : decode cX9_findLines 198 = .ok (.invokevirtual 159, 3) := by decide +kernel
theorem dX9_findLines_201 : decode cX9_findLines 201 = .ok (.iinc 1 1, 3) := by decide +kernel
theorem dX9_findLines_204 : decode cX9_findLines 204 = .ok (.goto (-195), 3) := by decide +kernel
theorem dX9_findLines_207 : decode cX9_findLines 207 = .ok (.return_, 1) := by decide +kernel
theorem dX9_behind_0 : decode cX9_behind 0 = .ok (.iconst (-1), 1) := by decide +kernel
theorem dX9_behind_1 : decode cX9_behind 1 = .ok (.istore_n 3, 1) := by decide +kernel
theorem dX9_behind_2 : decode cX9_behind 2 = .ok (.iconst 0, 1) := by decide +kernel
theorem dX9_behind_3 : decode cX9_behind 3 = .ok (.istore 4, 2) := by decide +kernel
theorem dX9_behind_5 : decode cX9_behind 5 = .ok (.iload 4, 2) := by decide +kernel
theorem dX9_behind_7 : decode cX9_behind 7 = .ok (.aload_n 0, 1) := by decide +kernel
theorem dX9_behind_8 : decode cX9_behind 8 = .ok (.getfield 105, 3) := by decide +kernel
theorem dX9_behind_11 : decode cX9_behind 11 = .ok (.if_icmp .ge 106, 3) := by decide +kernel
theorem dX9_behind_14 : decode cX9_behind 14 = .ok (.aload_n 0, 1) := by decide +kernel
theorem dX9_behind_15 : decode cX9_behind 15 = .ok (.getfield 54, 3) := by decide +kernel
theorem dX9_behind_18 : decode cX9_behind 18 = .ok (.iload 4, 2) := by decide +kernel
theorem dX9_behind_20 : decode cX9_behind 20 = .ok (.iaload, 1) := by decide +kernel
theorem dX9_behind_21 : decode cX9_behind 21 = .ok (.iload_n 1, 1) := by decide +kernel
theorem dX9_behind_22 : decode cX9_behind 22 = .ok (.if_icmp .ne 52, 3) := by decide +kernel
theorem dX9_behind_25 : decode cX9_behind 25 = .ok (.iload_n 2, 1) := by decide +kernel
theorem dX9_behind_26 : decode cX9_behind 26 = .ok (.iconst (-1), 1) := by decide +kernel
theorem dX9_behind_27 : decode cX9_behind 27 = .ok (.if_icmp .eq 43, 3) := by decide +kernel
theorem dX9_behind_30 : decode cX9_behind 30 = .ok (.aload_n 0, 1) := by decide +kernel
theorem dX9_behind_31 : decode cX9_behind 31 = .ok (.getfield 39, 3) := by decide +kernel
theorem dX9_behind_34 : decode cX9_behind 34 = .ok (.iload 4, 2) := by decide +kernel
theorem dX9_behind_36 : decode cX9_behind 36 = .ok (.laload, 1) := by decide +kernel
theorem dX9_behind_37 : decode cX9_behind 37 = .ok (.aload_n 0, 1) := by decide +kernel
theorem dX9_behind_38 : decode cX9_behind 38 = .ok (.getfield 39, 3) := by decide +kernel
theorem dX9_behind_41 : decode cX9_behind 41 = .ok (.iload_n 2, 1) := by decide +kernel
theorem dX9_behind_42 : decode cX9_behind 42 = .ok (.laload, 1) := by decide +kernel
theorem dX9_behind_43 : decode cX9_behind 43 = .ok (.lcmp, 1) := by decide +kernel
theorem dX9_behind_44 : decode cX9_behind 44 = .ok (.ifCond .gt 26, 3) := by decide +kernel
theorem dX9_behind_47 : decode cX9_behind 47 = .ok (.aload_n 0, 1) := by decide +kernel
theorem dX9_behind_48 : decode cX9_behind 48 = .ok (.getfield 39, 3) := by decide +kernel
theorem dX9_behind_51 : decode cX9_behind 51 = .ok (.iload 4, 2) := by decide +kernel
theorem dX9_behind_53 : decode cX9_behind 53 = .ok (.laload, 1) := by decide +kernel
theorem dX9_behind_54 : decode cX9_behind 54 = .ok (.aload_n 0, 1) := by decide +kernel
theorem dX9_behind_55 : decode cX9_behind 55 = .ok (.getfield 39, 3) := by decide +kernel
theorem dX9_behind_58 : decode cX9_behind 58 = .ok (.iload_n 2, 1) := by decide +kernel
theorem dX9_behind_59 : decode cX9_behind 59 = .ok (.laload, 1) := by decide +kernel
theorem dX9_behind_60 : decode cX9_behind 60 = .ok (.lcmp, 1) := by decide +kernel
theorem dX9_behind_61 : decode cX9_behind 61 = .ok (.ifCond .ne 13, 3) := by decide +kernel
theorem dX9_behind_64 : decode cX9_behind 64 = .ok (.iload 4, 2) := by decide +kernel
theorem dX9_behind_66 : decode cX9_behind 66 = .ok (.iload_n 2, 1) := by decide +kernel
theorem dX9_behind_67 : decode cX9_behind 67 = .ok (.if_icmp .le 7, 3) := by decide +kernel
theorem dX9_behind_70 : decode cX9_behind 70 = .ok (.iconst 1, 1) := by decide +kernel
theorem dX9_behind_71 : decode cX9_behind 71 = .ok (.goto 4, 3) := by decide +kernel
theorem dX9_behind_74 : decode cX9_behind 74 = .ok (.iconst 0, 1) := by decide +kernel
theorem dX9_behind_75 : decode cX9_behind 75 = .ok (.istore 5, 2) := by decide +kernel
theorem dX9_behind_77 : decode cX9_behind 77 = .ok (.iload 5, 2) := by decide +kernel
theorem dX9_behind_79 : decode cX9_behind 79 = .ok (.ifCond .eq 30, 3) := by decide +kernel
theorem dX9_behind_82 : decode cX9_behind 82 = .ok (.iload_n 3, 1) := by decide +kernel
theorem dX9_behind_83 : decode cX9_behind 83 = .ok (.iconst (-1), 1) := by decide +kernel
theorem dX9_behind_84 : decode cX9_behind 84 = .ok (.if_icmp .eq 20, 3) := by decide +kernel
theorem dX9_behind_87 : decode cX9_behind 87 = .ok (.aload_n 0, 1) := by decide +kernel
theorem dX9_behind_88 : decode cX9_behind 88 = .ok (.getfield 39, 3) := by decide +kernel
theorem dX9_behind_91 : decode cX9_behind 91 = .ok (.iload 4, 2) := by decide +kernel
theorem dX9_behind_93 : decode cX9_behind 93 = .ok (.laload, 1) := by decide +kernel
theorem dX9_behind_94 : decode cX9_behind 94 = .ok (.aload_n 0, 1) := by decide +kernel
theorem dX9_behind_95 : decode cX9_behind 95 = .ok (.getfield 39, 3) := by decide +kernel
theorem dX9_behind_98 : decode cX9_behind 98 = .ok (.iload_n 3, 1) := by decide +kernel
theorem dX9_behind_99 : decode cX9_behind 99 = .ok (.laload, 1) := by decide +kernel
theorem dX9_behind_100 : decode cX9_behind 100 = .ok (.lcmp, 1) := by decide +kernel
theorem dX9_behind_101 : decode cX9_behind 101 = .ok (.ifCond .ge 8, 3) := by decide +kernel
theorem dX9_behind_104 : decode cX9_behind 104 = .ok (.iload 4, 2) := by decide +kernel
theorem dX9_behind_106 : decode cX9_behind 106 = .ok (.goto 4, 3) := by decide +kernel
theorem dX9_behind_109 : decode cX9_behind 109 = .ok (.iload_n 3, 1) := by decide +kernel
theorem dX9_behind_110 : decode cX9_behind 110 = .ok (.istore_n 3, 1) := by decide +kernel
theorem dX9_behind_111 : decode cX9_behind 111 = .ok (.iinc 4 1, 3) := by decide +kernel
theorem dX9_behind_114 : decode cX9_behind 114 = .ok (.goto (-109), 3) := by decide +kernel
theorem dX9_behind_117 : decode cX9_behind 117 = .ok (.iload_n 3, 1) := by decide +kernel
theorem dX9_behind_118 : decode cX9_behind 118 = .ok (.ireturn, 1) := by decide +kernel
theorem dX9_cutLine_0 : decode cX9_cutLine 0 = .ok (.aload_n 0, 1) := by decide +kernel
theorem dX9_cutLine_1 : decode cX9_cutLine 1 = .ok (.iload_n 1, 1) := by decide +kernel
theorem dX9_cutLine_2 : decode cX9_cutLine 2 = .ok (.iconst (-1), 1) := by decide +kernel
theorem dX9_cutLine_3 : decode cX9_cutLine 3 = .ok (.invokevirtual 163, 3) := by decide +kernel
theorem dX9_cutLine_6 : decode cX9_cutLine 6 = .ok (.istore_n 2, 1) := by decide +kernel
theorem dX9_cutLine_7 : decode cX9_cutLine 7 = .ok (.iconst 1, 1) := by decide +kernel
theorem dX9_cutLine_8 : decode cX9_cutLine 8 = .ok (.istore_n 3, 1) := by decide +kernel
theorem dX9_cutLine_9 : decode cX9_cutLine 9 = .ok (.iload_n 2, 1) := by decide +kernel
theorem dX9_cutLine_10 : decode cX9_cutLine 10 = .ok (.iconst (-1), 1) := by decide +kernel
theorem dX9_cutLine_11 : decode cX9_cutLine 11 = .ok (.if_icmp .eq 494, 3) := by decide +kernel
theorem dX9_cutLine_14 : decode cX9_cutLine 14 = .ok (.iload_n 3, 1) := by decide +kernel
theorem dX9_cutLine_15 : decode cX9_cutLine 15 = .ok (.ifCond .eq 146, 3) := by decide +kernel
theorem dX9_cutLine_18 : decode cX9_cutLine 18 = .ok (.aload_n 0, 1) := by decide +kernel
theorem dX9_cutLine_19 : decode cX9_cutLine 19 = .ok (.getfield 66, 3) := by decide +kernel
theorem dX9_cutLine_22 : decode cX9_cutLine 22 = .ok (.aload_n 0, 1) := by decide +kernel
theorem dX9_cutLine_23 : decode cX9_cutLine 23 = .ok (.getfield 150, 3) := by decide +kernel
theorem dX9_cutLine_26 : decode cX9_cutLine 26 = .ok (.iload_n 2, 1) := by decide +kernel
theorem dX9_cutLine_27 : decode cX9_cutLine 27 = .ok (.iastore, 1) := by decide +kernel
theorem dX9_cutLine_28 : decode cX9_cutLine 28 = .ok (.aload_n 0, 1) := by decide +kernel
theorem dX9_cutLine_29 : decode cX9_cutLine 29 = .ok (.getfield 69, 3) := by decide +kernel
theorem dX9_cutLine_32 : decode cX9_cutLine 32 = .ok (.aload_n 0, 1) := by decide +kernel
theorem dX9_cutLine_33 : decode cX9_cutLine 33 = .ok (.getfield 150, 3) := by decide +kernel
theorem dX9_cutLine_36 : decode cX9_cutLine 36 = .ok (.iload_n 1, 1) := by decide +kernel
theorem dX9_cutLine_37 : decode cX9_cutLine 37 = .ok (.iastore, 1) := by decide +kernel
theorem dX9_cutLine_38 : decode cX9_cutLine 38 = .ok (.aload_n 0, 1) := by decide +kernel
theorem dX9_cutLine_39 : decode cX9_cutLine 39 = .ok (.getfield 72, 3) := by decide +kernel
theorem dX9_cutLine_42 : decode cX9_cutLine 42 = .ok (.aload_n 0, 1) := by decide +kernel
theorem dX9_cutLine_43 : decode cX9_cutLine 43 = .ok (.getfield 150, 3) := by decide +kernel
theorem dX9_cutLine_46 : decode cX9_cutLine 46 = .ok (.aload_n 0, 1) := by decide +kernel
theorem dX9_cutLine_47 : decode cX9_cutLine 47 = .ok (.getfield 39, 3) := by decide +kernel
theorem dX9_cutLine_50 : decode cX9_cutLine 50 = .ok (.iload_n 2, 1) := by decide +kernel
theorem dX9_cutLine_51 : decode cX9_cutLine 51 = .ok (.laload, 1) := by decide +kernel
theorem dX9_cutLine_52 : decode cX9_cutLine 52 = .ok (.lastore, 1) := by decide +kernel
theorem dX9_cutLine_53 : decode cX9_cutLine 53 = .ok (.aload_n 0, 1) := by decide +kernel
theorem dX9_cutLine_54 : decode cX9_cutLine 54 = .ok (.getfield 75, 3) := by decide +kernel
theorem dX9_cutLine_57 : decode cX9_cutLine 57 = .ok (.aload_n 0, 1) := by decide +kernel
theorem dX9_cutLine_58 : decode cX9_cutLine 58 = .ok (.getfield 150, 3) := by decide +kernel
theorem dX9_cutLine_61 : decode cX9_cutLine 61 = .ok (.aload_n 0, 1) := by decide +kernel
theorem dX9_cutLine_62 : decode cX9_cutLine 62 = .ok (.getfield 39, 3) := by decide +kernel
theorem dX9_cutLine_65 : decode cX9_cutLine 65 = .ok (.iload_n 2, 1) := by decide +kernel
theorem dX9_cutLine_66 : decode cX9_cutLine 66 = .ok (.laload, 1) := by decide +kernel
theorem dX9_cutLine_67 : decode cX9_cutLine 67 = .ok (.aload_n 0, 1) := by decide +kernel
theorem dX9_cutLine_68 : decode cX9_cutLine 68 = .ok (.getfield 20, 3) := by decide +kernel
theorem dX9_cutLine_71 : decode cX9_cutLine 71 = .ok (.iload_n 2, 1) := by decide +kernel
theorem dX9_cutLine_72 : decode cX9_cutLine 72 = .ok (.laload, 1) := by decide +kernel
theorem dX9_cutLine_73 : decode cX9_cutLine 73 = .ok (.ladd, 1) := by decide +kernel
theorem dX9_cutLine_74 : decode cX9_cutLine 74 = .ok (.lastore, 1) := by decide +kernel
theorem dX9_cutLine_75 : decode cX9_cutLine 75 = .ok (.aload_n 0, 1) := by decide +kernel
theorem dX9_cutLine_76 : decode cX9_cutLine 76 = .ok (.getfield 78, 3) := by decide +kernel
theorem dX9_cutLine_79 : decode cX9_cutLine 79 = .ok (.aload_n 0, 1) := by decide +kernel
theorem dX9_cutLine_80 : decode cX9_cutLine 80 = .ok (.getfield 150, 3) := by decide +kernel
theorem dX9_cutLine_83 : decode cX9_cutLine 83 = .ok (.aload_n 0, 1) := by decide +kernel
theorem dX9_cutLine_84 : decode cX9_cutLine 84 = .ok (.getfield 42, 3) := by decide +kernel
theorem dX9_cutLine_87 : decode cX9_cutLine 87 = .ok (.iload_n 2, 1) := by decide +kernel
theorem dX9_cutLine_88 : decode cX9_cutLine 88 = .ok (.laload, 1) := by decide +kernel
theorem dX9_cutLine_89 : decode cX9_cutLine 89 = .ok (.aload_n 0, 1) := by decide +kernel
theorem dX9_cutLine_90 : decode cX9_cutLine 90 = .ok (.getfield 23, 3) := by decide +kernel
theorem dX9_cutLine_93 : decode cX9_cutLine 93 = .ok (.iload_n 2, 1) := by decide +kernel
theorem dX9_cutLine_94 : decode cX9_cutLine 94 = .ok (.iaload, 1) := by decide +kernel
theorem dX9_cutLine_95 : decode cX9_cutLine 95 = .ok (.i2l, 1) := by decide +kernel
theorem dX9_cutLine_96 : decode cX9_cutLine 96 = .ok (.ladd, 1) := by decide +kernel
theorem dX9_cutLine_97 : decode cX9_cutLine 97 = .ok (.lastore, 1) := by decide +kernel
theorem dX9_cutLine_98 : decode cX9_cutLine 98 = .ok (.aload_n 0, 1) := by decide +kernel
theorem dX9_cutLine_99 : decode cX9_cutLine 99 = .ok (.getfield 81, 3) := by decide +kernel
theorem dX9_cutLine_102 : decode cX9_cutLine 102 = .ok (.aload_n 0, 1) := by decide +kernel
theorem dX9_cutLine_103 : decode cX9_cutLine 103 = .ok (.getfield 150, 3) := by decide +kernel
theorem dX9_cutLine_106 : decode cX9_cutLine 106 = .ok (.aload_n 0, 1) := by decide +kernel
theorem dX9_cutLine_107 : decode cX9_cutLine 107 = .ok (.getfield 42, 3) := by decide +kernel
theorem dX9_cutLine_110 : decode cX9_cutLine 110 = .ok (.iload_n 2, 1) := by decide +kernel
theorem dX9_cutLine_111 : decode cX9_cutLine 111 = .ok (.laload, 1) := by decide +kernel
theorem dX9_cutLine_112 : decode cX9_cutLine 112 = .ok (.lastore, 1) := by decide +kernel
theorem dX9_cutLine_113 : decode cX9_cutLine 113 = .ok (.aload_n 0, 1) := by decide +kernel
theorem dX9_cutLine_114 : decode cX9_cutLine 114 = .ok (.getfield 84, 3) := by decide +kernel
theorem dX9_cutLine_117 : decode cX9_cutLine 117 = .ok (.aload_n 0, 1) := by decide +kernel
theorem dX9_cutLine_118 : decode cX9_cutLine 118 = .ok (.getfield 150, 3) := by decide +kernel
theorem dX9_cutLine_121 : decode cX9_cutLine 121 = .ok (.aload_n 0, 1) := by decide +kernel
theorem dX9_cutLine_122 : decode cX9_cutLine 122 = .ok (.getfield 23, 3) := by decide +kernel
theorem dX9_cutLine_125 : decode cX9_cutLine 125 = .ok (.iload_n 2, 1) := by decide +kernel
theorem dX9_cutLine_126 : decode cX9_cutLine 126 = .ok (.iaload, 1) := by decide +kernel
theorem dX9_cutLine_127 : decode cX9_cutLine 127 = .ok (.iastore, 1) := by decide +kernel
theorem dX9_cutLine_128 : decode cX9_cutLine 128 = .ok (.aload_n 0, 1) := by decide +kernel
theorem dX9_cutLine_129 : decode cX9_cutLine 129 = .ok (.getfield 87, 3) := by decide +kernel
theorem dX9_cutLine_132 : decode cX9_cutLine 132 = .ok (.aload_n 0, 1) := by decide +kernel
theorem dX9_cutLine_133 : decode cX9_cutLine 133 = .ok (.getfield 150, 3) := by decide +kernel
theorem dX9_cutLine_136 : decode cX9_cutLine 136 = .ok (.aload_n 0, 1) := by decide +kernel
theorem dX9_cutLine_137 : decode cX9_cutLine 137 = .ok (.getfield 26, 3) := by decide +kernel
theorem dX9_cutLine_140 : decode cX9_cutLine 140 = .ok (.iload_n 2, 1) := by decide +kernel
theorem dX9_cutLine_141 : decode cX9_cutLine 141 = .ok (.baload, 1) := by decide +kernel
theorem dX9_cutLine_142 : decode cX9_cutLine 142 = .ok (.ifCond .eq 7, 3) := by decide +kernel
theorem dX9_cutLine_145 : decode cX9_cutLine 145 = .ok (.iconst 1, 1) := by decide +kernel
theorem dX9_cutLine_146 : decode cX9_cutLine 146 = .ok (.goto 4, 3) := by decide +kernel
theorem dX9_cutLine_149 : decode cX9_cutLine 149 = .ok (.iconst 0, 1) := by decide +kernel
theorem dX9_cutLine_150 : decode cX9_cutLine 150 = .ok (.iastore, 1) := by decide +kernel
theorem dX9_cutLine_151 : decode cX9_cutLine 151 = .ok (.aload_n 0, 1) := by decide +kernel
theorem dX9_cutLine_152 : decode cX9_cutLine 152 = .ok (.dup, 1) := by decide +kernel
theorem dX9_cutLine_153 : decode cX9_cutLine 153 = .ok (.getfield 150, 3) := by decide +kernel
theorem dX9_cutLine_156 : decode cX9_cutLine 156 = .ok (.iconst 1, 1) := by decide +kernel
theorem dX9_cutLine_157 : decode cX9_cutLine 157 = .ok (.iadd, 1) := by decide +kernel
theorem dX9_cutLine_158 : decode cX9_cutLine 158 = .ok (.putfield 150, 3) := by decide +kernel
theorem dX9_cutLine_161 : decode cX9_cutLine 161 = .ok (.aload_n 0, 1) := by decide +kernel
theorem dX9_cutLine_162 : decode cX9_cutLine 162 = .ok (.getfield 150, 3) := by decide +kernel
theorem dX9_cutLine_165 : decode cX9_cutLine 165 = .ok (.iconst 1, 1) := by decide +kernel
theorem dX9_cutLine_166 : decode cX9_cutLine 166 = .ok (.isub, 1) := by decide +kernel
theorem dX9_cutLine_167 : decode cX9_cutLine 167 = .ok (.istore 4, 2) := by decide +kernel
theorem dX9_cutLine_169 : decode cX9_cutLine 169 = .ok (.aload_n 0, 1) := by decide +kernel
theorem dX9_cutLine_170 : decode cX9_cutLine 170 = .ok (.getfield 57, 3) := by decide +kernel
theorem dX9_cutLine_173 : decode cX9_cutLine 173 = .ok (.iload_n 2, 1) := by decide +kernel
theorem dX9_cutLine_174 : decode cX9_cutLine 174 = .ok (.iload 4, 2) := by decide +kernel
theorem dX9_cutLine_176 : decode cX9_cutLine 176 = .ok (.iastore, 1) := by decide +kernel
theorem dX9_cutLine_177 : decode cX9_cutLine 177 = .ok (.aload_n 0, 1) := by decide +kernel
theorem dX9_cutLine_178 : decode cX9_cutLine 178 = .ok (.getfield 75, 3) := by decide +kernel
theorem dX9_cutLine_181 : decode cX9_cutLine 181 = .ok (.iload 4, 2) := by decide +kernel
theorem dX9_cutLine_183 : decode cX9_cutLine 183 = .ok (.aload_n 0, 1) := by decide +kernel
theorem dX9_cutLine_184 : decode cX9_cutLine 184 = .ok (.getfield 39, 3) := by decide +kernel
theorem dX9_cutLine_187 : decode cX9_cutLine 187 = .ok (.iload_n 2, 1) := by decide +kernel
theorem dX9_cutLine_188 : decode cX9_cutLine 188 = .ok (.laload, 1) := by decide +kernel
theorem dX9_cutLine_189 : decode cX9_cutLine 189 = .ok (.aload_n 0, 1) := by decide +kernel
theorem dX9_cutLine_190 : decode cX9_cutLine 190 = .ok (.getfield 20, 3) := by decide +kernel
theorem dX9_cutLine_193 : decode cX9_cutLine 193 = .ok (.iload_n 2, 1) := by decide +kernel
theorem dX9_cutLine_194 : decode cX9_cutLine 194 = .ok (.laload, 1) := by decide +kernel
theorem dX9_cutLine_195 : decode cX9_cutLine 195 = .ok (.ladd, 1) := by decide +kernel
theorem dX9_cutLine_196 : decode cX9_cutLine 196 = .ok (.aload_n 0, 1) := by decide +kernel
theorem dX9_cutLine_197 : decode cX9_cutLine 197 = .ok (.getfield 75, 3) := by decide +kernel
theorem dX9_cutLine_200 : decode cX9_cutLine 200 = .ok (.iload 4, 2) := by decide +kernel
theorem dX9_cutLine_202 : decode cX9_cutLine 202 = .ok (.laload, 1) := by decide +kernel
theorem dX9_cutLine_203 : decode cX9_cutLine 203 = .ok (.lcmp, 1) := by decide +kernel
theorem dX9_cutLine_204 : decode cX9_cutLine 204 = .ok (.ifCond .le 19, 3) := by decide +kernel
theorem dX9_cutLine_207 : decode cX9_cutLine 207 = .ok (.aload_n 0, 1) := by decide +kernel
theorem dX9_cutLine_208 : decode cX9_cutLine 208 = .ok (.getfield 39, 3) := by decide +kernel
theorem dX9_cutLine_211 : decode cX9_cutLine 211 = .ok (.iload_n 2, 1) := by decide +kernel
theorem dX9_cutLine_212 : decode cX9_cutLine 212 = .ok (.laload, 1) := by decide +kernel
theorem dX9_cutLine_213 : decode cX9_cutLine 213 = .ok (.aload_n 0, 1) := by decide +kernel
theorem dX9_cutLine_214 : decode cX9_cutLine 214 = .ok (.getfield 20, 3) := by decide +kernel
theorem dX9_cutLine_217 : decode cX9_cutLine 217 = .ok (.iload_n 2, 1) := by decide +kernel
theorem dX9_cutLine_218 : decode cX9_cutLine 218 = .ok (.laload, 1) := by decide +kernel
theorem dX9_cutLine_219 : decode cX9_cutLine 219 = .ok (.ladd, 1) := by decide +kernel
theorem dX9_cutLine_220 : decode cX9_cutLine 220 = .ok (.goto 10, 3) := by decide +kernel
theorem dX9_cutLine_223 : decode cX9_cutLine 223 = .ok (.aload_n 0, 1) := by decide +kernel
theorem dX9_cutLine_224 : decode cX9_cutLine 224 = .ok (.getfield 75, 3) := by decide +kernel
theorem dX9_cutLine_227 : decode cX9_cutLine 227 = .ok (.iload 4, 2) := by decide +kernel
theorem dX9_cutLine_229 : decode cX9_cutLine 229 = .ok (.laload, 1) := by decide +kernel
theorem dX9_cutLine_230 : decode cX9_cutLine 230 = .ok (.lastore, 1) := by decide +kernel
theorem dX9_cutLine_231 : decode cX9_cutLine 231 = .ok (.aload_n 0, 1) := by decide +kernel
theorem dX9_cutLine_232 : decode cX9_cutLine 232 = .ok (.getfield 78, 3) := by decide +kernel
theorem dX9_cutLine_235 : decode cX9_cutLine 235 = .ok (.iload 4, 2) := by decide +kernel
theorem dX9_cutLine_237 : decode cX9_cutLine 237 = .ok (.aload_n 0, 1) := by decide +kernel
theorem dX9_cutLine_238 : decode cX9_cutLine 238 = .ok (.getfield 42, 3) := by decide +kernel
theorem dX9_cutLine_241 : decode cX9_cutLine 241 = .ok (.iload_n 2, 1) := by decide +kernel
theorem dX9_cutLine_242 : decode cX9_cutLine 242 = .ok (.laload, 1) := by decide +kernel
theorem dX9_cutLine_243 : decode cX9_cutLine 243 = .ok (.aload_n 0, 1) := by decide +kernel
theorem dX9_cutLine_244 : decode cX9_cutLine 244 = .ok (.getfield 23, 3) := by decide +kernel
theorem dX9_cutLine_247 : decode cX9_cutLine 247 = .ok (.iload_n 2, 1) := by decide +kernel
theorem dX9_cutLine_248 : decode cX9_cutLine 248 = .ok (.iaload, 1) := by decide +kernel
theorem dX9_cutLine_249 : decode cX9_cutLine 249 = .ok (.i2l, 1) := by decide +kernel
theorem dX9_cutLine_250 : decode cX9_cutLine 250 = .ok (.ladd, 1) := by decide +kernel
theorem dX9_cutLine_251 : decode cX9_cutLine 251 = .ok (.aload_n 0, 1) := by decide +kernel
theorem dX9_cutLine_252 : decode cX9_cutLine 252 = .ok (.getfield 78, 3) := by decide +kernel
theorem dX9_cutLine_255 : decode cX9_cutLine 255 = .ok (.iload 4, 2) := by decide +kernel
theorem dX9_cutLine_257 : decode cX9_cutLine 257 = .ok (.laload, 1) := by decide +kernel
theorem dX9_cutLine_258 : decode cX9_cutLine 258 = .ok (.lcmp, 1) := by decide +kernel
theorem dX9_cutLine_259 : decode cX9_cutLine 259 = .ok (.ifCond .le 20, 3) := by decide +kernel
theorem dX9_cutLine_262 : decode cX9_cutLine 262 = .ok (.aload_n 0, 1) := by decide +kernel
theorem dX9_cutLine_263 : decode cX9_cutLine 263 = .ok (.getfield 42, 3) := by decide +kernel
theorem dX9_cutLine_266 : decode cX9_cutLine 266 = .ok (.iload_n 2, 1) := by decide +kernel
theorem dX9_cutLine_267 : decode cX9_cutLine 267 = .ok (.laload, 1) := by decide +kernel
theorem dX9_cutLine_268 : decode cX9_cutLine 268 = .ok (.aload_n 0, 1) := by decide +kernel
theorem dX9_cutLine_269 : decode cX9_cutLine 269 = .ok (.getfield 23, 3) := by decide +kernel
theorem dX9_cutLine_272 : decode cX9_cutLine 272 = .ok (.iload_n 2, 1) := by decide +kernel
theorem dX9_cutLine_273 : decode cX9_cutLine 273 = .ok (.iaload, 1) := by decide +kernel
theorem dX9_cutLine_274 : decode cX9_cutLine 274 = .ok (.i2l, 1) := by decide +kernel
theorem dX9_cutLine_275 : decode cX9_cutLine 275 = .ok (.ladd, 1) := by decide +kernel
theorem dX9_cutLine_276 : decode cX9_cutLine 276 = .ok (.goto 10, 3) := by decide +kernel
theorem dX9_cutLine_279 : decode cX9_cutLine 279 = .ok (.aload_n 0, 1) := by decide +kernel
theorem dX9_cutLine_280 : decode cX9_cutLine 280 = .ok (.getfield 78, 3) := by decide +kernel
theorem dX9_cutLine_283 : decode cX9_cutLine 283 = .ok (.iload 4, 2) := by decide +kernel
theorem dX9_cutLine_285 : decode cX9_cutLine 285 = .ok (.laload, 1) := by decide +kernel
theorem dX9_cutLine_286 : decode cX9_cutLine 286 = .ok (.lastore, 1) := by decide +kernel
theorem dX9_cutLine_287 : decode cX9_cutLine 287 = .ok (.aload_n 0, 1) := by decide +kernel
theorem dX9_cutLine_288 : decode cX9_cutLine 288 = .ok (.getfield 81, 3) := by decide +kernel
theorem dX9_cutLine_291 : decode cX9_cutLine 291 = .ok (.iload 4, 2) := by decide +kernel
theorem dX9_cutLine_293 : decode cX9_cutLine 293 = .ok (.aload_n 0, 1) := by decide +kernel
theorem dX9_cutLine_294 : decode cX9_cutLine 294 = .ok (.getfield 42, 3) := by decide +kernel
theorem dX9_cutLine_297 : decode cX9_cutLine 297 = .ok (.iload_n 2, 1) := by decide +kernel
theorem dX9_cutLine_298 : decode cX9_cutLine 298 = .ok (.laload, 1) := by decide +kernel
theorem dX9_cutLine_299 : decode cX9_cutLine 299 = .ok (.aload_n 0, 1) := by decide +kernel
theorem dX9_cutLine_300 : decode cX9_cutLine 300 = .ok (.getfield 81, 3) := by decide +kernel
theorem dX9_cutLine_303 : decode cX9_cutLine 303 = .ok (.iload 4, 2) := by decide +kernel
theorem dX9_cutLine_305 : decode cX9_cutLine 305 = .ok (.laload, 1) := by decide +kernel
theorem dX9_cutLine_306 : decode cX9_cutLine 306 = .ok (.lcmp, 1) := by decide +kernel
theorem dX9_cutLine_307 : decode cX9_cutLine 307 = .ok (.ifCond .ge 12, 3) := by decide +kernel
theorem dX9_cutLine_310 : decode cX9_cutLine 310 = .ok (.aload_n 0, 1) := by decide +kernel
theorem dX9_cutLine_311 : decode cX9_cutLine 311 = .ok (.getfield 42, 3) := by decide +kernel
theorem dX9_cutLine_314 : decode cX9_cutLine 314 = .ok (.iload_n 2, 1) := by decide +kernel
theorem dX9_cutLine_315 : decode cX9_cutLine 315 = .ok (.laload, 1) := by decide +kernel
theorem dX9_cutLine_316 : decode cX9_cutLine 316 = .ok (.goto 10, 3) := by decide +kernel
theorem dX9_cutLine_319 : decode cX9_cutLine 319 = .ok (.aload_n 0, 1) := by decide +kernel
theorem dX9_cutLine_320 : decode cX9_cutLine 320 = .ok (.getfield 81, 3) := by decide +kernel
theorem dX9_cutLine_323 : decode cX9_cutLine 323 = .ok (.iload 4, 2) := by decide +kernel
theorem dX9_cutLine_325 : decode cX9_cutLine 325 = .ok (.laload, 1) := by decide +kernel
theorem dX9_cutLine_326 : decode cX9_cutLine 326 = .ok (.lastore, 1) := by decide +kernel
theorem dX9_cutLine_327 : decode cX9_cutLine 327 = .ok (.aload_n 0, 1) := by decide +kernel
theorem dX9_cutLine_328 : decode cX9_cutLine 328 = .ok (.getfield 84, 3) := by decide +kernel
theorem dX9_cutLine_331 : decode cX9_cutLine 331 = .ok (.iload 4, 2) := by decide +kernel
theorem dX9_cutLine_333 : decode cX9_cutLine 333 = .ok (.aload_n 0, 1) := by decide +kernel
theorem dX9_cutLine_334 : decode cX9_cutLine 334 = .ok (.getfield 23, 3) := by decide +kernel
theorem dX9_cutLine_337 : decode cX9_cutLine 337 = .ok (.iload_n 2, 1) := by decide +kernel
theorem dX9_cutLine_338 : decode cX9_cutLine 338 = .ok (.iaload, 1) := by decide +kernel
theorem dX9_cutLine_339 : decode cX9_cutLine 339 = .ok (.aload_n 0, 1) := by decide +kernel
theorem dX9_cutLine_340 : decode cX9_cutLine 340 = .ok (.getfield 84, 3) := by decide +kernel
theorem dX9_cutLine_343 : decode cX9_cutLine 343 = .ok (.iload 4, 2) := by decide +kernel
theorem dX9_cutLine_345 : decode cX9_cutLine 345 = .ok (.iaload, 1) := by decide +kernel
theorem dX9_cutLine_346 : decode cX9_cutLine 346 = .ok (.if_icmp .le 12, 3) := by decide +kernel
theorem dX9_cutLine_349 : decode cX9_cutLine 349 = .ok (.aload_n 0, 1) := by decide +kernel
theorem dX9_cutLine_350 : decode cX9_cutLine 350 = .ok (.getfield 23, 3) := by decide +kernel
theorem dX9_cutLine_353 : decode cX9_cutLine 353 = .ok (.iload_n 2, 1) := by decide +kernel
theorem dX9_cutLine_354 : decode cX9_cutLine 354 = .ok (.iaload, 1) := by decide +kernel
theorem dX9_cutLine_355 : decode cX9_cutLine 355 = .ok (.goto 10, 3) := by decide +kernel
theorem dX9_cutLine_358 : decode cX9_cutLine 358 = .ok (.aload_n 0, 1) := by decide +kernel
theorem dX9_cutLine_359 : decode cX9_cutLine 359 = .ok (.getfield 84, 3) := by decide +kernel
theorem dX9_cutLine_362 : decode cX9_cutLine 362 = .ok (.iload 4, 2) := by decide +kernel
theorem dX9_cutLine_364 : decode cX9_cutLine 364 = .ok (.iaload, 1) := by decide +kernel
theorem dX9_cutLine_365 : decode cX9_cutLine 365 = .ok (.iastore, 1) := by decide +kernel
theorem dX9_cutLine_366 : decode cX9_cutLine 366 = .ok (.aload_n 0, 1) := by decide +kernel
theorem dX9_cutLine_367 : decode cX9_cutLine 367 = .ok (.iload_n 1, 1) := by decide +kernel
theorem dX9_cutLine_368 : decode cX9_cutLine 368 = .ok (.iload_n 2, 1) := by decide +kernel
theorem dX9_cutLine_369 : decode cX9_cutLine 369 = .ok (.invokevirtual 163, 3) := by decide +kernel
theorem dX9_cutLine_372 : decode cX9_cutLine 372 = .ok (.istore 5, 2) := by decide +kernel
theorem dX9_cutLine_374 : decode cX9_cutLine 374 = .ok (.iload 5, 2) := by decide +kernel
theorem dX9_cutLine_376 : decode cX9_cutLine 376 = .ok (.iconst (-1), 1) := by decide +kernel
theorem dX9_cutLine_377 : decode cX9_cutLine 377 = .ok (.if_icmp .ne 7, 3) := by decide +kernel
theorem dX9_cutLine_380 : decode cX9_cutLine 380 = .ok (.lconst 0, 1) := by decide +kernel
theorem dX9_cutLine_381 : decode cX9_cutLine 381 = .ok (.goto 24, 3) := by decide +kernel
theorem dX9_cutLine_384 : decode cX9_cutLine 384 = .ok (.aload_n 0, 1) := by decide +kernel
theorem dX9_cutLine_385 : decode cX9_cutLine 385 = .ok (.getfield 39, 3) := by decide +kernel
theorem dX9_cutLine_388 : decode cX9_cutLine 388 = .ok (.iload 5, 2) := by decide +kernel
theorem dX9_cutLine_390 : decode cX9_cutLine 390 = .ok (.laload, 1) := by decide +kernel
theorem dX9_cutLine_391 : decode cX9_cutLine 391 = .ok (.aload_n 0, 1) := by decide +kernel
theorem dX9_cutLine_392 : decode cX9_cutLine 392 = .ok (.getfield 39, 3) := by decide +kernel
theorem dX9_cutLine_395 : decode cX9_cutLine 395 = .ok (.iload_n 2, 1) := by decide +kernel
theorem dX9_cutLine_396 : decode cX9_cutLine 396 = .ok (.laload, 1) := by decide +kernel
theorem dX9_cutLine_397 : decode cX9_cutLine 397 = .ok (.lsub, 1) := by decide +kernel
theorem dX9_cutLine_398 : decode cX9_cutLine 398 = .ok (.aload_n 0, 1) := by decide +kernel
theorem dX9_cutLine_399 : decode cX9_cutLine 399 = .ok (.getfield 20, 3) := by decide +kernel
theorem dX9_cutLine_402 : decode cX9_cutLine 402 = .ok (.iload_n 2, 1) := by decide +kernel
theorem dX9_cutLine_403 : decode cX9_cutLine 403 = .ok (.laload, 1) := by decide +kernel
theorem dX9_cutLine_404 : decode cX9_cutLine 404 = .ok (.lsub, 1) := by decide +kernel
theorem dX9_cutLine_405 : decode cX9_cutLine 405 = .ok (.lstore 6, 2) := by decide +kernel
theorem dX9_cutLine_407 : decode cX9_cutLine 407 = .ok (.lload 6, 2) := by decide +kernel
theorem dX9_cutLine_409 : decode cX9_cutLine 409 = .ok (.ldc2_w 138, 3) := by decide +kernel
theorem dX9_cutLine_412 : decode cX9_cutLine 412 = .ok (.aload_n 0, 1) := by decide +kernel
theorem dX9_cutLine_413 : decode cX9_cutLine 413 = .ok (.getfield 23, 3) := by decide +kernel
theorem dX9_cutLine_416 : decode cX9_cutLine 416 = .ok (.iload_n 2, 1) := by decide +kernel
theorem dX9_cutLine_417 : decode cX9_cutLine 417 = .ok (.iaload, 1) := by decide +kernel
theorem dX9_cutLine_418 : decode cX9_cutLine 418 = .ok (.i2l, 1) := by decide +kernel
theorem dX9_cutLine_419 : decode cX9_cutLine 419 = .ok (.lmul, 1) := by decide +kernel
theorem dX9_cutLine_420 : decode cX9_cutLine 420 = .ok (.lcmp, 1) := by decide +kernel
theorem dX9_cutLine_421 : decode cX9_cutLine 421 = .ok (.ifCond .lt 7, 3) := by decide +kernel
theorem dX9_cutLine_424 : decode cX9_cutLine 424 = .ok (.iconst 1, 1) := by decide +kernel
theorem dX9_cutLine_425 : decode cX9_cutLine 425 = .ok (.goto 4, 3) := by decide +kernel
theorem dX9_cutLine_428 : decode cX9_cutLine 428 = .ok (.iconst 0, 1) := by decide +kernel
theorem dX9_cutLine_429 : decode cX9_cutLine 429 = .ok (.istore_n 3, 1) := by decide +kernel
theorem dX9_cutLine_430 : decode cX9_cutLine 430 = .ok (.aload_n 0, 1) := by decide +kernel
theorem dX9_cutLine_431 : decode cX9_cutLine 431 = .ok (.getfield 60, 3) := by decide +kernel
theorem dX9_cutLine_434 : decode cX9_cutLine 434 = .ok (.iload_n 2, 1) := by decide +kernel
theorem dX9_cutLine_435 : decode cX9_cutLine 435 = .ok (.iload_n 3, 1) := by decide +kernel
theorem dX9_cutLine_436 : decode cX9_cutLine 436 = .ok (.ifCond .eq 7, 3) := by decide +kernel
theorem dX9_cutLine_439 : decode cX9_cutLine 439 = .ok (.iconst (-1), 1) := by decide +kernel
theorem dX9_cutLine_440 : decode cX9_cutLine 440 = .ok (.goto 5, 3) := by decide +kernel
theorem dX9_cutLine_443 : decode cX9_cutLine 443 = .ok (.iload 5, 2) := by decide +kernel
theorem dX9_cutLine_445 : decode cX9_cutLine 445 = .ok (.iastore, 1) := by decide +kernel
theorem dX9_cutLine_446 : decode cX9_cutLine 446 = .ok (.aload_n 0, 1) := by decide +kernel
theorem dX9_cutLine_447 : decode cX9_cutLine 447 = .ok (.getfield 63, 3) := by decide +kernel
theorem dX9_cutLine_450 : decode cX9_cutLine 450 = .ok (.iload_n 2, 1) := by decide +kernel
theorem dX9_cutLine_451 : decode cX9_cutLine 451 = .ok (.iload_n 3, 1) := by decide +kernel
theorem dX9_cutLine_452 : decode cX9_cutLine 452 = .ok (.ifCond .ne 45, 3) := by decide +kernel
theorem dX9_cutLine_455 : decode cX9_cutLine 455 = .ok (.lload 6, 2) := by decide +kernel
theorem dX9_cutLine_457 : decode cX9_cutLine 457 = .ok (.lconst 0, 1) := by decide +kernel
theorem dX9_cutLine_458 : decode cX9_cutLine 458 = .ok (.lcmp, 1) := by decide +kernel
theorem dX9_cutLine_459 : decode cX9_cutLine 459 = .ok (.ifCond .le 38, 3) := by decide +kernel
theorem dX9_cutLine_462 : decode cX9_cutLine 462 = .ok (.aload_n 0, 1) := by decide +kernel
theorem dX9_cutLine_463 : decode cX9_cutLine 463 = .ok (.getfield 20, 3) := by decide +kernel
theorem dX9_cutLine_466 : decode cX9_cutLine 466 = .ok (.iload_n 2, 1) := by decide +kernel
theorem dX9_cutLine_467 : decode cX9_cutLine 467 = .ok (.laload, 1) := by decide +kernel
theorem dX9_cutLine_468 : decode cX9_cutLine 468 = .ok (.lconst 0, 1) := by decide +kernel
theorem dX9_cutLine_469 : decode cX9_cutLine 469 = .ok (.lcmp, 1) := by decide +kernel
theorem dX9_cutLine_470 : decode cX9_cutLine 470 = .ok (.ifCond .le 27, 3) := by decide +kernel
theorem dX9_cutLine_473 : decode cX9_cutLine 473 = .ok (.ldc2_w 122, 3) := by decide +kernel
theorem dX9_cutLine_476 : decode cX9_cutLine 476 = .ok (.lload 6, 2) := by decide +kernel
theorem dX9_cutLine_478 : decode cX9_cutLine 478 = .ok (.lmul, 1) := by decide +kernel
theorem dX9_cutLine_479 : decode cX9_cutLine 479 = .ok (.aload_n 0, 1) := by decide +kernel
theorem dX9_cutLine_480 : decode cX9_cutLine 480 = .ok (.getfield 20, 3) := by decide +kernel
theorem dX9_cutLine_483 : decode cX9_cutLine 483 = .ok (.iload_n 2, 1) := by decide +kernel
theorem dX9_cutLine_484 : decode cX9_cutLine 484 = .ok (.laload, 1) := by decide +kernel
theorem dX9_cutLine_485 : decode cX9_cutLine 485 = .ok (.ldiv, 1) := by decide +kernel
theorem dX9_cutLine_486 : decode cX9_cutLine 486 = .ok (.ldc2_w 167, 3) := by decide +kernel
theorem dX9_cutLine_489 : decode cX9_cutLine 489 = .ok (.lcmp, 1) := by decide +kernel
theorem dX9_cutLine_490 : decode cX9_cutLine 490 = .ok (.ifCond .lt 7, 3) := by decide +kernel
theorem dX9_cutLine_493 : decode cX9_cutLine 493 = .ok (.iconst 1, 1) := by decide +kernel
theorem dX9_cutLine_494 : decode cX9_cutLine 494 = .ok (.goto 4, 3) := by decide +kernel
theorem dX9_cutLine_497 : decode cX9_cutLine 497 = .ok (.iconst 0, 1) := by decide +kernel
theorem dX9_cutLine_498 : decode cX9_cutLine 498 = .ok (.bastore, 1) := by decide +kernel
theorem dX9_cutLine_499 : decode cX9_cutLine 499 = .ok (.iload 5, 2) := by decide +kernel
theorem dX9_cutLine_501 : decode cX9_cutLine 501 = .ok (.istore_n 2, 1) := by decide +kernel
theorem dX9_cutLine_502 : decode cX9_cutLine 502 = .ok (.goto (-493), 3) := by decide +kernel
theorem dX9_cutLine_505 : decode cX9_cutLine 505 = .ok (.return_, 1) := by decide +kernel
theorem dX9_start_0 : decode cX9_start 0 = .ok (.iload_n 2, 1) := by decide +kernel
theorem dX9_start_1 : decode cX9_start 1 = .ok (.ifCond .eq 13, 3) := by decide +kernel
theorem dX9_start_4 : decode cX9_start 4 = .ok (.aload_n 0, 1) := by decide +kernel
theorem dX9_start_5 : decode cX9_start 5 = .ok (.getfield 78, 3) := by decide +kernel
theorem dX9_start_8 : decode cX9_start 8 = .ok (.iload_n 1, 1) := by decide +kernel
theorem dX9_start_9 : decode cX9_start 9 = .ok (.laload, 1) := by decide +kernel
theorem dX9_start_10 : decode cX9_start 10 = .ok (.lneg, 1) := by decide +kernel
theorem dX9_start_11 : decode cX9_start 11 = .ok (.goto 9, 3) := by decide +kernel
theorem dX9_start_14 : decode cX9_start 14 = .ok (.aload_n 0, 1) := by decide +kernel
theorem dX9_start_15 : decode cX9_start 15 = .ok (.getfield 72, 3) := by decide +kernel
theorem dX9_start_18 : decode cX9_start 18 = .ok (.iload_n 1, 1) := by decide +kernel
theorem dX9_start_19 : decode cX9_start 19 = .ok (.laload, 1) := by decide +kernel
theorem dX9_start_20 : decode cX9_start 20 = .ok (.lreturn, 1) := by decide +kernel
theorem dX9_stop_0 : decode cX9_stop 0 = .ok (.iload_n 2, 1) := by decide +kernel
theorem dX9_stop_1 : decode cX9_stop 1 = .ok (.ifCond .eq 13, 3) := by decide +kernel
theorem dX9_stop_4 : decode cX9_stop 4 = .ok (.aload_n 0, 1) := by decide +kernel
theorem dX9_stop_5 : decode cX9_stop 5 = .ok (.getfield 81, 3) := by decide +kernel
theorem dX9_stop_8 : decode cX9_stop 8 = .ok (.iload_n 1, 1) := by decide +kernel
theorem dX9_stop_9 : decode cX9_stop 9 = .ok (.laload, 1) := by decide +kernel
theorem dX9_stop_10 : decode cX9_stop 10 = .ok (.lneg, 1) := by decide +kernel
theorem dX9_stop_11 : decode cX9_stop 11 = .ok (.goto 9, 3) := by decide +kernel
theorem dX9_stop_14 : decode cX9_stop 14 = .ok (.aload_n 0, 1) := by decide +kernel
theorem dX9_stop_15 : decode cX9_stop 15 = .ok (.getfield 75, 3) := by decide +kernel
theorem dX9_stop_18 : decode cX9_stop 18 = .ok (.iload_n 1, 1) := by decide +kernel
theorem dX9_stop_19 : decode cX9_stop 19 = .ok (.laload, 1) := by decide +kernel
theorem dX9_stop_20 : decode cX9_stop 20 = .ok (.lreturn, 1) := by decide +kernel
theorem dX9_gapBefore_0 : decode cX9_gapBefore 0 = .ok (.iconst 0, 1) := by decide +kernel
theorem dX9_gapBefore_1 : decode cX9_gapBefore 1 = .ok (.istore_n 3, 1) := by decide +kernel
theorem dX9_gapBefore_2 : decode cX9_gapBefore 2 = .ok (.lconst 0, 1) := by decide +kernel
theorem dX9_gapBefore_3 : decode cX9_gapBefore 3 = .ok (.lstore 4, 2) := by decide +kernel
theorem dX9_gapBefore_5 : decode cX9_gapBefore 5 = .ok (.iconst 0, 1) := by decide +kernel
theorem dX9_gapBefore_6 : decode cX9_gapBefore 6 = .ok (.istore 6, 2) := by decide +kernel
theorem dX9_gapBefore_8 : decode cX9_gapBefore 8 = .ok (.iload 6, 2) := by decide +kernel
theorem dX9_gapBefore_10 : decode cX9_gapBefore 10 = .ok (.aload_n 0, 1) := by decide +kernel
theorem dX9_gapBefore_11 : decode cX9_gapBefore 11 = .ok (.getfield 150, 3) := by decide +kernel
theorem dX9_gapBefore_14 : decode cX9_gapBefore 14 = .ok (.if_icmp .ge 75, 3) := by decide +kernel
theorem dX9_gapBefore_17 : decode cX9_gapBefore 17 = .ok (.aload_n 0, 1) := by decide +kernel
theorem dX9_gapBefore_18 : decode cX9_gapBefore 18 = .ok (.getfield 87, 3) := by decide +kernel
theorem dX9_gapBefore_21 : decode cX9_gapBefore 21 = .ok (.iload 6, 2) := by decide +kernel
theorem dX9_gapBefore_23 : decode cX9_gapBefore 23 = .ok (.iaload, 1) := by decide +kernel
theorem dX9_gapBefore_24 : decode cX9_gapBefore 24 = .ok (.aload_n 0, 1) := by decide +kernel
theorem dX9_gapBefore_25 : decode cX9_gapBefore 25 = .ok (.getfield 87, 3) := by decide +kernel
theorem dX9_gapBefore_28 : decode cX9_gapBefore 28 = .ok (.iload_n 1, 1) := by decide +kernel
theorem dX9_gapBefore_29 : decode cX9_gapBefore 29 = .ok (.iaload, 1) := by decide +kernel
theorem dX9_gapBefore_30 : decode cX9_gapBefore 30 = .ok (.if_icmp .ne 53, 3) := by decide +kernel
theorem dX9_gapBefore_33 : decode cX9_gapBefore 33 = .ok (.aload_n 0, 1) := by decide +kernel
theorem dX9_gapBefore_34 : decode cX9_gapBefore 34 = .ok (.iload 6, 2) := by decide +kernel
theorem dX9_gapBefore_36 : decode cX9_gapBefore 36 = .ok (.iload_n 2, 1) := by decide +kernel
theorem dX9_gapBefore_37 : decode cX9_gapBefore 37 = .ok (.invokevirtual 169, 3) := by decide +kernel
theorem dX9_gapBefore_40 : decode cX9_gapBefore 40 = .ok (.aload_n 0, 1) := by decide +kernel
theorem dX9_gapBefore_41 : decode cX9_gapBefore 41 = .ok (.iload_n 1, 1) := by decide +kernel
theorem dX9_gapBefore_42 : decode cX9_gapBefore 42 = .ok (.iload_n 2, 1) := by decide +kernel
theorem dX9_gapBefore_43 : decode cX9_gapBefore 43 = .ok (.invokevirtual 169, 3) := by decide +kernel
theorem dX9_gapBefore_46 : decode cX9_gapBefore 46 = .ok (.lcmp, 1) := by decide +kernel
theorem dX9_gapBefore_47 : decode cX9_gapBefore 47 = .ok (.ifCond .ge 36, 3) := by decide +kernel
theorem dX9_gapBefore_50 : decode cX9_gapBefore 50 = .ok (.iload_n 3, 1) := by decide +kernel
theorem dX9_gapBefore_51 : decode cX9_gapBefore 51 = .ok (.ifCond .eq 16, 3) := by decide +kernel
theorem dX9_gapBefore_54 : decode cX9_gapBefore 54 = .ok (.aload_n 0, 1) := by decide +kernel
theorem dX9_gapBefore_55 : decode cX9_gapBefore 55 = .ok (.iload 6, 2) := by decide +kernel
theorem dX9_gapBefore_57 : decode cX9_gapBefore 57 = .ok (.iload_n 2, 1) := by decide +kernel
theorem dX9_gapBefore_58 : decode cX9_gapBefore 58 = .ok (.invokevirtual 173, 3) := by decide +kernel
theorem dX9_gapBefore_61 : decode cX9_gapBefore 61 = .ok (.lload 4, 2) := by decide +kernel
theorem dX9_gapBefore_63 : decode cX9_gapBefore 63 = .ok (.lcmp, 1) := by decide +kernel
theorem dX9_gapBefore_64 : decode cX9_gapBefore 64 = .ok (.ifCond .le 13, 3) := by decide +kernel
theorem dX9_gapBefore_67 : decode cX9_gapBefore 67 = .ok (.aload_n 0, 1) := by decide +kernel
theorem dX9_gapBefore_68 : decode cX9_gapBefore 68 = .ok (.iload 6, 2) := by decide +kernel
theorem dX9_gapBefore_70 : decode cX9_gapBefore 70 = .ok (.iload_n 2, 1) := by decide +kernel
theorem dX9_gapBefore_71 : decode cX9_gapBefore 71 = .ok (.invokevirtual 173, 3) := by decide +kernel
theorem dX9_gapBefore_74 : decode cX9_gapBefore 74 = .ok (.goto 5, 3) := by decide +kernel
theorem dX9_gapBefore_77 : decode cX9_gapBefore 77 = .ok (.lload 4, 2) := by decide +kernel
theorem dX9_gapBefore_79 : decode cX9_gapBefore 79 = .ok (.lstore 4, 2) := by decide +kernel
theorem dX9_gapBefore_81 : decode cX9_gapBefore 81 = .ok (.iconst 1, 1) := by decide +kernel
theorem dX9_gapBefore_82 : decode cX9_gapBefore 82 = .ok (.istore_n 3, 1) := by decide +kernel
theorem dX9_gapBefore_83 : decode cX9_gapBefore 83 = .ok (.iinc 6 1, 3) := by decide +kernel
theorem dX9_gapBefore_86 : decode cX9_gapBefore 86 = .ok (.goto (-78), 3) := by decide +kernel
theorem dX9_gapBefore_89 : decode cX9_gapBefore 89 = .ok (.iload_n 3, 1) := by decide +kernel
theorem dX9_gapBefore_90 : decode cX9_gapBefore 90 = .ok (.ifCond .eq 15, 3) := by decide +kernel
theorem dX9_gapBefore_93 : decode cX9_gapBefore 93 = .ok (.aload_n 0, 1) := by decide +kernel
theorem dX9_gapBefore_94 : decode cX9_gapBefore 94 = .ok (.iload_n 1, 1) := by decide +kernel
theorem dX9_gapBefore_95 : decode cX9_gapBefore 95 = .ok (.iload_n 2, 1) := by decide +kernel
theorem dX9_gapBefore_96 : decode cX9_gapBefore 96 = .ok (.invokevirtual 169, 3) := by decide +kernel
theorem dX9_gapBefore_99 : decode cX9_gapBefore 99 = .ok (.lload 4, 2) := by decide +kernel
theorem dX9_gapBefore_101 : decode cX9_gapBefore 101 = .ok (.lsub, 1) := by decide +kernel
theorem dX9_gapBefore_102 : decode cX9_gapBefore 102 = .ok (.goto 4, 3) := by decide +kernel
theorem dX9_gapBefore_105 : decode cX9_gapBefore 105 = .ok (.lconst 0, 1) := by decide +kernel
theorem dX9_gapBefore_106 : decode cX9_gapBefore 106 = .ok (.lreturn, 1) := by decide +kernel
theorem dX9_hasGap_0 : decode cX9_hasGap 0 = .ok (.lload_n 3, 1) := by decide +kernel
theorem dX9_hasGap_1 : decode cX9_hasGap 1 = .ok (.lconst 1, 1) := by decide +kernel
theorem dX9_hasGap_2 : decode cX9_hasGap 2 = .ok (.lsub, 1) := by decide +kernel
theorem dX9_hasGap_3 : decode cX9_hasGap 3 = .ok (.lstore 5, 2) := by decide +kernel
theorem dX9_hasGap_5 : decode cX9_hasGap 5 = .ok (.iconst 0, 1) := by decide +kernel
theorem dX9_hasGap_6 : decode cX9_hasGap 6 = .ok (.istore 7, 2) := by decide +kernel
theorem dX9_hasGap_8 : decode cX9_hasGap 8 = .ok (.iconst 0, 1) := by decide +kernel
theorem dX9_hasGap_9 : decode cX9_hasGap 9 = .ok (.istore 8, 2) := by decide +kernel
theorem dX9_hasGap_11 : decode cX9_hasGap 11 = .ok (.iload 8, 2) := by decide +kernel
theorem dX9_hasGap_13 : decode cX9_hasGap 13 = .ok (.aload_n 0, 1) := by decide +kernel
theorem dX9_hasGap_14 : decode cX9_hasGap 14 = .ok (.getfield 150, 3) := by decide +kernel
theorem dX9_hasGap_17 : decode cX9_hasGap 17 = .ok (.if_icmp .ge 95, 3) := by decide +kernel
theorem dX9_hasGap_20 : decode cX9_hasGap 20 = .ok (.aload_n 0, 1) := by decide +kernel
theorem dX9_hasGap_21 : decode cX9_hasGap 21 = .ok (.getfield 87, 3) := by decide +kernel
theorem dX9_hasGap_24 : decode cX9_hasGap 24 = .ok (.iload 8, 2) := by decide +kernel
theorem dX9_hasGap_26 : decode cX9_hasGap 26 = .ok (.iaload, 1) := by decide +kernel
theorem dX9_hasGap_27 : decode cX9_hasGap 27 = .ok (.iload_n 1, 1) := by decide +kernel
theorem dX9_hasGap_28 : decode cX9_hasGap 28 = .ok (.if_icmp .ne 78, 3) := by decide +kernel
theorem dX9_hasGap_31 : decode cX9_hasGap 31 = .ok (.aload_n 0, 1) := by decide +kernel
theorem dX9_hasGap_32 : decode cX9_hasGap 32 = .ok (.iload 8, 2) := by decide +kernel
theorem dX9_hasGap_34 : decode cX9_hasGap 34 = .ok (.iload_n 2, 1) := by decide +kernel
theorem dX9_hasGap_35 : decode cX9_hasGap 35 = .ok (.invokevirtual 176, 3) := by decide +kernel
theorem dX9_hasGap_38 : decode cX9_hasGap 38 = .ok (.lstore 9, 2) := by decide +kernel
theorem dX9_hasGap_40 : decode cX9_hasGap 40 = .ok (.lload 9, 2) := by decide +kernel
theorem dX9_hasGap_42 : decode cX9_hasGap 42 = .ok (.lload 5, 2) := by decide +kernel
theorem dX9_hasGap_44 : decode cX9_hasGap 44 = .ok (.lcmp, 1) := by decide +kernel
theorem dX9_hasGap_45 : decode cX9_hasGap 45 = .ok (.ifCond .gt 31, 3) := by decide +kernel
theorem dX9_hasGap_48 : decode cX9_hasGap 48 = .ok (.iload 7, 2) := by decide +kernel
theorem dX9_hasGap_50 : decode cX9_hasGap 50 = .ok (.ifCond .eq 30, 3) := by decide +kernel
theorem dX9_hasGap_53 : decode cX9_hasGap 53 = .ok (.lload 9, 2) := by decide +kernel
theorem dX9_hasGap_55 : decode cX9_hasGap 55 = .ok (.lload 5, 2) := by decide +kernel
theorem dX9_hasGap_57 : decode cX9_hasGap 57 = .ok (.lcmp, 1) := by decide +kernel
theorem dX9_hasGap_58 : decode cX9_hasGap 58 = .ok (.ifCond .ne 22, 3) := by decide +kernel
theorem dX9_hasGap_61 : decode cX9_hasGap 61 = .ok (.aload_n 0, 1) := by decide +kernel
theorem dX9_hasGap_62 : decode cX9_hasGap 62 = .ok (.iload 8, 2) := by decide +kernel
theorem dX9_hasGap_64 : decode cX9_hasGap 64 = .ok (.iload_n 2, 1) := by decide +kernel
theorem dX9_hasGap_65 : decode cX9_hasGap 65 = .ok (.invokevirtual 169, 3) := by decide +kernel
theorem dX9_hasGap_68 : decode cX9_hasGap 68 = .ok (.aload_n 0, 1) := by decide +kernel
theorem dX9_hasGap_69 : decode cX9_hasGap 69 = .ok (.getfield 179, 3) := by decide +kernel
theorem dX9_hasGap_72 : decode cX9_hasGap 72 = .ok (.lcmp, 1) := by decide +kernel
theorem dX9_hasGap_73 : decode cX9_hasGap 73 = .ok (.ifCond .ge 7, 3) := by decide +kernel
theorem dX9_hasGap_76 : decode cX9_hasGap 76 = .ok (.iconst 1, 1) := by decide +kernel
theorem dX9_hasGap_77 : decode cX9_hasGap 77 = .ok (.goto 4, 3) := by decide +kernel
theorem dX9_hasGap_80 : decode cX9_hasGap 80 = .ok (.iconst 0, 1) := by decide +kernel
theorem dX9_hasGap_81 : decode cX9_hasGap 81 = .ok (.istore 11, 2) := by decide +kernel
theorem dX9_hasGap_83 : decode cX9_hasGap 83 = .ok (.iload 11, 2) := by decide +kernel
theorem dX9_hasGap_85 : decode cX9_hasGap 85 = .ok (.ifCond .eq 21, 3) := by decide +kernel
theorem dX9_hasGap_88 : decode cX9_hasGap 88 = .ok (.lload 9, 2) := by decide +kernel
theorem dX9_hasGap_90 : decode cX9_hasGap 90 = .ok (.lstore 5, 2) := by decide +kernel
theorem dX9_hasGap_92 : decode cX9_hasGap 92 = .ok (.aload_n 0, 1) := by decide +kernel
theorem dX9_hasGap_93 : decode cX9_hasGap 93 = .ok (.aload_n 0, 1) := by decide +kernel
theorem dX9_hasGap_94 : decode cX9_hasGap 94 = .ok (.iload 8, 2) := by decide +kernel
theorem dX9_hasGap_96 : decode cX9_hasGap 96 = .ok (.iload_n 2, 1) := by decide +kernel
theorem dX9_hasGap_97 : decode cX9_hasGap 97 = .ok (.invokevirtual 169, 3) := by decide +kernel
theorem dX9_hasGap_100 : decode cX9_hasGap 100 = .ok (.putfield 179, 3) := by decide +kernel
theorem dX9_hasGap_103 : decode cX9_hasGap 103 = .ok (.iconst 1, 1) := by decide +kernel
theorem dX9_hasGap_104 : decode cX9_hasGap 104 = .ok (.istore 7, 2) := by decide +kernel
theorem dX9_hasGap_106 : decode cX9_hasGap 106 = .ok (.iinc 8 1, 3) := by decide +kernel
theorem dX9_hasGap_109 : decode cX9_hasGap 109 = .ok (.goto (-98), 3) := by decide +kernel
theorem dX9_hasGap_112 : decode cX9_hasGap 112 = .ok (.iload 7, 2) := by decide +kernel
theorem dX9_hasGap_114 : decode cX9_hasGap 114 = .ok (.ireturn, 1) := by decide +kernel
theorem dX9_findGroups_0 : decode cX9_findGroups 0 = .ok (.aload_n 0, 1) := by decide +kernel
theorem dX9_findGroups_1 : decode cX9_findGroups 1 = .ok (.iconst 2, 1) := by decide +kernel
theorem dX9_findGroups_2 : decode cX9_findGroups 2 = .ok (.putfield 183, 3) := by decide +kernel
theorem dX9_findGroups_5 : decode cX9_findGroups 5 = .ok (.iconst 0, 1) := by decide +kernel
theorem dX9_findGroups_6 : decode cX9_findGroups 6 = .ok (.istore_n 1, 1) := by decide +kernel
theorem dX9_findGroups_7 : decode cX9_findGroups 7 = .ok (.iload_n 1, 1) := by decide +kernel
theorem dX9_findGroups_8 : decode cX9_findGroups 8 = .ok (.aload_n 0, 1) := by decide +kernel
theorem dX9_findGroups_9 : decode cX9_findGroups 9 = .ok (.getfield 183, 3) := by decide +kernel
theorem dX9_findGroups_12 : decode cX9_findGroups 12 = .ok (.if_icmp .ge 299, 3) := by decide +kernel
theorem dX9_findGroups_15 : decode cX9_findGroups 15 = .ok (.lconst 0, 1) := by decide +kernel
theorem dX9_findGroups_16 : decode cX9_findGroups 16 = .ok (.lstore_n 2, 1) := by decide +kernel
theorem dX9_findGroups_17 : decode cX9_findGroups 17 = .ok (.iconst 0, 1) := by decide +kernel
theorem dX9_findGroups_18 : decode cX9_findGroups 18 = .ok (.istore 4, 2) := by decide +kernel
theorem dX9_findGroups_20 : decode cX9_findGroups 20 = .ok (.iconst 0, 1) := by decide +kernel
theorem dX9_findGroups_21 : decode cX9_findGroups 21 = .ok (.istore 5, 2) := by decide +kernel
theorem dX9_findGroups_23 : decode cX9_findGroups 23 = .ok (.iload 5, 2) := by decide +kernel
theorem dX9_findGroups_25 : decode cX9_findGroups 25 = .ok (.aload_n 0, 1) := by decide +kernel
theorem dX9_findGroups_26 : decode cX9_findGroups 26 = .ok (.getfield 150, 3) := by decide +kernel
theorem dX9_findGroups_29 : decode cX9_findGroups 29 = .ok (.if_icmp .ge 75, 3) := by decide +kernel
theorem dX9_findGroups_32 : decode cX9_findGroups 32 = .ok (.aload_n 0, 1) := by decide +kernel
theorem dX9_findGroups_33 : decode cX9_findGroups 33 = .ok (.getfield 87, 3) := by decide +kernel
theorem dX9_findGroups_36 : decode cX9_findGroups 36 = .ok (.iload 5, 2) := by decide +kernel
theorem dX9_findGroups_38 : decode cX9_findGroups 38 = .ok (.iaload, 1) := by decide +kernel
theorem dX9_findGroups_39 : decode cX9_findGroups 39 = .ok (.iload_n 1, 1) := by decide +kernel
theorem dX9_findGroups_40 : decode cX9_findGroups 40 = .ok (.if_icmp .ne 7, 3) := by decide +kernel
theorem dX9_findGroups_43 : decode cX9_findGroups 43 = .ok (.iconst 1, 1) := by decide +kernel
theorem dX9_findGroups_44 : decode cX9_findGroups 44 = .ok (.goto 4, 3) := by decide +kernel
theorem dX9_findGroups_47 : decode cX9_findGroups 47 = .ok (.iconst 0, 1) := by decide +kernel
theorem dX9_findGroups_48 : decode cX9_findGroups 48 = .ok (.istore 6, 2) := by decide +kernel
theorem dX9_findGroups_50 : decode cX9_findGroups 50 = .ok (.iload 4, 2) := by decide +kernel
theorem dX9_findGroups_52 : decode cX9_findGroups 52 = .ok (.ifCond .ne 8, 3) := by decide +kernel
theorem dX9_findGroups_55 : decode cX9_findGroups 55 = .ok (.iload 6, 2) := by decide +kernel
theorem dX9_findGroups_57 : decode cX9_findGroups 57 = .ok (.ifCond .eq 7, 3) := by decide +kernel
theorem dX9_findGroups_60 : decode cX9_findGroups 60 = .ok (.iconst 1, 1) := by decide +kernel
theorem dX9_findGroups_61 : decode cX9_findGroups 61 = .ok (.goto 4, 3) := by decide +kernel
theorem dX9_findGroups_64 : decode cX9_findGroups 64 = .ok (.iconst 0, 1) := by decide +kernel
theorem dX9_findGroups_65 : decode cX9_findGroups 65 = .ok (.istore 4, 2) := by decide +kernel
theorem dX9_findGroups_67 : decode cX9_findGroups 67 = .ok (.iload 6, 2) := by decide +kernel
theorem dX9_findGroups_69 : decode cX9_findGroups 69 = .ok (.ifCond .eq 27, 3) := by decide +kernel
theorem dX9_findGroups_72 : decode cX9_findGroups 72 = .ok (.aload_n 0, 1) := by decide +kernel
theorem dX9_findGroups_73 : decode cX9_findGroups 73 = .ok (.getfield 84, 3) := by decide +kernel
theorem dX9_findGroups_76 : decode cX9_findGroups 76 = .ok (.iload 5, 2) := by decide +kernel
theorem dX9_findGroups_78 : decode cX9_findGroups 78 = .ok (.iaload, 1) := by decide +kernel
theorem dX9_findGroups_79 : decode cX9_findGroups 79 = .ok (.i2l, 1) := by decide +kernel
theorem dX9_findGroups_80 : decode cX9_findGroups 80 = .ok (.lload_n 2, 1) := by decide +kernel
theorem dX9_findGroups_81 : decode cX9_findGroups 81 = .ok (.lcmp, 1) := by decide +kernel
theorem dX9_findGroups_82 : decode cX9_findGroups 82 = .ok (.ifCond .le 14, 3) := by decide +kernel
theorem dX9_findGroups_85 : decode cX9_findGroups 85 = .ok (.aload_n 0, 1) := by decide +kernel
theorem dX9_findGroups_86 : decode cX9_findGroups 86 = .ok (.getfield 84, 3) := by decide +kernel
theorem dX9_findGroups_89 : decode cX9_findGroups 89 = .ok (.iload 5, 2) := by decide +kernel
theorem dX9_findGroups_91 : decode cX9_findGroups 91 = .ok (.iaload, 1) := by decide +kernel
theorem dX9_findGroups_92 : decode cX9_findGroups 92 = .ok (.i2l, 1) := by decide +kernel
theorem dX9_findGroups_93 : decode cX9_findGroups 93 = .ok (.goto 4, 3) := by decide +kernel
theorem dX9_findGroups_96 : decode cX9_findGroups 96 = .ok (.lload_n 2, 1) := by decide +kernel
theorem dX9_findGroups_97 : decode cX9_findGroups 97 = .ok (.lstore_n 2, 1) := by decide +kernel
theorem dX9_findGroups_98 : decode cX9_findGroups 98 = .ok (.iinc 5 1, 3) := by decide +kernel
theorem dX9_findGroups_101 : decode cX9_findGroups 101 = .ok (.goto (-78), 3) := by decide +kernel
theorem dX9_findGroups_104 : decode cX9_findGroups 104 = .ok (.aload_n 0, 1) := by decide +kernel
theorem dX9_findGroups_105 : decode cX9_findGroups 105 = .ok (.iload_n 1, 1) := by decide +kernel
theorem dX9_findGroups_106 : decode cX9_findGroups 106 = .ok (.iconst 0, 1) := by decide +kernel
theorem dX9_findGroups_107 : decode cX9_findGroups 107 = .ok (.ldc2_w 157, 3) := by decide +kernel
theorem dX9_findGroups_110 : decode cX9_findGroups 110 = .ok (.lload_n 2, 1) := by decide +kernel
theorem dX9_findGroups_111 : decode cX9_findGroups 111 = .ok (.lmul, 1) := by decide +kernel
theorem dX9_findGroups_112 : decode cX9_findGroups 112 = .ok (.invokevirtual 186, 3) := by decide +kernel
theorem dX9_findGroups_115 : decode cX9_findGroups 115 = .ok (.istore 5, 2) := by decide +kernel
theorem dX9_findGroups_117 : decode cX9_findGroups 117 = .ok (.iload 4, 2) := by decide +kernel
theorem dX9_findGroups_119 : decode cX9_findGroups 119 = .ok (.ifCond .eq 22, 3) := by decide +kernel
theorem dX9_findGroups_122 : decode cX9_findGroups 122 = .ok (.iload 5, 2) := by decide +kernel
theorem dX9_findGroups_124 : decode cX9_findGroups 124 = .ok (.ifCond .ne 13, 3) := by decide +kernel
theorem dX9_findGroups_127 : decode cX9_findGroups 127 = .ok (.aload_n 0, 1) := by decide +kernel
theorem dX9_findGroups_128 : decode cX9_findGroups 128 = .ok (.iload_n 1, 1) := by decide +kernel
theorem dX9_findGroups_129 : decode cX9_findGroups 129 = .ok (.iconst 1, 1) := by decide +kernel
theorem dX9_findGroups_130 : decode cX9_findGroups 130 = .ok (.lload_n 2, 1) := by decide +kernel
theorem dX9_findGroups_131 : decode cX9_findGroups 131 = .ok (.invokevirtual 186, 3) := by decide +kernel
theorem dX9_findGroups_134 : decode cX9_findGroups 134 = .ok (.ifCond .eq 7, 3) := by decide +kernel
theorem dX9_findGroups_137 : decode cX9_findGroups 137 = .ok (.iconst 1, 1) := by decide +kernel
theorem dX9_findGroups_138 : decode cX9_findGroups 138 = .ok (.goto 4, 3) := by decide +kernel
theorem dX9_findGroups_141 : decode cX9_findGroups 141 = .ok (.iconst 0, 1) := by decide +kernel
theorem dX9_findGroups_142 : decode cX9_findGroups 142 = .ok (.istore 6, 2) := by decide +kernel
theorem dX9_findGroups_144 : decode cX9_findGroups 144 = .ok (.iconst 0, 1) := by decide +kernel
theorem dX9_findGroups_145 : decode cX9_findGroups 145 = .ok (.istore 7, 2) := by decide +kernel
theorem dX9_findGroups_147 : decode cX9_findGroups 147 = .ok (.iload 7, 2) := by decide +kernel
theorem dX9_findGroups_149 : decode cX9_findGroups 149 = .ok (.aload_n 0, 1) := by decide +kernel
theorem dX9_findGroups_150 : decode cX9_findGroups 150 = .ok (.getfield 150, 3) := by decide +kernel
theorem dX9_findGroups_153 : decode cX9_findGroups 153 = .ok (.if_icmp .ge 101, 3) := by decide +kernel
theorem dX9_findGroups_156 : decode cX9_findGroups 156 = .ok (.iload 6, 2) := by decide +kernel
theorem dX9_findGroups_158 : decode cX9_findGroups 158 = .ok (.ifCond .eq 63, 3) := by decide +kernel
theorem dX9_findGroups_161 : decode cX9_findGroups 161 = .ok (.aload_n 0, 1) := by decide +kernel
theorem dX9_findGroups_162 : decode cX9_findGroups 162 = .ok (.getfield 87, 3) := by decide +kernel
theorem dX9_findGroups_165 : decode cX9_findGroups 165 = .ok (.iload 7, 2) := by decide +kernel
theorem dX9_findGroups_167 : decode cX9_findGroups 167 = .ok (.iaload, 1) := by decide +kernel
theorem dX9_findGroups_168 : decode cX9_findGroups 168 = .ok (.iload_n 1, 1) := by decide +kernel
theorem dX9_findGroups_169 : decode cX9_findGroups 169 = .ok (.if_icmp .gt 38, 3) := by decide +kernel
theorem dX9_findGroups_172 : decode cX9_findGroups 172 = .ok (.aload_n 0, 1) := by decide +kernel
theorem dX9_findGroups_173 : decode cX9_findGroups 173 = .ok (.getfield 87, 3) := by decide +kernel
theorem dX9_findGroups_176 : decode cX9_findGroups 176 = .ok (.iload 7, 2) := by decide +kernel
theorem dX9_findGroups_178 : decode cX9_findGroups 178 = .ok (.iaload, 1) := by decide +kernel
theorem dX9_findGroups_179 : decode cX9_findGroups 179 = .ok (.iload_n 1, 1) := by decide +kernel
theorem dX9_findGroups_180 : decode cX9_findGroups 180 = .ok (.if_icmp .ne 41, 3) := by decide +kernel
theorem dX9_findGroups_183 : decode cX9_findGroups 183 = .ok (.aload_n 0, 1) := by decide +kernel
theorem dX9_findGroups_184 : decode cX9_findGroups 184 = .ok (.iload 7, 2) := by decide +kernel
theorem dX9_findGroups_186 : decode cX9_findGroups 186 = .ok (.iload 5, 2) := by decide +kernel
theorem dX9_findGroups_188 : decode cX9_findGroups 188 = .ok (.ifCond .ne 7, 3) := by decide +kernel
theorem dX9_findGroups_191 : decode cX9_findGroups 191 = .ok (.iconst 1, 1) := by decide +kernel
theorem dX9_findGroups_192 : decode cX9_findGroups 192 = .ok (.goto 4, 3) := by decide +kernel
theorem dX9_findGroups_195 : decode cX9_findGroups 195 = .ok (.iconst 0, 1) := by decide +kernel
theorem dX9_findGroups_196 : decode cX9_findGroups 196 = .ok (.invokevirtual 169, 3) := by decide +kernel
theorem dX9_findGroups_199 : decode cX9_findGroups 199 = .ok (.aload_n 0, 1) := by decide +kernel
theorem dX9_findGroups_200 : decode cX9_findGroups 200 = .ok (.getfield 179, 3) := by decide +kernel
theorem dX9_findGroups_203 : decode cX9_findGroups 203 = .ok (.lcmp, 1) := by decide +kernel
theorem dX9_findGroups_204 : decode cX9_findGroups 204 = .ok (.ifCond .lt 17, 3) := by decide +kernel
theorem dX9_findGroups_207 : decode cX9_findGroups 207 = .ok (.aload_n 0, 1) := by decide +kernel
theorem dX9_findGroups_208 : decode cX9_findGroups 208 = .ok (.getfield 87, 3) := by decide +kernel
theorem dX9_findGroups_211 : decode cX9_findGroups 211 = .ok (.iload 7, 2) := by decide +kernel
theorem dX9_findGroups_213 : decode cX9_findGroups 213 = .ok (.dup2, 1) := by decide +kernel
theorem dX9_findGroups_214 : decode cX9_findGroups 214 = .ok (.iaload, 1) := by decide +kernel
theorem dX9_findGroups_215 : decode cX9_findGroups 215 = .ok (.iconst 1, 1) := by decide +kernel
theorem dX9_findGroups_216 : decode cX9_findGroups 216 = .ok (.iadd, 1) := by decide +kernel
theorem dX9_findGroups_217 : decode cX9_findGroups 217 = .ok (.iastore, 1) := by decide +kernel
theorem dX9_findGroups_218 : decode cX9_findGroups 218 = .ok (.goto 30, 3) := by decide +kernel
theorem dX9_findGroups_221 : decode cX9_findGroups 221 = .ok (.iload 4, 2) := by decide +kernel
theorem dX9_findGroups_223 : decode cX9_findGroups 223 = .ok (.ifCond .ne 25, 3) := by decide +kernel
theorem dX9_findGroups_226 : decode cX9_findGroups 226 = .ok (.aload_n 0, 1) := by decide +kernel
theorem dX9_findGroups_227 : decode cX9_findGroups 227 = .ok (.getfield 87, 3) := by decide +kernel
theorem dX9_findGroups_230 : decode cX9_findGroups 230 = .ok (.iload 7, 2) := by decide +kernel
theorem dX9_findGroups_232 : decode cX9_findGroups 232 = .ok (.iaload, 1) := by decide +kernel
theorem dX9_findGroups_233 : decode cX9_findGroups 233 = .ok (.iload_n 1, 1) := by decide +kernel
theorem dX9_findGroups_234 : decode cX9_findGroups 234 = .ok (.if_icmp .le 14, 3) := by decide +kernel
theorem dX9_findGroups_237 : decode cX9_findGroups 237 = .ok (.aload_n 0, 1) := by decide +kernel
theorem dX9_findGroups_238 : decode cX9_findGroups 238 = .ok (.getfield 87, 3) := by decide +kernel
theorem dX9_findGroups_241 : decode cX9_findGroups 241 = .ok (.iload 7, 2) := by decide +kernel
theorem dX9_findGroups_243 : decode cX9_findGroups 243 = .ok (.dup2, 1) := by decide +kernel
theorem dX9_findGroups_244 : decode cX9_findGroups 244 = .ok (.iaload, 1) := by decide +kernel
theorem dX9_findGroups_245 : decode cX9_findGroups 245 = .ok (.iconst 1, 1) := by decide +kernel
theorem dX9_findGroups_246 : decode cX9_findGroups 246 = .ok (.isub, 1) := by decide +kernel
theorem dX9_findGroups_247 : decode cX9_findGroups 247 = .ok (.iastore, 1) := by decide +kernel
theorem dX9_findGroups_248 : decode cX9_findGroups 248 = .ok (.iinc 7 1, 3) := by decide +kernel
theorem dX9_findGroups_251 : decode cX9_findGroups 251 = .ok (.goto (-104), 3) := by decide +kernel
theorem dX9_findGroups_254 : decode cX9_findGroups 254 = .ok (.aload_n 0, 1) := by decide +kernel
theorem dX9_findGroups_255 : decode cX9_findGroups 255 = .ok (.iload 6, 2) := by decide +kernel
theorem dX9_findGroups_257 : decode cX9_findGroups 257 = .ok (.ifCond .eq 12, 3) := by decide +kernel
theorem dX9_findGroups_260 : decode cX9_findGroups 260 = .ok (.aload_n 0, 1) := by decide +kernel
theorem dX9_findGroups_261 : decode cX9_findGroups 261 = .ok (.getfield 183, 3) := by decide +kernel
theorem dX9_findGroups_264 : decode cX9_findGroups 264 = .ok (.iconst 1, 1) := by decide +kernel
theorem dX9_findGroups_265 : decode cX9_findGroups 265 = .ok (.iadd, 1) := by decide +kernel
theorem dX9_findGroups_266 : decode cX9_findGroups 266 = .ok (.goto 21, 3) := by decide +kernel
theorem dX9_findGroups_269 : decode cX9_findGroups 269 = .ok (.iload 4, 2) := by decide +kernel
theorem dX9_findGroups_271 : decode cX9_findGroups 271 = .ok (.ifCond .eq 10, 3) := by decide +kernel
theorem dX9_findGroups_274 : decode cX9_findGroups 274 = .ok (.aload_n 0, 1) := by decide +kernel
theorem dX9_findGroups_275 : decode cX9_findGroups 275 = .ok (.getfield 183, 3) := by decide +kernel
theorem dX9_findGroups_278 : decode cX9_findGroups 278 = .ok (.goto 9, 3) := by decide +kernel
theorem dX9_findGroups_281 : decode cX9_findGroups 281 = .ok (.aload_n 0, 1) := by decide +kernel
theorem dX9_findGroups_282 : decode cX9_findGroups 282 = .ok (.getfield 183, 3) := by decide +kernel
theorem dX9_findGroups_285 : decode cX9_findGroups 285 = .ok (.iconst 1, 1) := by decide +kernel
theorem dX9_findGroups_286 : decode cX9_findGroups 286 = .ok (.isub, 1) := by decide +kernel
theorem dX9_findGroups_287 : decode cX9_findGroups 287 = .ok (.putfield 183, 3) := by decide +kernel
theorem dX9_findGroups_290 : decode cX9_findGroups 290 = .ok (.iload 4, 2) := by decide +kernel
theorem dX9_findGroups_292 : decode cX9_findGroups 292 = .ok (.ifCond .eq 14, 3) := by decide +kernel
theorem dX9_findGroups_295 : decode cX9_findGroups 295 = .ok (.iload 6, 2) := by decide +kernel
theorem dX9_findGroups_297 : decode cX9_findGroups 297 = .ok (.ifCond .ne 9, 3) := by decide +kernel
theorem dX9_findGroups_300 : decode cX9_findGroups 300 = .ok (.iload_n 1, 1) := by decide +kernel
theorem dX9_findGroups_301 : decode cX9_findGroups 301 = .ok (.iconst 1, 1) := by decide +kernel
theorem dX9_findGroups_302 : decode cX9_findGroups 302 = .ok (.iadd, 1) := by decide +kernel
theorem dX9_findGroups_303 : decode cX9_findGroups 303 = .ok (.goto 4, 3) := by decide +kernel
theorem dX9_findGroups_306 : decode cX9_findGroups 306 = .ok (.iload_n 1, 1) := by decide +kernel
theorem dX9_findGroups_307 : decode cX9_findGroups 307 = .ok (.istore_n 1, 1) := by decide +kernel
theorem dX9_findGroups_308 : decode cX9_findGroups 308 = .ok (.goto (-301), 3) := by decide +kernel
theorem dX9_findGroups_311 : decode cX9_findGroups 311 = .ok (.return_, 1) := by decide +kernel
theorem dX9_rank_0 : decode cX9_rank 0 = .ok (.iload_n 0, 1) := by decide +kernel
theorem dX9_rank_1 : decode cX9_rank 1 = .ok (.iconst (-1), 1) := by decide +kernel
theorem dX9_rank_2 : decode cX9_rank 2 = .ok (.if_icmp .ne 8, 3) := by decide +kernel
theorem dX9_rank_5 : decode cX9_rank 5 = .ok (.bipush 101, 2) := by decide +kernel
theorem dX9_rank_7 : decode cX9_rank 7 = .ok (.goto 4, 3) := by decide +kernel
theorem dX9_rank_10 : decode cX9_rank 10 = .ok (.iload_n 0, 1) := by decide +kernel
theorem dX9_rank_11 : decode cX9_rank 11 = .ok (.ireturn, 1) := by decide +kernel
theorem dX9_groupOf_0 : decode cX9_groupOf 0 = .ok (.aload_n 0, 1) := by decide +kernel
theorem dX9_groupOf_1 : decode cX9_groupOf 1 = .ok (.getfield 57, 3) := by decide +kernel
theorem dX9_groupOf_4 : decode cX9_groupOf 4 = .ok (.iload_n 1, 1) := by decide +kernel
theorem dX9_groupOf_5 : decode cX9_groupOf 5 = .ok (.iaload, 1) := by decide +kernel
theorem dX9_groupOf_6 : decode cX9_groupOf 6 = .ok (.iconst (-1), 1) := by decide +kernel
theorem dX9_groupOf_7 : decode cX9_groupOf 7 = .ok (.if_icmp .ne 7, 3) := by decide +kernel
theorem dX9_groupOf_10 : decode cX9_groupOf 10 = .ok (.iconst (-1), 1) := by decide +kernel
theorem dX9_groupOf_11 : decode cX9_groupOf 11 = .ok (.goto 14, 3) := by decide +kernel
theorem dX9_groupOf_14 : decode cX9_groupOf 14 = .ok (.aload_n 0, 1) := by decide +kernel
theorem dX9_groupOf_15 : decode cX9_groupOf 15 = .ok (.getfield 87, 3) := by decide +kernel
theorem dX9_groupOf_18 : decode cX9_groupOf 18 = .ok (.aload_n 0, 1) := by decide +kernel
theorem dX9_groupOf_19 : decode cX9_groupOf 19 = .ok (.getfield 57, 3) := by decide +kernel
theorem dX9_groupOf_22 : decode cX9_groupOf 22 = .ok (.iload_n 1, 1) := by decide +kernel
theorem dX9_groupOf_23 : decode cX9_groupOf 23 = .ok (.iaload, 1) := by decide +kernel
theorem dX9_groupOf_24 : decode cX9_groupOf 24 = .ok (.iaload, 1) := by decide +kernel
theorem dX9_groupOf_25 : decode cX9_groupOf 25 = .ok (.ireturn, 1) := by decide +kernel
theorem dX9_isBefore_0 : decode cX9_isBefore 0 = .ok (.aload_n 0, 1) := by decide +kernel
theorem dX9_isBefore_1 : decode cX9_isBefore 1 = .ok (.getfield 30, 3) := by decide +kernel
theorem dX9_isBefore_4 : decode cX9_isBefore 4 = .ok (.iload_n 1, 1) := by decide +kernel
theorem dX9_isBefore_5 : decode cX9_isBefore 5 = .ok (.iaload, 1) := by decide +kernel
theorem dX9_isBefore_6 : decode cX9_isBefore 6 = .ok (.invokestatic 190, 3) := by decide +kernel
theorem dX9_isBefore_9 : decode cX9_isBefore 9 = .ok (.aload_n 0, 1) := by decide +kernel
theorem dX9_isBefore_10 : decode cX9_isBefore 10 = .ok (.getfield 30, 3) := by decide +kernel
theorem dX9_isBefore_13 : decode cX9_isBefore 13 = .ok (.iload_n 2, 1) := by decide +kernel
theorem dX9_isBefore_14 : decode cX9_isBefore 14 = .ok (.iaload, 1) := by decide +kernel
theorem dX9_isBefore_15 : decode cX9_isBefore 15 = .ok (.invokestatic 190, 3) := by decide +kernel
theorem dX9_isBefore_18 : decode cX9_isBefore 18 = .ok (.if_icmp .eq 30, 3) := by decide +kernel
theorem dX9_isBefore_21 : decode cX9_isBefore 21 = .ok (.aload_n 0, 1) := by decide +kernel
theorem dX9_isBefore_22 : decode cX9_isBefore 22 = .ok (.getfield 30, 3) := by decide +kernel
theorem dX9_isBefore_25 : decode cX9_isBefore 25 = .ok (.iload_n 1, 1) := by decide +kernel
theorem dX9_isBefore_26 : decode cX9_isBefore 26 = .ok (.iaload, 1) := by decide +kernel
theorem dX9_isBefore_27 : decode cX9_isBefore 27 = .ok (.invokestatic 190, 3) := by decide +kernel
theorem dX9_isBefore_30 : decode cX9_isBefore 30 = .ok (.aload_n 0, 1) := by decide +kernel
theorem dX9_isBefore_31 : decode cX9_isBefore 31 = .ok (.getfield 30, 3) := by decide +kernel
theorem dX9_isBefore_34 : decode cX9_isBefore 34 = .ok (.iload_n 2, 1) := by decide +kernel
theorem dX9_isBefore_35 : decode cX9_isBefore 35 = .ok (.iaload, 1) := by decide +kernel
theorem dX9_isBefore_36 : decode cX9_isBefore 36 = .ok (.invokestatic 190, 3) := by decide +kernel
theorem dX9_isBefore_39 : decode cX9_isBefore 39 = .ok (.if_icmp .ge 7, 3) := by decide +kernel
theorem dX9_isBefore_42 : decode cX9_isBefore 42 = .ok (.iconst 1, 1) := by decide +kernel
theorem dX9_isBefore_43 : decode cX9_isBefore 43 = .ok (.goto 4, 3) := by decide +kernel
theorem dX9_isBefore_46 : decode cX9_isBefore 46 = .ok (.iconst 0, 1) := by decide +kernel
theorem dX9_isBefore_47 : decode cX9_isBefore 47 = .ok (.ireturn, 1) := by decide +kernel
theorem dX9_isBefore_48 : decode cX9_isBefore 48 = .ok (.aload_n 0, 1) := by decide +kernel
theorem dX9_isBefore_49 : decode cX9_isBefore 49 = .ok (.iload_n 1, 1) := by decide +kernel
theorem dX9_isBefore_50 : decode cX9_isBefore 50 = .ok (.invokevirtual 194, 3) := by decide +kernel
theorem dX9_isBefore_53 : decode cX9_isBefore 53 = .ok (.aload_n 0, 1) := by decide +kernel
theorem dX9_isBefore_54 : decode cX9_isBefore 54 = .ok (.iload_n 2, 1) := by decide +kernel
theorem dX9_isBefore_55 : decode cX9_isBefore 55 = .ok (.invokevirtual 194, 3) := by decide +kernel
theorem dX9_isBefore_58 : decode cX9_isBefore 58 = .ok (.if_icmp .eq 22, 3) := by decide +kernel
theorem dX9_isBefore_61 : decode cX9_isBefore 61 = .ok (.aload_n 0, 1) := by decide +kernel
theorem dX9_isBefore_62 : decode cX9_isBefore 62 = .ok (.iload_n 1, 1) := by decide +kernel
theorem dX9_isBefore_63 : decode cX9_isBefore 63 = .ok (.invokevirtual 194, 3) := by decide +kernel
theorem dX9_isBefore_66 : decode cX9_isBefore 66 = .ok (.aload_n 0, 1) := by decide +kernel
theorem dX9_isBefore_67 : decode cX9_isBefore 67 = .ok (.iload_n 2, 1) := by decide +kernel
theorem dX9_isBefore_68 : decode cX9_isBefore 68 = .ok (.invokevirtual 194, 3) := by decide +kernel
theorem dX9_isBefore_71 : decode cX9_isBefore 71 = .ok (.if_icmp .ge 7, 3) := by decide +kernel
theorem dX9_isBefore_74 : decode cX9_isBefore 74 = .ok (.iconst 1, 1) := by decide +kernel
theorem dX9_isBefore_75 : decode cX9_isBefore 75 = .ok (.goto 4, 3) := by decide +kernel
theorem dX9_isBefore_78 : decode cX9_isBefore 78 = .ok (.iconst 0, 1) := by decide +kernel
theorem dX9_isBefore_79 : decode cX9_isBefore 79 = .ok (.ireturn, 1) := by decide +kernel
theorem dX9_isBefore_80 : decode cX9_isBefore 80 = .ok (.aload_n 0, 1) := by decide +kernel
theorem dX9_isBefore_81 : decode cX9_isBefore 81 = .ok (.getfield 54, 3) := by decide +kernel
theorem dX9_isBefore_84 : decode cX9_isBefore 84 = .ok (.iload_n 1, 1) := by decide +kernel
theorem dX9_isBefore_85 : decode cX9_isBefore 85 = .ok (.iaload, 1) := by decide +kernel
theorem dX9_isBefore_86 : decode cX9_isBefore 86 = .ok (.aload_n 0, 1) := by decide +kernel
theorem dX9_isBefore_87 : decode cX9_isBefore 87 = .ok (.getfield 54, 3) := by decide +kernel
theorem dX9_isBefore_90 : decode cX9_isBefore 90 = .ok (.iload_n 2, 1) := by decide +kernel
theorem dX9_isBefore_91 : decode cX9_isBefore 91 = .ok (.iaload, 1) := by decide +kernel
theorem dX9_isBefore_92 : decode cX9_isBefore 92 = .ok (.if_icmp .eq 24, 3) := by decide +kernel
theorem dX9_isBefore_95 : decode cX9_isBefore 95 = .ok (.aload_n 0, 1) := by decide +kernel
theorem dX9_isBefore_96 : decode cX9_isBefore 96 = .ok (.getfield 54, 3) := by decide +kernel
theorem dX9_isBefore_99 : decode cX9_isBefore 99 = .ok (.iload_n 1, 1) := by decide +kernel
theorem dX9_isBefore_100 : decode cX9_isBefore 100 = .ok (.iaload, 1) := by decide +kernel
theorem dX9_isBefore_101 : decode cX9_isBefore 101 = .ok (.aload_n 0, 1) := by decide +kernel
theorem dX9_isBefore_102 : decode cX9_isBefore 102 = .ok (.getfield 54, 3) := by decide +kernel
theorem dX9_isBefore_105 : decode cX9_isBefore 105 = .ok (.iload_n 2, 1) := by decide +kernel
theorem dX9_isBefore_106 : decode cX9_isBefore 106 = .ok (.iaload, 1) := by decide +kernel
theorem dX9_isBefore_107 : decode cX9_isBefore 107 = .ok (.if_icmp .ge 7, 3) := by decide +kernel
theorem dX9_isBefore_110 : decode cX9_isBefore 110 = .ok (.iconst 1, 1) := by decide +kernel
theorem dX9_isBefore_111 : decode cX9_isBefore 111 = .ok (.goto 4, 3) := by decide +kernel
theorem dX9_isBefore_114 : decode cX9_isBefore 114 = .ok (.iconst 0, 1) := by decide +kernel
theorem dX9_isBefore_115 : decode cX9_isBefore 115 = .ok (.ireturn, 1) := by decide +kernel
theorem dX9_isBefore_116 : decode cX9_isBefore 116 = .ok (.aload_n 0, 1) := by decide +kernel
theorem dX9_isBefore_117 : decode cX9_isBefore 117 = .ok (.getfield 39, 3) := by decide +kernel
theorem dX9_isBefore_120 : decode cX9_isBefore 120 = .ok (.iload_n 1, 1) := by decide +kernel
theorem dX9_isBefore_121 : decode cX9_isBefore 121 = .ok (.laload, 1) := by decide +kernel
theorem dX9_isBefore_122 : decode cX9_isBefore 122 = .ok (.aload_n 0, 1) := by decide +kernel
theorem dX9_isBefore_123 : decode cX9_isBefore 123 = .ok (.getfield 39, 3) := by decide +kernel
theorem dX9_isBefore_126 : decode cX9_isBefore 126 = .ok (.iload_n 2, 1) := by decide +kernel
theorem dX9_isBefore_127 : decode cX9_isBefore 127 = .ok (.laload, 1) := by decide +kernel
theorem dX9_isBefore_128 : decode cX9_isBefore 128 = .ok (.lcmp, 1) := by decide +kernel
theorem dX9_isBefore_129 : decode cX9_isBefore 129 = .ok (.ifCond .eq 27, 3) := by decide +kernel
theorem dX9_isBefore_132 : decode cX9_isBefore 132 = .ok (.aload_n 0, 1) := by decide +kernel
theorem dX9_isBefore_133 : decode cX9_isBefore 133 = .ok (.getfield 39, 3) := by decide +kernel
theorem dX9_isBefore_136 : decode cX9_isBefore 136 = .ok (.iload_n 1, 1) := by decide +kernel
theorem dX9_isBefore_137 : decode cX9_isBefore 137 = .ok (.laload, 1) := by decide +kernel
theorem dX9_isBefore_138 : decode cX9_isBefore 138 = .ok (.aload_n 0, 1) := by decide +kernel
theorem dX9_isBefore_139 : decode cX9_isBefore 139 = .ok (.getfield 39, 3) := by decide +kernel
theorem dX9_isBefore_142 : decode cX9_isBefore 142 = .ok (.iload_n 2, 1) := by decide +kernel
theorem dX9_isBefore_143 : decode cX9_isBefore 143 = .ok (.laload, 1) := by decide +kernel
theorem dX9_isBefore_144 : decode cX9_isBefore 144 = .ok (.lcmp, 1) := by decide +kernel
theorem dX9_isBefore_145 : decode cX9_isBefore 145 = .ok (.ifCond .ge 7, 3) := by decide +kernel
theorem dX9_isBefore_148 : decode cX9_isBefore 148 = .ok (.iconst 1, 1) := by decide +kernel
theorem dX9_isBefore_149 : decode cX9_isBefore 149 = .ok (.goto 17, 3) := by decide +kernel
theorem dX9_isBefore_152 : decode cX9_isBefore 152 = .ok (.iconst 0, 1) := by decide +kernel
theorem dX9_isBefore_153 : decode cX9_isBefore 153 = .ok (.goto 13, 3) := by decide +kernel
theorem dX9_isBefore_156 : decode cX9_isBefore 156 = .ok (.iload_n 1, 1) := by decide +kernel
theorem dX9_isBefore_157 : decode cX9_isBefore 157 = .ok (.iload_n 2, 1) := by decide +kernel
theorem dX9_isBefore_158 : decode cX9_isBefore 158 = .ok (.if_icmp .ge 7, 3) := by decide +kernel
theorem dX9_isBefore_161 : decode cX9_isBefore 161 = .ok (.iconst 1, 1) := by decide +kernel
theorem dX9_isBefore_162 : decode cX9_isBefore 162 = .ok (.goto 4, 3) := by decide +kernel
theorem dX9_isBefore_165 : decode cX9_isBefore 165 = .ok (.iconst 0, 1) := by decide +kernel
theorem dX9_isBefore_166 : decode cX9_isBefore 166 = .ok (.ireturn, 1) := by decide +kernel
theorem dX9_put_0 : decode cX9_put 0 = .ok (.aload_n 0, 1) := by decide +kernel
theorem dX9_put_1 : decode cX9_put 1 = .ok (.getfield 93, 3) := by decide +kernel
theorem dX9_put_4 : decode cX9_put 4 = .ok (.aload_n 0, 1) := by decide +kernel
theorem dX9_put_5 : decode cX9_put 5 = .ok (.getfield 197, 3) := by decide +kernel
theorem dX9_put_8 : decode cX9_put 8 = .ok (.iload_n 1, 1) := by decide +kernel
theorem dX9_put_9 : decode cX9_put 9 = .ok (.iastore, 1) := by decide +kernel
theorem dX9_put_10 : decode cX9_put 10 = .ok (.aload_n 0, 1) := by decide +kernel
theorem dX9_put_11 : decode cX9_put 11 = .ok (.getfield 96, 3) := by decide +kernel
theorem dX9_put_14 : decode cX9_put 14 = .ok (.aload_n 0, 1) := by decide +kernel
theorem dX9_put_15 : decode cX9_put 15 = .ok (.getfield 197, 3) := by decide +kernel
theorem dX9_put_18 : decode cX9_put 18 = .ok (.iload_n 2, 1) := by decide +kernel
theorem dX9_put_19 : decode cX9_put 19 = .ok (.iastore, 1) := by decide +kernel
theorem dX9_put_20 : decode cX9_put 20 = .ok (.aload_n 0, 1) := by decide +kernel
theorem dX9_put_21 : decode cX9_put 21 = .ok (.dup, 1) := by decide +kernel
theorem dX9_put_22 : decode cX9_put 22 = .ok (.getfield 197, 3) := by decide +kernel
theorem dX9_put_25 : decode cX9_put 25 = .ok (.iconst 1, 1) := by decide +kernel
theorem dX9_put_26 : decode cX9_put 26 = .ok (.iadd, 1) := by decide +kernel
theorem dX9_put_27 : decode cX9_put 27 = .ok (.putfield 197, 3) := by decide +kernel
theorem dX9_put_30 : decode cX9_put 30 = .ok (.return_, 1) := by decide +kernel
theorem dX9_join_0 : decode cX9_join 0 = .ok (.aload_n 0, 1) := by decide +kernel
theorem dX9_join_1 : decode cX9_join 1 = .ok (.iload_n 1, 1) := by decide +kernel
theorem dX9_join_2 : decode cX9_join 2 = .ok (.invokevirtual 194, 3) := by decide +kernel
theorem dX9_join_5 : decode cX9_join 5 = .ok (.aload_n 0, 1) := by decide +kernel
theorem dX9_join_6 : decode cX9_join 6 = .ok (.iload_n 2, 1) := by decide +kernel
theorem dX9_join_7 : decode cX9_join 7 = .ok (.invokevirtual 194, 3) := by decide +kernel
theorem dX9_join_10 : decode cX9_join 10 = .ok (.if_icmp .ne 37, 3) := by decide +kernel
theorem dX9_join_13 : decode cX9_join 13 = .ok (.aload_n 0, 1) := by decide +kernel
theorem dX9_join_14 : decode cX9_join 14 = .ok (.getfield 57, 3) := by decide +kernel
theorem dX9_join_17 : decode cX9_join 17 = .ok (.iload_n 1, 1) := by decide +kernel
theorem dX9_join_18 : decode cX9_join 18 = .ok (.iaload, 1) := by decide +kernel
theorem dX9_join_19 : decode cX9_join 19 = .ok (.aload_n 0, 1) := by decide +kernel
theorem dX9_join_20 : decode cX9_join 20 = .ok (.getfield 57, 3) := by decide +kernel
theorem dX9_join_23 : decode cX9_join 23 = .ok (.iload_n 2, 1) := by decide +kernel
theorem dX9_join_24 : decode cX9_join 24 = .ok (.iaload, 1) := by decide +kernel
theorem dX9_join_25 : decode cX9_join 25 = .ok (.if_icmp .eq 22, 3) := by decide +kernel
theorem dX9_join_28 : decode cX9_join 28 = .ok (.aload_n 0, 1) := by decide +kernel
theorem dX9_join_29 : decode cX9_join 29 = .ok (.getfield 30, 3) := by decide +kernel
theorem dX9_join_32 : decode cX9_join 32 = .ok (.iload_n 1, 1) := by decide +kernel
theorem dX9_join_33 : decode cX9_join 33 = .ok (.iaload, 1) := by decide +kernel
theorem dX9_join_34 : decode cX9_join 34 = .ok (.aload_n 0, 1) := by decide +kernel
theorem dX9_join_35 : decode cX9_join 35 = .ok (.getfield 30, 3) := by decide +kernel
theorem dX9_join_38 : decode cX9_join 38 = .ok (.iload_n 2, 1) := by decide +kernel
theorem dX9_join_39 : decode cX9_join 39 = .ok (.iaload, 1) := by decide +kernel
theorem dX9_join_40 : decode cX9_join 40 = .ok (.if_icmp .ne 7, 3) := by decide +kernel
theorem dX9_join_43 : decode cX9_join 43 = .ok (.iconst 1, 1) := by decide +kernel
theorem dX9_join_44 : decode cX9_join 44 = .ok (.goto 4, 3) := by decide +kernel
theorem dX9_join_47 : decode cX9_join 47 = .ok (.iconst 0, 1) := by decide +kernel
theorem dX9_join_48 : decode cX9_join 48 = .ok (.istore_n 3, 1) := by decide +kernel
theorem dX9_join_49 : decode cX9_join 49 = .ok (.aload_n 0, 1) := by decide +kernel
theorem dX9_join_50 : decode cX9_join 50 = .ok (.getfield 60, 3) := by decide +kernel
theorem dX9_join_53 : decode cX9_join 53 = .ok (.iload_n 1, 1) := by decide +kernel
theorem dX9_join_54 : decode cX9_join 54 = .ok (.iaload, 1) := by decide +kernel
theorem dX9_join_55 : decode cX9_join 55 = .ok (.iload_n 2, 1) := by decide +kernel
theorem dX9_join_56 : decode cX9_join 56 = .ok (.if_icmp .ne 22, 3) := by decide +kernel
theorem dX9_join_59 : decode cX9_join 59 = .ok (.aload_n 0, 1) := by decide +kernel
theorem dX9_join_60 : decode cX9_join 60 = .ok (.getfield 63, 3) := by decide +kernel
theorem dX9_join_63 : decode cX9_join 63 = .ok (.iload_n 1, 1) := by decide +kernel
theorem dX9_join_64 : decode cX9_join 64 = .ok (.baload, 1) := by decide +kernel
theorem dX9_join_65 : decode cX9_join 65 = .ok (.ifCond .eq 84, 3) := by decide +kernel
theorem dX9_join_68 : decode cX9_join 68 = .ok (.aload_n 0, 1) := by decide +kernel
theorem dX9_join_69 : decode cX9_join 69 = .ok (.bipush 32, 2) := by decide +kernel
theorem dX9_join_71 : decode cX9_join 71 = .ok (.iconst (-1), 1) := by decide +kernel
theorem dX9_join_72 : decode cX9_join 72 = .ok (.invokevirtual 200, 3) := by decide +kernel
theorem dX9_join_75 : decode cX9_join 75 = .ok (.goto 74, 3) := by decide +kernel
theorem dX9_join_78 : decode cX9_join 78 = .ok (.iload_n 3, 1) := by decide +kernel
theorem dX9_join_79 : decode cX9_join 79 = .ok (.ifCond .eq 54, 3) := by decide +kernel
theorem dX9_join_82 : decode cX9_join 82 = .ok (.aload_n 0, 1) := by decide +kernel
theorem dX9_join_83 : decode cX9_join 83 = .ok (.getfield 93, 3) := by decide +kernel
theorem dX9_join_86 : decode cX9_join 86 = .ok (.aload_n 0, 1) := by decide +kernel
theorem dX9_join_87 : decode cX9_join 87 = .ok (.getfield 197, 3) := by decide +kernel
theorem dX9_join_90 : decode cX9_join 90 = .ok (.iconst 1, 1) := by decide +kernel
theorem dX9_join_91 : decode cX9_join 91 = .ok (.isub, 1) := by decide +kernel
theorem dX9_join_92 : decode cX9_join 92 = .ok (.iaload, 1) := by decide +kernel
theorem dX9_join_93 : decode cX9_join 93 = .ok (.bipush 45, 2) := by decide +kernel
theorem dX9_join_95 : decode cX9_join 95 = .ok (.if_icmp .ne 38, 3) := by decide +kernel
theorem dX9_join_98 : decode cX9_join 98 = .ok (.aload_n 0, 1) := by decide +kernel
theorem dX9_join_99 : decode cX9_join 99 = .ok (.getfield 45, 3) := by decide +kernel
theorem dX9_join_102 : decode cX9_join 102 = .ok (.iload_n 2, 1) := by decide +kernel
theorem dX9_join_103 : decode cX9_join 103 = .ok (.iaload, 1) := by decide +kernel
theorem dX9_join_104 : decode cX9_join 104 = .ok (.bipush 97, 2) := by decide +kernel
theorem dX9_join_106 : decode cX9_join 106 = .ok (.if_icmp .lt 27, 3) := by decide +kernel
theorem dX9_join_109 : decode cX9_join 109 = .ok (.aload_n 0, 1) := by decide +kernel
theorem dX9_join_110 : decode cX9_join 110 = .ok (.getfield 45, 3) := by decide +kernel
theorem dX9_join_113 : decode cX9_join 113 = .ok (.iload_n 2, 1) := by decide +kernel
theorem dX9_join_114 : decode cX9_join 114 = .ok (.iaload, 1) := by decide +kernel
theorem dX9_join_115 : decode cX9_join 115 = .ok (.bipush 122, 2) := by decide +kernel
theorem dX9_join_117 : decode cX9_join 117 = .ok (.if_icmp .gt 16, 3) := by decide +kernel
theorem dX9_join_120 : decode cX9_join 120 = .ok (.aload_n 0, 1) := by decide +kernel
theorem dX9_join_121 : decode cX9_join 121 = .ok (.dup, 1) := by decide +kernel
theorem dX9_join_122 : decode cX9_join 122 = .ok (.getfield 197, 3) := by decide +kernel
theorem dX9_join_125 : decode cX9_join 125 = .ok (.iconst 1, 1) := by decide +kernel
theorem dX9_join_126 : decode cX9_join 126 = .ok (.isub, 1) := by decide +kernel
theorem dX9_join_127 : decode cX9_join 127 = .ok (.putfield 197, 3) := by decide +kernel
theorem dX9_join_130 : decode cX9_join 130 = .ok (.goto 19, 3) := by decide +kernel
theorem dX9_join_133 : decode cX9_join 133 = .ok (.aload_n 0, 1) := by decide +kernel
theorem dX9_join_134 : decode cX9_join 134 = .ok (.iload_n 3, 1) := by decide +kernel
theorem dX9_join_135 : decode cX9_join 135 = .ok (.ifCond .eq 8, 3) := by decide +kernel
theorem dX9_join_138 : decode cX9_join 138 = .ok (.bipush 32, 2) := by decide +kernel
theorem dX9_join_140 : decode cX9_join 140 = .ok (.goto 5, 3) := by decide +kernel
theorem dX9_join_143 : decode cX9_join 143 = .ok (.bipush 10, 2) := by decide +kernel
theorem dX9_join_145 : decode cX9_join 145 = .ok (.iconst (-1), 1) := by decide +kernel
theorem dX9_join_146 : decode cX9_join 146 = .ok (.invokevirtual 200, 3) := by decide +kernel
theorem dX9_join_149 : decode cX9_join 149 = .ok (.return_, 1) := by decide +kernel
theorem dX9_look_0 : decode cX9_look 0 = .ok (.aload_n 0, 1) := by decide +kernel
theorem dX9_look_1 : decode cX9_look 1 = .ok (.getfield 128, 3) := by decide +kernel
theorem dX9_look_4 : decode cX9_look 4 = .ok (.ifCond .eq 4, 3) := by decide +kernel
theorem dX9_look_7 : decode cX9_look 7 = .ok (.return_, 1) := by decide +kernel
theorem dX9_look_8 : decode cX9_look 8 = .ok (.aload_n 0, 1) := by decide +kernel
theorem dX9_look_9 : decode cX9_look 9 = .ok (.iconst 1, 1) := by decide +kernel
theorem dX9_look_10 : decode cX9_look 10 = .ok (.putfield 128, 3) := by decide +kernel
theorem dX9_look_13 : decode cX9_look 13 = .ok (.iconst 0, 1) := by decide +kernel
theorem dX9_look_14 : decode cX9_look 14 = .ok (.istore_n 1, 1) := by decide +kernel
theorem dX9_look_15 : decode cX9_look 15 = .ok (.iload_n 1, 1) := by decide +kernel
theorem dX9_look_16 : decode cX9_look 16 = .ok (.aload_n 0, 1) := by decide +kernel
theorem dX9_look_17 : decode cX9_look 17 = .ok (.getfield 105, 3) := by decide +kernel
theorem dX9_look_20 : decode cX9_look 20 = .ok (.if_icmp .ge 14, 3) := by decide +kernel
theorem dX9_look_23 : decode cX9_look 23 = .ok (.aload_n 0, 1) := by decide +kernel
theorem dX9_look_24 : decode cX9_look 24 = .ok (.iload_n 1, 1) := by decide +kernel
theorem dX9_look_25 : decode cX9_look 25 = .ok (.invokevirtual 204, 3) := by decide +kernel
theorem dX9_look_28 : decode cX9_look 28 = .ok (.iinc 1 1, 3) := by decide +kernel
theorem dX9_look_31 : decode cX9_look 31 = .ok (.goto (-16), 3) := by decide +kernel
theorem dX9_look_34 : decode cX9_look 34 = .ok (.aload_n 0, 1) := by decide +kernel
theorem dX9_look_35 : decode cX9_look 35 = .ok (.invokevirtual 207, 3) := by decide +kernel
theorem dX9_look_38 : decode cX9_look 38 = .ok (.aload_n 0, 1) := by decide +kernel
theorem dX9_look_39 : decode cX9_look 39 = .ok (.invokevirtual 210, 3) := by decide +kernel
theorem dX9_look_42 : decode cX9_look 42 = .ok (.aload_n 0, 1) := by decide +kernel
theorem dX9_look_43 : decode cX9_look 43 = .ok (.iconst 0, 1) := by decide +kernel
theorem dX9_look_44 : decode cX9_look 44 = .ok (.putfield 213, 3) := by decide +kernel
theorem dX9_look_47 : decode cX9_look 47 = .ok (.iconst 0, 1) := by decide +kernel
theorem dX9_look_48 : decode cX9_look 48 = .ok (.istore_n 1, 1) := by decide +kernel
theorem dX9_look_49 : decode cX9_look 49 = .ok (.iload_n 1, 1) := by decide +kernel
theorem dX9_look_50 : decode cX9_look 50 = .ok (.aload_n 0, 1) := by decide +kernel
theorem dX9_look_51 : decode cX9_look 51 = .ok (.getfield 105, 3) := by decide +kernel
theorem dX9_look_54 : decode cX9_look 54 = .ok (.if_icmp .ge 81, 3) := by decide +kernel
theorem dX9_look_57 : decode cX9_look 57 = .ok (.aload_n 0, 1) := by decide +kernel
theorem dX9_look_58 : decode cX9_look 58 = .ok (.getfield 51, 3) := by decide +kernel
theorem dX9_look_61 : decode cX9_look 61 = .ok (.iload_n 1, 1) := by decide +kernel
theorem dX9_look_62 : decode cX9_look 62 = .ok (.iaload, 1) := by decide +kernel
theorem dX9_look_63 : decode cX9_look 63 = .ok (.iconst (-1), 1) := by decide +kernel
theorem dX9_look_64 : decode cX9_look 64 = .ok (.if_icmp .ne 65, 3) := by decide +kernel
theorem dX9_look_67 : decode cX9_look 67 = .ok (.aload_n 0, 1) := by decide +kernel
theorem dX9_look_68 : decode cX9_look 68 = .ok (.getfield 213, 3) := by decide +kernel
theorem dX9_look_71 : decode cX9_look 71 = .ok (.istore_n 2, 1) := by decide +kernel
theorem dX9_look_72 : decode cX9_look 72 = .ok (.iload_n 2, 1) := by decide +kernel
theorem dX9_look_73 : decode cX9_look 73 = .ok (.ifCond .le 39, 3) := by decide +kernel
theorem dX9_look_76 : decode cX9_look 76 = .ok (.aload_n 0, 1) := by decide +kernel
theorem dX9_look_77 : decode cX9_look 77 = .ok (.iload_n 1, 1) := by decide +kernel
theorem dX9_look_78 : decode cX9_look 78 = .ok (.aload_n 0, 1) := by decide +kernel
theorem dX9_look_79 : decode cX9_look 79 = .ok (.getfield 90, 3) := by decide +kernel
theorem dX9_look_82 : decode cX9_look 82 = .ok (.iload_n 2, 1) := by decide +kernel
theorem dX9_look_83 : decode cX9_look 83 = .ok (.iconst 1, 1) := by decide +kernel
theorem dX9_look_84 : decode cX9_look 84 = .ok (.isub, 1) := by decide +kernel
theorem dX9_look_85 : decode cX9_look 85 = .ok (.iaload, 1) := by decide +kernel
theorem dX9_look_86 : decode cX9_look 86 = .ok (.invokevirtual 216, 3) := by decide +kernel
theorem dX9_look_89 : decode cX9_look 89 = .ok (.ifCond .eq 23, 3) := by decide +kernel
theorem dX9_look_92 : decode cX9_look 92 = .ok (.aload_n 0, 1) := by decide +kernel
theorem dX9_look_93 : decode cX9_look 93 = .ok (.getfield 90, 3) := by decide +kernel
theorem dX9_look_96 : decode cX9_look 96 = .ok (.iload_n 2, 1) := by decide +kernel
theorem dX9_look_97 : decode cX9_look 97 = .ok (.aload_n 0, 1) := by decide +kernel
theorem dX9_look_98 : decode cX9_look 98 = .ok (.getfield 90, 3) := by decide +kernel
theorem dX9_look_101 : decode cX9_look 101 = .ok (.iload_n 2, 1) := by decide +kernel
theorem dX9_look_102 : decode cX9_look 102 = .ok (.iconst 1, 1) := by decide +kernel
theorem dX9_look_103 : decode cX9_look 103 = .ok (.isub, 1) := by decide +kernel
theorem dX9_look_104 : decode cX9_look 104 = .ok (.iaload, 1) := by decide +kernel
theorem dX9_look_105 : decode cX9_look 105 = .ok (.iastore, 1) := by decide +kernel
theorem dX9_look_106 : decode cX9_look 106 = .ok (.iinc 2 (-1), 3) := by decide +kernel
theorem dX9_look_109 : decode cX9_look 109 = .ok (.goto (-37), 3) := by decide +kernel
theorem dX9_look_112 : decode cX9_look 112 = .ok (.aload_n 0, 1) := by decide +kernel
theorem dX9_look_113 : decode cX9_look 113 = .ok (.getfield 90, 3) := by decide +kernel
theorem dX9_look_116 : decode cX9_look 116 = .ok (.iload_n 2, 1) := by decide +kernel
theorem dX9_look_117 : decode cX9_look 117 = .ok (.iload_n 1, 1) := by decide +kernel
theorem dX9_look_118 : decode cX9_look 118 = .ok (.iastore, 1) := by decide +kernel
theorem dX9_look_119 : decode cX9_look 119 = .ok (.aload_n 0, 1) := by decide +kernel
theorem dX9_look_120 : decode cX9_look 120 = .ok (.dup, 1) := by decide +kernel
theorem dX9_look_121 : decode cX9_look 121 = .ok (.getfield 213, 3) := by decide +kernel
theorem dX9_look_124 : decode cX9_look 124 = .ok (.iconst 1, 1) := by decide +kernel
theorem dX9_look_125 : decode cX9_look 125 = .ok (.iadd, 1) := by decide +kernel
theorem dX9_look_126 : decode cX9_look 126 = .ok (.putfield 213, 3) := by decide +kernel
theorem dX9_look_129 : decode cX9_look 129 = .ok (.iinc 1 1, 3) := by decide +kernel
theorem dX9_look_132 : decode cX9_look 132 = .ok (.goto (-83), 3) := by decide +kernel
theorem dX9_look_135 : decode cX9_look 135 = .ok (.aload_n 0, 1) := by decide +kernel
theorem dX9_look_136 : decode cX9_look 136 = .ok (.iconst 0, 1) := by decide +kernel
theorem dX9_look_137 : decode cX9_look 137 = .ok (.putfield 197, 3) := by decide +kernel
theorem dX9_look_140 : decode cX9_look 140 = .ok (.iconst 0, 1) := by decide +kernel
theorem dX9_look_141 : decode cX9_look 141 = .ok (.istore_n 1, 1) := by decide +kernel
theorem dX9_look_142 : decode cX9_look 142 = .ok (.iload_n 1, 1) := by decide +kernel
theorem dX9_look_143 : decode cX9_look 143 = .ok (.aload_n 0, 1) := by decide +kernel
theorem dX9_look_144 : decode cX9_look 144 = .ok (.getfield 213, 3) := by decide +kernel
theorem dX9_look_147 : decode cX9_look 147 = .ok (.if_icmp .ge 64, 3) := by decide +kernel
theorem dX9_look_150 : decode cX9_look 150 = .ok (.aload_n 0, 1) := by decide +kernel
theorem dX9_look_151 : decode cX9_look 151 = .ok (.getfield 90, 3) := by decide +kernel
theorem dX9_look_154 : decode cX9_look 154 = .ok (.iload_n 1, 1) := by decide +kernel
theorem dX9_look_155 : decode cX9_look 155 = .ok (.iaload, 1) := by decide +kernel
theorem dX9_look_156 : decode cX9_look 156 = .ok (.istore_n 2, 1) := by decide +kernel
theorem dX9_look_157 : decode cX9_look 157 = .ok (.iload_n 1, 1) := by decide +kernel
theorem dX9_look_158 : decode cX9_look 158 = .ok (.ifCond .le 16, 3) := by decide +kernel
theorem dX9_look_161 : decode cX9_look 161 = .ok (.aload_n 0, 1) := by decide +kernel
theorem dX9_look_162 : decode cX9_look 162 = .ok (.aload_n 0, 1) := by decide +kernel
theorem dX9_look_163 : decode cX9_look 163 = .ok (.getfield 90, 3) := by decide +kernel
theorem dX9_look_166 : decode cX9_look 166 = .ok (.iload_n 1, 1) := by decide +kernel
theorem dX9_look_167 : decode cX9_look 167 = .ok (.iconst 1, 1) := by decide +kernel
theorem dX9_look_168 : decode cX9_look 168 = .ok (.isub, 1) := by decide +kernel
theorem dX9_look_169 : decode cX9_look 169 = .ok (.iaload, 1) := by decide +kernel
theorem dX9_look_170 : decode cX9_look 170 = .ok (.iload_n 2, 1) := by decide +kernel
theorem dX9_look_171 : decode cX9_look 171 = .ok (.invokevirtual 219, 3) := by decide +kernel
theorem dX9_look_174 : decode cX9_look 174 = .ok (.aload_n 0, 1) := by decide +kernel
theorem dX9_look_175 : decode cX9_look 175 = .ok (.aload_n 0, 1) := by decide +kernel
theorem dX9_look_176 : decode cX9_look 176 = .ok (.getfield 45, 3) := by decide +kernel
theorem dX9_look_179 : decode cX9_look 179 = .ok (.iload_n 2, 1) := by decide +kernel
theorem dX9_look_180 : decode cX9_look 180 = .ok (.iaload, 1) := by decide +kernel
theorem dX9_look_181 : decode cX9_look 181 = .ok (.iload_n 2, 1) := by decide +kernel
theorem dX9_look_182 : decode cX9_look 182 = .ok (.invokevirtual 200, 3) := by decide +kernel
theorem dX9_look_185 : decode cX9_look 185 = .ok (.aload_n 0, 1) := by decide +kernel
theorem dX9_look_186 : decode cX9_look 186 = .ok (.getfield 48, 3) := by decide +kernel
theorem dX9_look_189 : decode cX9_look 189 = .ok (.iload_n 2, 1) := by decide +kernel
theorem dX9_look_190 : decode cX9_look 190 = .ok (.iaload, 1) := by decide +kernel
theorem dX9_look_191 : decode cX9_look 191 = .ok (.ifCond .le 14, 3) := by decide +kernel
theorem dX9_look_194 : decode cX9_look 194 = .ok (.aload_n 0, 1) := by decide +kernel
theorem dX9_look_195 : decode cX9_look 195 = .ok (.aload_n 0, 1) := by decide +kernel
theorem dX9_look_196 : decode cX9_look 196 = .ok (.getfield 48, 3) := by decide +kernel
theorem dX9_look_199 : decode cX9_look 199 = .ok (.iload_n 2, 1) := by decide +kernel
theorem dX9_look_200 : decode cX9_look 200 = .ok (.iaload, 1) := by decide +kernel
theorem dX9_look_201 : decode cX9_look 201 = .ok (.iload_n 2, 1) := by decide +kernel
theorem dX9_look_202 : decode cX9_look 202 = .ok (.invokevirtual 200, 3) := by decide +kernel
theorem dX9_look_205 : decode cX9_look 205 = .ok (.iinc 1 1, 3) := by decide +kernel
theorem dX9_look_208 : decode cX9_look 208 = .ok (.goto (-66), 3) := by decide +kernel
theorem dX9_look_211 : decode cX9_look 211 = .ok (.return_, 1) := by decide +kernel
theorem dX9_length_0 : decode cX9_length 0 = .ok (.aload_n 0, 1) := by decide +kernel
theorem dX9_length_1 : decode cX9_length 1 = .ok (.iconst 0, 1) := by decide +kernel
theorem dX9_length_2 : decode cX9_length 2 = .ok (.putfield 109, 3) := by decide +kernel
theorem dX9_length_5 : decode cX9_length 5 = .ok (.aload_n 0, 1) := by decide +kernel
theorem dX9_length_6 : decode cX9_length 6 = .ok (.invokevirtual 222, 3) := by decide +kernel
theorem dX9_length_9 : decode cX9_length 9 = .ok (.aload_n 0, 1) := by decide +kernel
theorem dX9_length_10 : decode cX9_length 10 = .ok (.getfield 197, 3) := by decide +kernel
theorem dX9_length_13 : decode cX9_length 13 = .ok (.ireturn, 1) := by decide +kernel
theorem dX9_letter_0 : decode cX9_letter 0 = .ok (.aload_n 0, 1) := by decide +kernel
theorem dX9_letter_1 : decode cX9_letter 1 = .ok (.invokevirtual 222, 3) := by decide +kernel
theorem dX9_letter_4 : decode cX9_letter 4 = .ok (.aload_n 0, 1) := by decide +kernel
theorem dX9_letter_5 : decode cX9_letter 5 = .ok (.iload_n 1, 1) := by decide +kernel
theorem dX9_letter_6 : decode cX9_letter 6 = .ok (.ifCond .lt 11, 3) := by decide +kernel
theorem dX9_letter_9 : decode cX9_letter 9 = .ok (.iload_n 1, 1) := by decide +kernel
theorem dX9_letter_10 : decode cX9_letter 10 = .ok (.aload_n 0, 1) := by decide +kernel
theorem dX9_letter_11 : decode cX9_letter 11 = .ok (.getfield 197, 3) := by decide +kernel
theorem dX9_letter_14 : decode cX9_letter 14 = .ok (.if_icmp .lt 7, 3) := by decide +kernel
theorem dX9_letter_17 : decode cX9_letter 17 = .ok (.iconst 1, 1) := by decide +kernel
theorem dX9_letter_18 : decode cX9_letter 18 = .ok (.goto 4, 3) := by decide +kernel
theorem dX9_letter_21 : decode cX9_letter 21 = .ok (.iconst 0, 1) := by decide +kernel
theorem dX9_letter_22 : decode cX9_letter 22 = .ok (.iconst 0, 1) := by decide +kernel
theorem dX9_letter_23 : decode cX9_letter 23 = .ok (.invokevirtual 124, 3) := by decide +kernel
theorem dX9_letter_26 : decode cX9_letter 26 = .ok (.ifCond .eq 7, 3) := by decide +kernel
theorem dX9_letter_29 : decode cX9_letter 29 = .ok (.iconst 0, 1) := by decide +kernel
theorem dX9_letter_30 : decode cX9_letter 30 = .ok (.goto 9, 3) := by decide +kernel
theorem dX9_letter_33 : decode cX9_letter 33 = .ok (.aload_n 0, 1) := by decide +kernel
theorem dX9_letter_34 : decode cX9_letter 34 = .ok (.getfield 93, 3) := by decide +kernel
theorem dX9_letter_37 : decode cX9_letter 37 = .ok (.iload_n 1, 1) := by decide +kernel
theorem dX9_letter_38 : decode cX9_letter 38 = .ok (.iaload, 1) := by decide +kernel
theorem dX9_letter_39 : decode cX9_letter 39 = .ok (.ireturn, 1) := by decide +kernel
theorem dX9_from_0 : decode cX9_from 0 = .ok (.aload_n 0, 1) := by decide +kernel
theorem dX9_from_1 : decode cX9_from 1 = .ok (.invokevirtual 222, 3) := by decide +kernel
theorem dX9_from_4 : decode cX9_from 4 = .ok (.aload_n 0, 1) := by decide +kernel
theorem dX9_from_5 : decode cX9_from 5 = .ok (.iload_n 1, 1) := by decide +kernel
theorem dX9_from_6 : decode cX9_from 6 = .ok (.ifCond .lt 11, 3) := by decide +kernel
theorem dX9_from_9 : decode cX9_from 9 = .ok (.iload_n 1, 1) := by decide +kernel
theorem dX9_from_10 : decode cX9_from 10 = .ok (.aload_n 0, 1) := by decide +kernel
theorem dX9_from_11 : decode cX9_from 11 = .ok (.getfield 197, 3) := by decide +kernel
theorem dX9_from_14 : decode cX9_from 14 = .ok (.if_icmp .lt 7, 3) := by decide +kernel
theorem dX9_from_17 : decode cX9_from 17 = .ok (.iconst 1, 1) := by decide +kernel
theorem dX9_from_18 : decode cX9_from 18 = .ok (.goto 4, 3) := by decide +kernel
theorem dX9_from_21 : decode cX9_from 21 = .ok (.iconst 0, 1) := by decide +kernel
theorem dX9_from_22 : decode cX9_from 22 = .ok (.iconst 0, 1) := by decide +kernel
theorem dX9_from_23 : decode cX9_from 23 = .ok (.invokevirtual 124, 3) := by decide +kernel
theorem dX9_from_26 : decode cX9_from 26 = .ok (.ifCond .eq 7, 3) := by decide +kernel
theorem dX9_from_29 : decode cX9_from 29 = .ok (.iconst 0, 1) := by decide +kernel
theorem dX9_from_30 : decode cX9_from 30 = .ok (.goto 9, 3) := by decide +kernel
theorem dX9_from_33 : decode cX9_from 33 = .ok (.aload_n 0, 1) := by decide +kernel
theorem dX9_from_34 : decode cX9_from 34 = .ok (.getfield 96, 3) := by decide +kernel
theorem dX9_from_37 : decode cX9_from 37 = .ok (.iload_n 1, 1) := by decide +kernel
theorem dX9_from_38 : decode cX9_from 38 = .ok (.iaload, 1) := by decide +kernel
theorem dX9_from_39 : decode cX9_from 39 = .ok (.ireturn, 1) := by decide +kernel
theorem dX9_line_0 : decode cX9_line 0 = .ok (.aload_n 0, 1) := by decide +kernel
theorem dX9_line_1 : decode cX9_line 1 = .ok (.invokevirtual 222, 3) := by decide +kernel
theorem dX9_line_4 : decode cX9_line 4 = .ok (.aload_n 0, 1) := by decide +kernel
theorem dX9_line_5 : decode cX9_line 5 = .ok (.aload_n 0, 1) := by decide +kernel
theorem dX9_line_6 : decode cX9_line 6 = .ok (.iload_n 1, 1) := by decide +kernel
theorem dX9_line_7 : decode cX9_line 7 = .ok (.invokevirtual 132, 3) := by decide +kernel
theorem dX9_line_10 : decode cX9_line 10 = .ok (.iconst 0, 1) := by decide +kernel
theorem dX9_line_11 : decode cX9_line 11 = .ok (.invokevirtual 124, 3) := by decide +kernel
theorem dX9_line_14 : decode cX9_line 14 = .ok (.ifCond .eq 7, 3) := by decide +kernel
theorem dX9_line_17 : decode cX9_line 17 = .ok (.iconst 0, 1) := by decide +kernel
theorem dX9_line_18 : decode cX9_line 18 = .ok (.goto 9, 3) := by decide +kernel
theorem dX9_line_21 : decode cX9_line 21 = .ok (.aload_n 0, 1) := by decide +kernel
theorem dX9_line_22 : decode cX9_line 22 = .ok (.getfield 54, 3) := by decide +kernel
theorem dX9_line_25 : decode cX9_line 25 = .ok (.iload_n 1, 1) := by decide +kernel
theorem dX9_line_26 : decode cX9_line 26 = .ok (.iaload, 1) := by decide +kernel
theorem dX9_line_27 : decode cX9_line 27 = .ok (.ireturn, 1) := by decide +kernel
theorem dX9_block_0 : decode cX9_block 0 = .ok (.aload_n 0, 1) := by decide +kernel
theorem dX9_block_1 : decode cX9_block 1 = .ok (.invokevirtual 222, 3) := by decide +kernel
theorem dX9_block_4 : decode cX9_block 4 = .ok (.aload_n 0, 1) := by decide +kernel
theorem dX9_block_5 : decode cX9_block 5 = .ok (.aload_n 0, 1) := by decide +kernel
theorem dX9_block_6 : decode cX9_block 6 = .ok (.iload_n 1, 1) := by decide +kernel
theorem dX9_block_7 : decode cX9_block 7 = .ok (.invokevirtual 132, 3) := by decide +kernel
theorem dX9_block_10 : decode cX9_block 10 = .ok (.iconst 0, 1) := by decide +kernel
theorem dX9_block_11 : decode cX9_block 11 = .ok (.invokevirtual 124, 3) := by decide +kernel
theorem dX9_block_14 : decode cX9_block 14 = .ok (.ifCond .eq 7, 3) := by decide +kernel
theorem dX9_block_17 : decode cX9_block 17 = .ok (.iconst 0, 1) := by decide +kernel
theorem dX9_block_18 : decode cX9_block 18 = .ok (.goto 8, 3) := by decide +kernel
theorem dX9_block_21 : decode cX9_block 21 = .ok (.aload_n 0, 1) := by decide +kernel
theorem dX9_block_22 : decode cX9_block 22 = .ok (.iload_n 1, 1) := by decide +kernel
theorem dX9_block_23 : decode cX9_block 23 = .ok (.invokevirtual 194, 3) := by decide +kernel
theorem dX9_block_26 : decode cX9_block 26 = .ok (.ireturn, 1) := by decide +kernel
theorem dX9_twice_0 : decode cX9_twice 0 = .ok (.aload_n 0, 1) := by decide +kernel
theorem dX9_twice_1 : decode cX9_twice 1 = .ok (.invokevirtual 222, 3) := by decide +kernel
theorem dX9_twice_4 : decode cX9_twice 4 = .ok (.aload_n 0, 1) := by decide +kernel
theorem dX9_twice_5 : decode cX9_twice 5 = .ok (.aload_n 0, 1) := by decide +kernel
theorem dX9_twice_6 : decode cX9_twice 6 = .ok (.iload_n 1, 1) := by decide +kernel
theorem dX9_twice_7 : decode cX9_twice 7 = .ok (.invokevirtual 132, 3) := by decide +kernel
theorem dX9_twice_10 : decode cX9_twice 10 = .ok (.iconst 0, 1) := by decide +kernel
theorem dX9_twice_11 : decode cX9_twice 11 = .ok (.invokevirtual 124, 3) := by decide +kernel
theorem dX9_twice_14 : decode cX9_twice 14 = .ok (.ifCond .eq 7, 3) := by decide +kernel
theorem dX9_twice_17 : decode cX9_twice 17 = .ok (.iconst 0, 1) := by decide +kernel
theorem dX9_twice_18 : decode cX9_twice 18 = .ok (.goto 9, 3) := by decide +kernel
theorem dX9_twice_21 : decode cX9_twice 21 = .ok (.aload_n 0, 1) := by decide +kernel
theorem dX9_twice_22 : decode cX9_twice 22 = .ok (.getfield 51, 3) := by decide +kernel
theorem dX9_twice_25 : decode cX9_twice 25 = .ok (.iload_n 1, 1) := by decide +kernel
theorem dX9_twice_26 : decode cX9_twice 26 = .ok (.iaload, 1) := by decide +kernel
theorem dX9_twice_27 : decode cX9_twice 27 = .ok (.ireturn, 1) := by decide +kernel
theorem dX9_space_0 : decode cX9_space 0 = .ok (.aload_n 0, 1) := by decide +kernel
theorem dX9_space_1 : decode cX9_space 1 = .ok (.invokevirtual 222, 3) := by decide +kernel
theorem dX9_space_4 : decode cX9_space 4 = .ok (.aload_n 0, 1) := by decide +kernel
theorem dX9_space_5 : decode cX9_space 5 = .ok (.aload_n 0, 1) := by decide +kernel
theorem dX9_space_6 : decode cX9_space 6 = .ok (.iload_n 1, 1) := by decide +kernel
theorem dX9_space_7 : decode cX9_space 7 = .ok (.invokevirtual 132, 3) := by decide +kernel
theorem dX9_space_10 : decode cX9_space 10 = .ok (.iconst 0, 1) := by decide +kernel
theorem dX9_space_11 : decode cX9_space 11 = .ok (.invokevirtual 124, 3) := by decide +kernel
theorem dX9_space_14 : decode cX9_space 14 = .ok (.ifCond .ne 16, 3) := by decide +kernel
theorem dX9_space_17 : decode cX9_space 17 = .ok (.aload_n 0, 1) := by decide +kernel
theorem dX9_space_18 : decode cX9_space 18 = .ok (.getfield 63, 3) := by decide +kernel
theorem dX9_space_21 : decode cX9_space 21 = .ok (.iload_n 1, 1) := by decide +kernel
theorem dX9_space_22 : decode cX9_space 22 = .ok (.baload, 1) := by decide +kernel
theorem dX9_space_23 : decode cX9_space 23 = .ok (.ifCond .eq 7, 3) := by decide +kernel
theorem dX9_space_26 : decode cX9_space 26 = .ok (.iconst 1, 1) := by decide +kernel
theorem dX9_space_27 : decode cX9_space 27 = .ok (.goto 4, 3) := by decide +kernel
theorem dX9_space_30 : decode cX9_space 30 = .ok (.iconst 0, 1) := by decide +kernel
theorem dX9_space_31 : decode cX9_space 31 = .ok (.ireturn, 1) := by decide +kernel
theorem dX9_share_0 : decode cX9_share 0 = .ok (.aload_n 0, 1) := by decide +kernel
theorem dX9_share_1 : decode cX9_share 1 = .ok (.lload_n 3, 1) := by decide +kernel
theorem dX9_share_2 : decode cX9_share 2 = .ok (.lconst 0, 1) := by decide +kernel
theorem dX9_share_3 : decode cX9_share 3 = .ok (.lcmp, 1) := by decide +kernel
theorem dX9_share_4 : decode cX9_share 4 = .ok (.ifCond .ne 7, 3) := by decide +kernel
theorem dX9_share_7 : decode cX9_share 7 = .ok (.iconst 1, 1) := by decide +kernel
theorem dX9_share_8 : decode cX9_share 8 = .ok (.goto 4, 3) := by decide +kernel
theorem dX9_share_11 : decode cX9_share 11 = .ok (.iconst 0, 1) := by decide +kernel
theorem dX9_share_12 : decode cX9_share 12 = .ok (.iconst 0, 1) := by decide +kernel
theorem dX9_share_13 : decode cX9_share 13 = .ok (.invokevirtual 124, 3) := by decide +kernel
theorem dX9_share_16 : decode cX9_share 16 = .ok (.ifCond .eq 7, 3) := by decide +kernel
theorem dX9_share_19 : decode cX9_share 19 = .ok (.lconst 0, 1) := by decide +kernel
theorem dX9_share_20 : decode cX9_share 20 = .ok (.goto 10, 3) := by decide +kernel
theorem dX9_share_23 : decode cX9_share 23 = .ok (.ldc2_w 122, 3) := by decide +kernel
theorem dX9_share_26 : decode cX9_share 26 = .ok (.lload_n 1, 1) := by decide +kernel
theorem dX9_share_27 : decode cX9_share 27 = .ok (.lmul, 1) := by decide +kernel
theorem dX9_share_28 : decode cX9_share 28 = .ok (.lload_n 3, 1) := by decide +kernel
theorem dX9_share_29 : decode cX9_share 29 = .ok (.ldiv, 1) := by decide +kernel
theorem dX9_share_30 : decode cX9_share 30 = .ok (.lreturn, 1) := by decide +kernel
theorem dX9_isBlank_0 : decode cX9_isBlank 0 = .ok (.iload_n 1, 1) := by decide +kernel
theorem dX9_isBlank_1 : decode cX9_isBlank 1 = .ok (.ifCond .lt 33, 3) := by decide +kernel
theorem dX9_isBlank_4 : decode cX9_isBlank 4 = .ok (.iload_n 1, 1) := by decide +kernel
theorem dX9_isBlank_5 : decode cX9_isBlank 5 = .ok (.aload_n 0, 1) := by decide +kernel
theorem dX9_isBlank_6 : decode cX9_isBlank 6 = .ok (.getfield 197, 3) := by decide +kernel
theorem dX9_isBlank_9 : decode cX9_isBlank 9 = .ok (.if_icmp .ge 25, 3) := by decide +kernel
theorem dX9_isBlank_12 : decode cX9_isBlank 12 = .ok (.aload_n 0, 1) := by decide +kernel
theorem dX9_isBlank_13 : decode cX9_isBlank 13 = .ok (.getfield 93, 3) := by decide +kernel
theorem dX9_isBlank_16 : decode cX9_isBlank 16 = .ok (.iload_n 1, 1) := by decide +kernel
theorem dX9_isBlank_17 : decode cX9_isBlank 17 = .ok (.iaload, 1) := by decide +kernel
theorem dX9_isBlank_18 : decode cX9_isBlank 18 = .ok (.bipush 32, 2) := by decide +kernel
theorem dX9_isBlank_20 : decode cX9_isBlank 20 = .ok (.if_icmp .eq 14, 3) := by decide +kernel
theorem dX9_isBlank_23 : decode cX9_isBlank 23 = .ok (.aload_n 0, 1) := by decide +kernel
theorem dX9_isBlank_24 : decode cX9_isBlank 24 = .ok (.getfield 93, 3) := by decide +kernel
theorem dX9_isBlank_27 : decode cX9_isBlank 27 = .ok (.iload_n 1, 1) := by decide +kernel
theorem dX9_isBlank_28 : decode cX9_isBlank 28 = .ok (.iaload, 1) := by decide +kernel
theorem dX9_isBlank_29 : decode cX9_isBlank 29 = .ok (.bipush 10, 2) := by decide +kernel
theorem dX9_isBlank_31 : decode cX9_isBlank 31 = .ok (.if_icmp .ne 7, 3) := by decide +kernel
theorem dX9_isBlank_34 : decode cX9_isBlank 34 = .ok (.iconst 1, 1) := by decide +kernel
theorem dX9_isBlank_35 : decode cX9_isBlank 35 = .ok (.goto 4, 3) := by decide +kernel
theorem dX9_isBlank_38 : decode cX9_isBlank 38 = .ok (.iconst 0, 1) := by decide +kernel
theorem dX9_isBlank_39 : decode cX9_isBlank 39 = .ok (.ireturn, 1) := by decide +kernel
theorem dX9_word_0 : decode cX9_word 0 = .ok (.aload_n 0, 1) := by decide +kernel
theorem dX9_word_1 : decode cX9_word 1 = .ok (.invokevirtual 222, 3) := by decide +kernel
theorem dX9_word_4 : decode cX9_word 4 = .ok (.iconst 0, 1) := by decide +kernel
theorem dX9_word_5 : decode cX9_word 5 = .ok (.istore_n 3, 1) := by decide +kernel
theorem dX9_word_6 : decode cX9_word 6 = .ok (.iconst (-1), 1) := by decide +kernel
theorem dX9_word_7 : decode cX9_word 7 = .ok (.istore 4, 2) := by decide +kernel
theorem dX9_word_9 : decode cX9_word 9 = .ok (.iconst 0, 1) := by decide +kernel
theorem dX9_word_10 : decode cX9_word 10 = .ok (.istore 5, 2) := by decide +kernel
theorem dX9_word_12 : decode cX9_word 12 = .ok (.iload 5, 2) := by decide +kernel
theorem dX9_word_14 : decode cX9_word 14 = .ok (.aload_n 0, 1) := by decide +kernel
theorem dX9_word_15 : decode cX9_word 15 = .ok (.getfield 197, 3) := by decide +kernel
theorem dX9_word_18 : decode cX9_word 18 = .ok (.if_icmp .ge 46, 3) := by decide +kernel
theorem dX9_word_21 : decode cX9_word 21 = .ok (.aload_n 0, 1) := by decide +kernel
theorem dX9_word_22 : decode cX9_word 22 = .ok (.iload 5, 2) := by decide +kernel
theorem dX9_word_24 : decode cX9_word 24 = .ok (.invokevirtual 225, 3) := by decide +kernel
theorem dX9_word_27 : decode cX9_word 27 = .ok (.ifCond .ne 31, 3) := by decide +kernel
theorem dX9_word_30 : decode cX9_word 30 = .ok (.aload_n 0, 1) := by decide +kernel
theorem dX9_word_31 : decode cX9_word 31 = .ok (.iload 5, 2) := by decide +kernel
theorem dX9_word_33 : decode cX9_word 33 = .ok (.iconst 1, 1) := by decide +kernel
theorem dX9_word_34 : decode cX9_word 34 = .ok (.isub, 1) := by decide +kernel
theorem dX9_word_35 : decode cX9_word 35 = .ok (.invokevirtual 225, 3) := by decide +kernel
theorem dX9_word_38 : decode cX9_word 38 = .ok (.ifCond .eq 20, 3) := by decide +kernel
theorem dX9_word_41 : decode cX9_word 41 = .ok (.iload_n 3, 1) := by decide +kernel
theorem dX9_word_42 : decode cX9_word 42 = .ok (.iload_n 1, 1) := by decide +kernel
theorem dX9_word_43 : decode cX9_word 43 = .ok (.if_icmp .ne 8, 3) := by decide +kernel
theorem dX9_word_46 : decode cX9_word 46 = .ok (.iload 5, 2) := by decide +kernel
theorem dX9_word_48 : decode cX9_word 48 = .ok (.goto 5, 3) := by decide +kernel
theorem dX9_word_51 : decode cX9_word 51 = .ok (.iload 4, 2) := by decide +kernel
theorem dX9_word_53 : decode cX9_word 53 = .ok (.istore 4, 2) := by decide +kernel
theorem dX9_word_55 : decode cX9_word 55 = .ok (.iinc 3 1, 3) := by decide +kernel
theorem dX9_word_58 : decode cX9_word 58 = .ok (.iinc 5 1, 3) := by decide +kernel
theorem dX9_word_61 : decode cX9_word 61 = .ok (.goto (-49), 3) := by decide +kernel
theorem dX9_word_64 : decode cX9_word 64 = .ok (.aload_n 0, 1) := by decide +kernel
theorem dX9_word_65 : decode cX9_word 65 = .ok (.iload_n 1, 1) := by decide +kernel
theorem dX9_word_66 : decode cX9_word 66 = .ok (.iconst (-1), 1) := by decide +kernel
theorem dX9_word_67 : decode cX9_word 67 = .ok (.if_icmp .eq 23, 3) := by decide +kernel
theorem dX9_word_70 : decode cX9_word 70 = .ok (.iload 4, 2) := by decide +kernel
theorem dX9_word_72 : decode cX9_word 72 = .ok (.iconst (-1), 1) := by decide +kernel
theorem dX9_word_73 : decode cX9_word 73 = .ok (.if_icmp .eq 13, 3) := by decide +kernel
theorem dX9_word_76 : decode cX9_word 76 = .ok (.iload_n 2, 1) := by decide +kernel
theorem dX9_word_77 : decode cX9_word 77 = .ok (.i2l, 1) := by decide +kernel
theorem dX9_word_78 : decode cX9_word 78 = .ok (.lconst 0, 1) := by decide +kernel
theorem dX9_word_79 : decode cX9_word 79 = .ok (.lconst 1, 1) := by decide +kernel
theorem dX9_word_80 : decode cX9_word 80 = .ok (.invokestatic 114, 3) := by decide +kernel
theorem dX9_word_83 : decode cX9_word 83 = .ok (.ifCond .ne 7, 3) := by decide +kernel
theorem dX9_word_86 : decode cX9_word 86 = .ok (.iconst 1, 1) := by decide +kernel
theorem dX9_word_87 : decode cX9_word 87 = .ok (.goto 4, 3) := by decide +kernel
theorem dX9_word_90 : decode cX9_word 90 = .ok (.iconst 0, 1) := by decide +kernel
theorem dX9_word_91 : decode cX9_word 91 = .ok (.iconst 0, 1) := by decide +kernel
theorem dX9_word_92 : decode cX9_word 92 = .ok (.invokevirtual 124, 3) := by decide +kernel
theorem dX9_word_95 : decode cX9_word 95 = .ok (.ifCond .eq 5, 3) := by decide +kernel
theorem dX9_word_98 : decode cX9_word 98 = .ok (.iconst 0, 1) := by decide +kernel
theorem dX9_word_99 : decode cX9_word 99 = .ok (.ireturn, 1) := by decide +kernel
theorem dX9_word_100 : decode cX9_word 100 = .ok (.iload_n 1, 1) := by decide +kernel
theorem dX9_word_101 : decode cX9_word 101 = .ok (.iconst (-1), 1) := by decide +kernel
theorem dX9_word_102 : decode cX9_word 102 = .ok (.if_icmp .eq 7, 3) := by decide +kernel
theorem dX9_word_105 : decode cX9_word 105 = .ok (.iload_n 2, 1) := by decide +kernel
theorem dX9_word_106 : decode cX9_word 106 = .ok (.ifCond .ne 15, 3) := by decide +kernel
theorem dX9_word_109 : decode cX9_word 109 = .ok (.iload_n 1, 1) := by decide +kernel
theorem dX9_word_110 : decode cX9_word 110 = .ok (.iconst (-1), 1) := by decide +kernel
theorem dX9_word_111 : decode cX9_word 111 = .ok (.if_icmp .ne 7, 3) := by decide +kernel
theorem dX9_word_114 : decode cX9_word 114 = .ok (.iload_n 3, 1) := by decide +kernel
theorem dX9_word_115 : decode cX9_word 115 = .ok (.goto 5, 3) := by decide +kernel
theorem dX9_word_118 : decode cX9_word 118 = .ok (.iload 4, 2) := by decide +kernel
theorem dX9_word_120 : decode cX9_word 120 = .ok (.ireturn, 1) := by decide +kernel
theorem dX9_word_121 : decode cX9_word 121 = .ok (.iconst 0, 1) := by decide +kernel
theorem dX9_word_122 : decode cX9_word 122 = .ok (.istore 5, 2) := by decide +kernel
theorem dX9_word_124 : decode cX9_word 124 = .ok (.aload_n 0, 1) := by decide +kernel
theorem dX9_word_125 : decode cX9_word 125 = .ok (.iload 4, 2) := by decide +kernel
theorem dX9_word_127 : decode cX9_word 127 = .ok (.iload 5, 2) := by decide +kernel
theorem dX9_word_129 : decode cX9_word 129 = .ok (.iadd, 1) := by decide +kernel
theorem dX9_word_130 : decode cX9_word 130 = .ok (.invokevirtual 225, 3) := by decide +kernel
theorem dX9_word_133 : decode cX9_word 133 = .ok (.ifCond .ne 9, 3) := by decide +kernel
theorem dX9_word_136 : decode cX9_word 136 = .ok (.iinc 5 1, 3) := by decide +kernel
theorem dX9_word_139 : decode cX9_word 139 = .ok (.goto (-15), 3) := by decide +kernel
theorem dX9_word_142 : decode cX9_word 142 = .ok (.iload 5, 2) := by decide +kernel
theorem dX9_word_144 : decode cX9_word 144 = .ok (.ireturn, 1) := by decide +kernel
theorem dX9_plain_0 : decode cX9_plain 0 = .ok (.iload_n 0, 1) := by decide +kernel
theorem dX9_plain_1 : decode cX9_plain 1 = .ok (.bipush 10, 2) := by decide +kernel
theorem dX9_plain_3 : decode cX9_plain 3 = .ok (.if_icmp .ne 8, 3) := by decide +kernel
theorem dX9_plain_6 : decode cX9_plain 6 = .ok (.bipush 32, 2) := by decide +kernel
theorem dX9_plain_8 : decode cX9_plain 8 = .ok (.goto 4, 3) := by decide +kernel
theorem dX9_plain_11 : decode cX9_plain 11 = .ok (.iload_n 0, 1) := by decide +kernel
theorem dX9_plain_12 : decode cX9_plain 12 = .ok (.ireturn, 1) := by decide +kernel
theorem dX9_stands_0 : decode cX9_stands 0 = .ok (.iconst 0, 1) := by decide +kernel
theorem dX9_stands_1 : decode cX9_stands 1 = .ok (.istore_n 2, 1) := by decide +kernel
theorem dX9_stands_2 : decode cX9_stands 2 = .ok (.iload_n 2, 1) := by decide +kernel
theorem dX9_stands_3 : decode cX9_stands 3 = .ok (.aload_n 0, 1) := by decide +kernel
theorem dX9_stands_4 : decode cX9_stands 4 = .ok (.getfield 228, 3) := by decide +kernel
theorem dX9_stands_7 : decode cX9_stands 7 = .ok (.if_icmp .ge 42, 3) := by decide +kernel
theorem dX9_stands_10 : decode cX9_stands 10 = .ok (.iload_n 1, 1) := by decide +kernel
theorem dX9_stands_11 : decode cX9_stands 11 = .ok (.iload_n 2, 1) := by decide +kernel
theorem dX9_stands_12 : decode cX9_stands 12 = .ok (.iadd, 1) := by decide +kernel
theorem dX9_stands_13 : decode cX9_stands 13 = .ok (.aload_n 0, 1) := by decide +kernel
theorem dX9_stands_14 : decode cX9_stands 14 = .ok (.getfield 197, 3) := by decide +kernel
theorem dX9_stands_17 : decode cX9_stands 17 = .ok (.if_icmp .ge 32, 3) := by decide +kernel
theorem dX9_stands_20 : decode cX9_stands 20 = .ok (.aload_n 0, 1) := by decide +kernel
theorem dX9_stands_21 : decode cX9_stands 21 = .ok (.getfield 93, 3) := by decide +kernel
theorem dX9_stands_24 : decode cX9_stands 24 = .ok (.iload_n 1, 1) := by decide +kernel
theorem dX9_stands_25 : decode cX9_stands 25 = .ok (.iload_n 2, 1) := by decide +kernel
theorem dX9_stands_26 : decode cX9_stands 26 = .ok (.iadd, 1) := by decide +kernel
theorem dX9_stands_27 : decode cX9_stands 27 = .ok (.iaload, 1) := by decide +kernel
theorem dX9_stands_28 : decode cX9_stands 28 = .ok (.invokestatic 231, 3) := by decide +kernel
theorem dX9_stands_31 : decode cX9_stands 31 = .ok (.aload_n 0, 1) := by decide +kernel
theorem dX9_stands_32 : decode cX9_stands 32 = .ok (.getfield 99, 3) := by decide +kernel
theorem dX9_stands_35 : decode cX9_stands 35 = .ok (.iload_n 2, 1) := by decide +kernel
theorem dX9_stands_36 : decode cX9_stands 36 = .ok (.iaload, 1) := by decide +kernel
theorem dX9_stands_37 : decode cX9_stands 37 = .ok (.invokestatic 231, 3) := by decide +kernel
theorem dX9_stands_40 : decode cX9_stands 40 = .ok (.if_icmp .ne 9, 3) := by decide +kernel
theorem dX9_stands_43 : decode cX9_stands 43 = .ok (.iinc 2 1, 3) := by decide +kernel
theorem dX9_stands_46 : decode cX9_stands 46 = .ok (.goto (-44), 3) := by decide +kernel
theorem dX9_stands_49 : decode cX9_stands 49 = .ok (.iload_n 2, 1) := by decide +kernel
theorem dX9_stands_50 : decode cX9_stands 50 = .ok (.aload_n 0, 1) := by decide +kernel
theorem dX9_stands_51 : decode cX9_stands 51 = .ok (.getfield 228, 3) := by decide +kernel
theorem dX9_stands_54 : decode cX9_stands 54 = .ok (.if_icmp .ne 7, 3) := by decide +kernel
theorem dX9_stands_57 : decode cX9_stands 57 = .ok (.iconst 1, 1) := by decide +kernel
theorem dX9_stands_58 : decode cX9_stands 58 = .ok (.goto 4, 3) := by decide +kernel
theorem dX9_stands_61 : decode cX9_stands 61 = .ok (.iconst 0, 1) := by decide +kernel
theorem dX9_stands_62 : decode cX9_stands 62 = .ok (.ireturn, 1) := by decide +kernel
theorem dX9_find_0 : decode cX9_find 0 = .ok (.aload_n 0, 1) := by decide +kernel
theorem dX9_find_1 : decode cX9_find 1 = .ok (.iload_n 1, 1) := by decide +kernel
theorem dX9_find_2 : decode cX9_find 2 = .ok (.i2l, 1) := by decide +kernel
theorem dX9_find_3 : decode cX9_find 3 = .ok (.lconst 0, 1) := by decide +kernel
theorem dX9_find_4 : decode cX9_find 4 = .ok (.ldc2_w 136, 3) := by decide +kernel
theorem dX9_find_7 : decode cX9_find 7 = .ok (.invokestatic 114, 3) := by decide +kernel
theorem dX9_find_10 : decode cX9_find 10 = .ok (.ifCond .ne 7, 3) := by decide +kernel
theorem dX9_find_13 : decode cX9_find 13 = .ok (.iconst 1, 1) := by decide +kernel
theorem dX9_find_14 : decode cX9_find 14 = .ok (.goto 4, 3) := by decide +kernel
theorem dX9_find_17 : decode cX9_find 17 = .ok (.iconst 0, 1) := by decide +kernel
theorem dX9_find_18 : decode cX9_find 18 = .ok (.iload_n 1, 1) := by decide +kernel
theorem dX9_find_19 : decode cX9_find 19 = .ok (.ifCond .le 16, 3) := by decide +kernel
theorem dX9_find_22 : decode cX9_find 22 = .ok (.aload_n 0, 1) := by decide +kernel
theorem dX9_find_23 : decode cX9_find 23 = .ok (.getfield 228, 3) := by decide +kernel
theorem dX9_find_26 : decode cX9_find 26 = .ok (.bipush 20, 2) := by decide +kernel
theorem dX9_find_28 : decode cX9_find 28 = .ok (.if_icmp .ne 7, 3) := by decide +kernel
theorem dX9_find_31 : decode cX9_find 31 = .ok (.iconst 1, 1) := by decide +kernel
theorem dX9_find_32 : decode cX9_find 32 = .ok (.goto 4, 3) := by decide +kernel
theorem dX9_find_35 : decode cX9_find 35 = .ok (.iconst 0, 1) := by decide +kernel
theorem dX9_find_36 : decode cX9_find 36 = .ok (.invokevirtual 124, 3) := by decide +kernel
theorem dX9_find_39 : decode cX9_find 39 = .ok (.ifCond .eq 5, 3) := by decide +kernel
theorem dX9_find_42 : decode cX9_find 42 = .ok (.iconst 0, 1) := by decide +kernel
theorem dX9_find_43 : decode cX9_find 43 = .ok (.ireturn, 1) := by decide +kernel
theorem dX9_find_44 : decode cX9_find 44 = .ok (.iload_n 1, 1) := by decide +kernel
theorem dX9_find_45 : decode cX9_find 45 = .ok (.ifCond .le 28, 3) := by decide +kernel
theorem dX9_find_48 : decode cX9_find 48 = .ok (.aload_n 0, 1) := by decide +kernel
theorem dX9_find_49 : decode cX9_find 49 = .ok (.getfield 99, 3) := by decide +kernel
theorem dX9_find_52 : decode cX9_find 52 = .ok (.aload_n 0, 1) := by decide +kernel
theorem dX9_find_53 : decode cX9_find 53 = .ok (.getfield 228, 3) := by decide +kernel
theorem dX9_find_56 : decode cX9_find 56 = .ok (.iload_n 1, 1) := by decide +kernel
theorem dX9_find_57 : decode cX9_find 57 = .ok (.iastore, 1) := by decide +kernel
theorem dX9_find_58 : decode cX9_find 58 = .ok (.aload_n 0, 1) := by decide +kernel
theorem dX9_find_59 : decode cX9_find 59 = .ok (.dup, 1) := by decide +kernel
theorem dX9_find_60 : decode cX9_find 60 = .ok (.getfield 228, 3) := by decide +kernel
theorem dX9_find_63 : decode cX9_find 63 = .ok (.iconst 1, 1) := by decide +kernel
theorem dX9_find_64 : decode cX9_find 64 = .ok (.iadd, 1) := by decide +kernel
theorem dX9_find_65 : decode cX9_find 65 = .ok (.putfield 228, 3) := by decide +kernel
theorem dX9_find_68 : decode cX9_find 68 = .ok (.aload_n 0, 1) := by decide +kernel
theorem dX9_find_69 : decode cX9_find 69 = .ok (.getfield 228, 3) := by decide +kernel
theorem dX9_find_72 : decode cX9_find 72 = .ok (.ireturn, 1) := by decide +kernel
theorem dX9_find_73 : decode cX9_find 73 = .ok (.aload_n 0, 1) := by decide +kernel
theorem dX9_find_74 : decode cX9_find 74 = .ok (.invokevirtual 222, 3) := by decide +kernel
theorem dX9_find_77 : decode cX9_find 77 = .ok (.aload_n 0, 1) := by decide +kernel
theorem dX9_find_78 : decode cX9_find 78 = .ok (.iconst 0, 1) := by decide +kernel
theorem dX9_find_79 : decode cX9_find 79 = .ok (.putfield 234, 3) := by decide +kernel
theorem dX9_find_82 : decode cX9_find 82 = .ok (.iconst 0, 1) := by decide +kernel
theorem dX9_find_83 : decode cX9_find 83 = .ok (.istore_n 2, 1) := by decide +kernel
theorem dX9_find_84 : decode cX9_find 84 = .ok (.iload_n 2, 1) := by decide +kernel
theorem dX9_find_85 : decode cX9_find 85 = .ok (.aload_n 0, 1) := by decide +kernel
theorem dX9_find_86 : decode cX9_find 86 = .ok (.getfield 197, 3) := by decide +kernel
theorem dX9_find_89 : decode cX9_find 89 = .ok (.if_icmp .ge 44, 3) := by decide +kernel
theorem dX9_find_92 : decode cX9_find 92 = .ok (.aload_n 0, 1) := by decide +kernel
theorem dX9_find_93 : decode cX9_find 93 = .ok (.getfield 228, 3) := by decide +kernel
theorem dX9_find_96 : decode cX9_find 96 = .ok (.ifCond .le 37, 3) := by decide +kernel
theorem dX9_find_99 : decode cX9_find 99 = .ok (.aload_n 0, 1) := by decide +kernel
theorem dX9_find_100 : decode cX9_find 100 = .ok (.iload_n 2, 1) := by decide +kernel
theorem dX9_find_101 : decode cX9_find 101 = .ok (.invokevirtual 237, 3) := by decide +kernel
theorem dX9_find_104 : decode cX9_find 104 = .ok (.ifCond .eq 23, 3) := by decide +kernel
theorem dX9_find_107 : decode cX9_find 107 = .ok (.aload_n 0, 1) := by decide +kernel
theorem dX9_find_108 : decode cX9_find 108 = .ok (.getfield 102, 3) := by decide +kernel
theorem dX9_find_111 : decode cX9_find 111 = .ok (.aload_n 0, 1) := by decide +kernel
theorem dX9_find_112 : decode cX9_find 112 = .ok (.getfield 234, 3) := by decide +kernel
theorem dX9_find_115 : decode cX9_find 115 = .ok (.iload_n 2, 1) := by decide +kernel
theorem dX9_find_116 : decode cX9_find 116 = .ok (.iastore, 1) := by decide +kernel
theorem dX9_find_117 : decode cX9_find 117 = .ok (.aload_n 0, 1) := by decide +kernel
theorem dX9_find_118 : decode cX9_find 118 = .ok (.dup, 1) := by decide +kernel
theorem dX9_find_119 : decode cX9_find 119 = .ok (.getfield 234, 3) := by decide +kernel
theorem dX9_find_122 : decode cX9_find 122 = .ok (.iconst 1, 1) := by decide +kernel
theorem dX9_find_123 : decode cX9_find 123 = .ok (.iadd, 1) := by decide +kernel
theorem dX9_find_124 : decode cX9_find 124 = .ok (.putfield 234, 3) := by decide +kernel
theorem dX9_find_127 : decode cX9_find 127 = .ok (.iinc 2 1, 3) := by decide +kernel
theorem dX9_find_130 : decode cX9_find 130 = .ok (.goto (-46), 3) := by decide +kernel
theorem dX9_find_133 : decode cX9_find 133 = .ok (.aload_n 0, 1) := by decide +kernel
theorem dX9_find_134 : decode cX9_find 134 = .ok (.iconst 0, 1) := by decide +kernel
theorem dX9_find_135 : decode cX9_find 135 = .ok (.putfield 228, 3) := by decide +kernel
theorem dX9_find_138 : decode cX9_find 138 = .ok (.aload_n 0, 1) := by decide +kernel
theorem dX9_find_139 : decode cX9_find 139 = .ok (.getfield 234, 3) := by decide +kernel
theorem dX9_find_142 : decode cX9_find 142 = .ok (.ireturn, 1) := by decide +kernel
theorem dX9_found_0 : decode cX9_found 0 = .ok (.aload_n 0, 1) := by decide +kernel
theorem dX9_found_1 : decode cX9_found 1 = .ok (.iload_n 1, 1) := by decide +kernel
theorem dX9_found_2 : decode cX9_found 2 = .ok (.ifCond .lt 11, 3) := by decide +kernel
theorem dX9_found_5 : decode cX9_found 5 = .ok (.iload_n 1, 1) := by decide +kernel
theorem dX9_found_6 : decode cX9_found 6 = .ok (.aload_n 0, 1) := by decide +kernel
theorem dX9_found_7 : decode cX9_found 7 = .ok (.getfield 234, 3) := by decide +kernel
theorem dX9_found_10 : decode cX9_found 10 = .ok (.if_icmp .lt 7, 3) := by decide +kernel
theorem dX9_found_13 : decode cX9_found 13 = .ok (.iconst 1, 1) := by decide +kernel
theorem dX9_found_14 : decode cX9_found 14 = .ok (.goto 4, 3) := by decide +kernel
theorem dX9_found_17 : decode cX9_found 17 = .ok (.iconst 0, 1) := by decide +kernel
theorem dX9_found_18 : decode cX9_found 18 = .ok (.iconst 0, 1) := by decide +kernel
theorem dX9_found_19 : decode cX9_found 19 = .ok (.invokevirtual 124, 3) := by decide +kernel
theorem dX9_found_22 : decode cX9_found 22 = .ok (.ifCond .eq 7, 3) := by decide +kernel
theorem dX9_found_25 : decode cX9_found 25 = .ok (.iconst 0, 1) := by decide +kernel
theorem dX9_found_26 : decode cX9_found 26 = .ok (.goto 9, 3) := by decide +kernel
theorem dX9_found_29 : decode cX9_found 29 = .ok (.aload_n 0, 1) := by decide +kernel
theorem dX9_found_30 : decode cX9_found 30 = .ok (.getfield 102, 3) := by decide +kernel
theorem dX9_found_33 : decode cX9_found 33 = .ok (.iload_n 1, 1) := by decide +kernel
theorem dX9_found_34 : decode cX9_found 34 = .ok (.iaload, 1) := by decide +kernel
theorem dX9_found_35 : decode cX9_found 35 = .ok (.ireturn, 1) := by decide +kernel
theorem dX9_area_0 : decode cX9_area 0 = .ok (.aload_n 0, 1) := by decide +kernel
theorem dX9_area_1 : decode cX9_area 1 = .ok (.iconst 0, 1) := by decide +kernel
theorem dX9_area_2 : decode cX9_area 2 = .ok (.putfield 109, 3) := by decide +kernel
theorem dX9_area_5 : decode cX9_area 5 = .ok (.aload_n 0, 1) := by decide +kernel
theorem dX9_area_6 : decode cX9_area 6 = .ok (.invokevirtual 222, 3) := by decide +kernel
theorem dX9_area_9 : decode cX9_area 9 = .ok (.iconst 0, 1) := by decide +kernel
theorem dX9_area_10 : decode cX9_area 10 = .ok (.istore 9, 2) := by decide +kernel
theorem dX9_area_12 : decode cX9_area 12 = .ok (.iconst 0, 1) := by decide +kernel
theorem dX9_area_13 : decode cX9_area 13 = .ok (.istore 10, 2) := by decide +kernel
theorem dX9_area_15 : decode cX9_area 15 = .ok (.iload 10, 2) := by decide +kernel
theorem dX9_area_17 : decode cX9_area 17 = .ok (.aload_n 0, 1) := by decide +kernel
theorem dX9_area_18 : decode cX9_area 18 = .ok (.getfield 197, 3) := by decide +kernel
theorem dX9_area_21 : decode cX9_area 21 = .ok (.if_icmp .ge 66, 3) := by decide +kernel
theorem dX9_area_24 : decode cX9_area 24 = .ok (.aload_n 0, 1) := by decide +kernel
theorem dX9_area_25 : decode cX9_area 25 = .ok (.getfield 96, 3) := by decide +kernel
theorem dX9_area_28 : decode cX9_area 28 = .ok (.iload 10, 2) := by decide +kernel
theorem dX9_area_30 : decode cX9_area 30 = .ok (.iaload, 1) := by decide +kernel
theorem dX9_area_31 : decode cX9_area 31 = .ok (.istore 11, 2) := by decide +kernel
theorem dX9_area_33 : decode cX9_area 33 = .ok (.iload 9, 2) := by decide +kernel
theorem dX9_area_35 : decode cX9_area 35 = .ok (.iload 11, 2) := by decide +kernel
theorem dX9_area_37 : decode cX9_area 37 = .ok (.iconst (-1), 1) := by decide +kernel
theorem dX9_area_38 : decode cX9_area 38 = .ok (.if_icmp .eq 39, 3) := by decide +kernel
theorem dX9_area_41 : decode cX9_area 41 = .ok (.aload_n 0, 1) := by decide +kernel
theorem dX9_area_42 : decode cX9_area 42 = .ok (.getfield 13, 3) := by decide +kernel
theorem dX9_area_45 : decode cX9_area 45 = .ok (.iload 11, 2) := by decide +kernel
theorem dX9_area_47 : decode cX9_area 47 = .ok (.laload, 1) := by decide +kernel
theorem dX9_area_48 : decode cX9_area 48 = .ok (.lload_n 1, 1) := by decide +kernel
theorem dX9_area_49 : decode cX9_area 49 = .ok (.lload 5, 2) := by decide +kernel
theorem dX9_area_51 : decode cX9_area 51 = .ok (.invokestatic 114, 3) := by decide +kernel
theorem dX9_area_54 : decode cX9_area 54 = .ok (.ifCond .eq 23, 3) := by decide +kernel
theorem dX9_area_57 : decode cX9_area 57 = .ok (.aload_n 0, 1) := by decide +kernel
theorem dX9_area_58 : decode cX9_area 58 = .ok (.getfield 17, 3) := by decide +kernel
theorem dX9_area_61 : decode cX9_area 61 = .ok (.iload 11, 2) := by decide +kernel
theorem dX9_area_63 : decode cX9_area 63 = .ok (.laload, 1) := by decide +kernel
theorem dX9_area_64 : decode cX9_area 64 = .ok (.lload_n 3, 1) := by decide +kernel
theorem dX9_area_65 : decode cX9_area 65 = .ok (.lload 7, 2) := by decide +kernel
theorem dX9_area_67 : decode cX9_area 67 = .ok (.invokestatic 114, 3) := by decide +kernel
theorem dX9_area_70 : decode cX9_area 70 = .ok (.ifCond .eq 7, 3) := by decide +kernel
theorem dX9_area_73 : decode cX9_area 73 = .ok (.iconst 1, 1) := by decide +kernel
theorem dX9_area_74 : decode cX9_area 74 = .ok (.goto 4, 3) := by decide +kernel
theorem dX9_area_77 : decode cX9_area 77 = .ok (.iconst 0, 1) := by decide +kernel
theorem dX9_area_78 : decode cX9_area 78 = .ok (.iadd, 1) := by decide +kernel
theorem dX9_area_79 : decode cX9_area 79 = .ok (.istore 9, 2) := by decide +kernel
theorem dX9_area_81 : decode cX9_area 81 = .ok (.iinc 10 1, 3) := by decide +kernel
theorem dX9_area_84 : decode cX9_area 84 = .ok (.goto (-69), 3) := by decide +kernel
theorem dX9_area_87 : decode cX9_area 87 = .ok (.iload 9, 2) := by decide +kernel
theorem dX9_area_89 : decode cX9_area 89 = .ok (.ireturn, 1) := by decide +kernel
